section
variable {b : BTy} {n : Nat} {σ : Sto} {tr : Nat → Term} {P : PSt}
abbrev MNE : List Nat := [38, 39, 40, 41, 42, 43, 44, 46, 47, 48, 49]
/-- the above with T's told anew, then the test's -/
theorem m_above {ρ : Nat → Int32} {x k xv : Int32} {β : Type} {K : Sto → Option β} {R : β → Prop} {s0 : Sto} (hx : 0 ≤ x.toInt ∧ x.toInt < 40) (h : RLM (x.toNatClampNeg, ρ) s0 n tr P) (h0 : 0 ≤ k.toInt) (hk : k.toInt < (pHt P : Int)) (hxv : 0 ≤ xv.toInt) (hK : ∀ s, RMA (x.toNatClampNeg, ρ) MNE s0 n tr (pRpl k.toNatClampNeg xv.toNatClampNeg P) s → PC (K s) R) : PC (lt (k + 1) fun x6_28 => itr (fun _ _ => none) (fun (a_148 : Int32 → Sto → Option β) (x6_29 : Int32) (s_29 : Sto) => (
                  if (s_29.1 50 0) ≤ x6_29 then (
                    ix 40 x <| lt (s_29.1 46 x.toNatClampNeg) fun v_31 =>
                    if v_31 = (-1) then (
                      K s_29
                    ) else (
                      ix 40 x <| lt (s_29.1 46 x.toNatClampNeg) fun v_33 =>
                      calv (f_X12_with 250 v_33 k xv s_29) fun v_34 s_34 =>
                      ix 40 x <| lt (sti s_34 46 x.toNatClampNeg v_34) fun s_35 =>
                      K s_35
                    )
                  ) else (
                    ix 8 x6_29 <| lt (s_29.1 49 x6_29.toNatClampNeg) fun v_36 =>
                    calv (f_X12_with 250 v_36 k xv s_29) fun v_37 s_37 =>
                    ix 8 x6_29 <| lt (sti s_37 49 x6_29.toNatClampNeg v_37) fun s_38 =>
                    lt (x6_29 + 1) fun x6_39 =>
                    a_148 x6_39 s_38
                  )
                )) LF x6_28 s0) R := by
  have k_m1 : ((-1) : Int32).toInt = -1 := by decide +kernel
  have ck := clamp_I h0
  have e50 := h.2.1
  have t50 := tI_rng (s0.1 50 0)
  have ek : (k + 1).toInt = k.toInt + 1 := i1 (by omega)
  refine pc_lt fun x1 e1 => ?_
  subst e1
  refine pc_itr2 (fun y s => k.toInt < y.toInt ∧ y.toInt ≤ (pHt P : Int) ∧ RMA (x.toNatClampNeg, ρ) MNE s0 n tr (pRpu k.toNatClampNeg xv.toNatClampNeg y.toNatClampNeg P) s) ?_ ⟨by omega, by omega, FR.rf, n, tr, ?_, EXT.rf⟩
  · intro ag y s I ih
    obtain ⟨i1_, i2, i3, n2, tr2, r1, r2⟩ := I
    have cy := clamp_I (x := y) (by omega)
    have hh : (s.1 50 0).toInt = (pHt P : Int) := r1.2.1
    refine pc_ite (fun c => ?_) (fun c => ?_)
    · rw [fa_le, hh] at c
      have ye : y.toNatClampNeg = pHt P := by omega
      rw [ye] at r1
      have r7 : EXV (s.1 46 x.toNatClampNeg) n2 tr2 (pTs P) := r1.2.2.2.2.2.2.1
      refine pc_ix (fun _ => ?_)
      refine pc_lt fun v4 e4 => ?_
      rw [← e4] at r7
      refine pc_ite (fun c2 => ?_) (fun c2 => ?_)
      · rw [fa_eq, k_m1] at c2
        cases z : pTs P with
        | some u =>
          rw [z] at r7
          obtain ⟨e, a1, _⟩ := r7.so
          omega
        | none =>
          refine hK s ⟨i3, n2, tr2, ?_, r2⟩
          have q : pRpl k.toNatClampNeg xv.toNatClampNeg P = pRpu k.toNatClampNeg xv.toNatClampNeg (pHt P) P := by
            rw [← pRpu_e, z]
            show (_, _, _, _, _, none) = (_, _, _, _, _, pTs P)
            rw [z]
            rfl
          rw [q]
          exact r1
      · rw [fa_eq, k_m1] at c2
        cases z : pTs P with
        | none => rw [z] at r7; exact absurd r7.no c2
        | some u =>
          rw [z] at r7
          refine pc_ix (fun _ => ?_)
          refine pc_lt fun v6 e6 => ?_
          rw [← e4] at e6
          subst e6
          refine pc_calv (m_with h0 hxv 250 v6 s n2 tr2 u r1.1 r7) (fun v7 s7 w => ?_)
          obtain ⟨w1, n3, tr3, w2, w3, w5⟩ := w
          (try dsimp only at w1 w2 w5)
          refine pc_ix (fun _ => ?_)
          refine pc_lt fun s8 e8 => ?_
          refine hK s8 ⟨by rw [e8]; exact FR.st (FR.cal i3 w1 rfl rfl) (by decide), n3, tr3, ?_, r2.tr w3⟩
          rw [e8, ← pRpu_e, z]
          exact (r1.pool w1 w2 w3).tst w5
    · rw [fa_le, hh] at c
      have ey : (y + 1).toInt = y.toInt + 1 := i1 (by omega)
      have cy1 : (y + 1).toNatClampNeg = y.toNatClampNeg + 1 := by
        have := clamp_I (x := y + 1) (by omega)
        omega
      have yi : y.toNatClampNeg < pHt P := by omega
      have v := r1.2.2.1 y.toNatClampNeg yi
      have ky : pKs (pRpu k.toNatClampNeg xv.toNatClampNeg y.toNatClampNeg P) y.toNatClampNeg = pKs P y.toNatClampNeg := if_neg (by omega)
      rw [ky] at v
      refine pc_ix (fun _ => ?_)
      refine pc_lt fun v9 e9 => ?_
      rw [← e9] at v
      refine pc_calv (m_with h0 hxv 250 v9 s n2 tr2 _ r1.1 v) (fun v10 s10 w => ?_)
      obtain ⟨w1, n3, tr3, w2, w3, w5⟩ := w
      (try dsimp only at w1 w2 w5)
      refine pc_ix (fun _ => ?_)
      refine pc_lt fun s11 e11 => ?_
      refine pc_lt fun x12 e12 => ?_
      subst e12
      refine ih (y + 1) s11 ⟨by omega, by omega, by rw [e11]; exact FR.st (FR.cal i3 w1 rfl rfl) (by decide), n3, tr3, ?_, r2.tr w3⟩
      rw [e11, cy1, ← pRpu_s (by omega)]
      exact (r1.pool w1 w2 w3).set w5
  · rw [show (k + 1).toNatClampNeg = k.toNatClampNeg + 1 by have := clamp_I (x := k + 1) (by omega); omega, pRpu_0]
    exact h
theorem m_ends {ρ : Nat → Int32} {x : Int32} (hx : 0 ≤ x.toInt ∧ x.toInt < 40) (h : RLM (x.toNatClampNeg, ρ) σ n tr P) : PC (f_X12_endsBlock x σ) (RMA (x.toNatClampNeg, ρ) MNE σ n tr (pEnd P)) := by
  have k_0 : (0 : Int32).toInt = 0 := by decide +kernel
  have k_1 : (1 : Int32).toInt = 1 := by decide +kernel
  have k_2 : (2 : Int32).toInt = 2 := by decide +kernel
  have k_m1 : ((-1) : Int32).toInt = -1 := by decide +kernel
  unfold f_X12_endsBlock
  refine pc_itr2 (fun y s => 0 ≤ y.toInt ∧ y.toInt ≤ (pHt P : Int) ∧ RMA (x.toNatClampNeg, ρ) MNE σ n tr (pEnd1 y.toNatClampNeg P) s) ?_ (by exact ⟨by omega, by omega, FR.rf, n, tr, h, EXT.rf⟩)
  intro ag y s I ih
  obtain ⟨y0, yh, f, n2, tr2, r1, r2⟩ := I
  have cy := clamp_I y0
  have hh : (s.1 50 0).toInt = (pHt P : Int) := by rw [r1.2.1, pEnd1_h]
  have t50 := tI_rng (s.1 50 0)
  refine pc_ite (fun c => ?_) (fun c => ?_)
  · rw [fa_le, hh] at c
    have ye : y.toNatClampNeg = pHt P := by omega
    rw [ye] at r1
    have pe : pEnd P = pEnd2 (pEnd1 (pHt P) P) := rfl
    have r7 : EXV (s.1 46 x.toNatClampNeg) n2 tr2 (pTs (pEnd1 (pHt P) P)) := r1.2.2.2.2.2.2.1
    refine pc_ix (fun _ => ?_)
    refine pc_lt fun v3 e3 => ?_
    rw [← e3] at r7
    refine pc_ite (fun c2 => ?_) (fun c2 => ?_)
    · rw [fa_eq, k_m1] at c2
      cases z : pTs (pEnd1 (pHt P) P) with
      | some u =>
        rw [z] at r7
        obtain ⟨e, a1, _⟩ := r7.so
        omega
      | none =>
        rw [pe, pEnd2_0 z]
        exact pc_ret ⟨f, n2, tr2, r1, r2⟩
    · rw [fa_eq, k_m1] at c2
      cases z : pTs (pEnd1 (pHt P) P) with
      | none => rw [z] at r7; exact absurd r7.no c2
      | some u =>
        rw [z] at r7
        refine pc_ix (fun _ => ?_)
        refine pc_lt fun v5 e5 => ?_
        rw [← e3] at e5
        subst e5
        refine pc_calp (m_hasEff r1.1 250 v5 u r7) (fun v6 h6 => ?_)
        refine pc_ite (fun c3 => ?_) (fun c3 => ?_)
        · rw [pe, pEnd2_2 z (h6.mp c3)]
          exact pc_ret ⟨f, n2, tr2, r1, r2⟩
        · have tu : tEff u = true := by
            cases w : tEff u with
            | true => rfl
            | false => exact absurd (h6.mpr (by rw [w]; decide)) c3
          refine pc_ix (fun _ => ?_)
          refine pc_lt fun v8 e8 => ?_
          rw [← e3] at e8
          subst e8
          refine pc_calv (m_fresh r1 r7) (fun v9 s9 w => ?_)
          obtain ⟨w1, n3, tr3, w2, w3, w5⟩ := w
          (try dsimp only at w1 w2 w5)
          refine pc_ix (fun _ => ?_)
          refine pc_lt fun s10 e10 => ?_
          rw [pe, pEnd2_1 z tu]
          exact pc_ret ⟨by rw [e10]; exact FR.st (FR.cal f w1.1 rfl rfl) (by decide), n3, tr3, by rw [e10]; exact w2.tst w5, r2.tr w3⟩
  · rw [fa_le, hh] at c
    have ey : (y + 1).toInt = y.toInt + 1 := i1 (by omega)
    have cy1 : (y + 1).toNatClampNeg = y.toNatClampNeg + 1 := by
      have := clamp_I (x := y + 1) (by omega)
      omega
    have st : pEnd1 (y.toNatClampNeg + 1) P = pHnd y.toNatClampNeg (pEnd1 y.toNatClampNeg P) := rfl
    have hQ : pHt (pEnd1 y.toNatClampNeg P) = pHt P := pEnd1_h _
    generalize pEnd1 y.toNatClampNeg P = Q at *
    have v := r1.2.2.1 y.toNatClampNeg (by omega)
    refine pc_ix (fun _ => ?_)
    refine pc_lt fun v11 e11 => ?_
    rw [← e11] at v
    obtain ⟨e, v1, v2, v3, v4⟩ := v.so
    have lf := (NMQ.tn r1.1 y0).2.2.2 e v2
    rw [v3] at lf
    refine pc_ix (fun _ => ?_)
    refine pc_lt fun v12 e12 => ?_
    rw [v4] at e12
    -- the next one
    refine pc_jnI1 (fun w => RMA (x.toNatClampNeg, ρ) MNE σ n tr (pHnd y.toNatClampNeg Q) w) (fun w J => ?_) (fun k225 hk => ?_)
    · refine pc_lt fun x14 e14 => ?_
      subst e14
      refine ih (y + 1) w ⟨by omega, by omega, ?_⟩
      rw [cy1, st]
      exact J
    · refine pc_jnI0 (¬ pKs Q y.toNatClampNeg = .index y.toNatClampNeg) (fun te => ?_) (fun k43 hk43 => ?_)
      · -- handed over
        have last : ∀ w R, pHnd y.toNatClampNeg Q = pAdd 1 (y.toNatClampNeg : Int) (some (pKs Q y.toNatClampNeg)) R → pKs R y.toNatClampNeg = pKs Q y.toNatClampNeg → pHt R = pHt Q → RMA (x.toNatClampNeg, ρ) MNE σ n tr R w → PC (ix 8 y <| lt (w.1 49 y.toNatClampNeg) fun v_22 => cals (f_X12_states (1 : Int32) y v_22 w) fun s_23 => k225 s_23) (RMA (x.toNatClampNeg, ρ) MNE σ n tr (pEnd P)) := by
          intro w R j2 j3 j4 J
          obtain ⟨j1, n4, tr4, j5, j6⟩ := J
          have vR := j5.2.2.1 y.toNatClampNeg (by omega)
          rw [j3] at vR
          refine pc_ix (fun _ => ?_)
          refine pc_lt fun v22 e22 => ?_
          rw [← e22] at vR
          refine pc_cals (m_states (k2 := 1) (w2 := (y.toNatClampNeg : Int)) j5 vR k_1 cy.symm) (fun s23 z => ?_)
          refine hk s23 ⟨FR.cal j1 z.1 rfl rfl, n4, tr4, ?_, j6⟩
          rw [j2]
          exact z.2
        have r7 : EXV (s.1 46 x.toNatClampNeg) n2 tr2 (pTs Q) := r1.2.2.2.2.2.2.1
        refine pc_ix (fun _ => ?_)
        refine pc_lt fun v16 e16 => ?_
        rw [← e16] at r7
        refine pc_jnI1 (fun t => t = 0 ↔ ¬ ∃ u, pTs Q = some u ∧ tTn y.toNatClampNeg u = true) (fun t0 ht => ?_) (fun k73 hk73 => ?_)
        · refine pc_lt fun x18 e18 => ?_
          subst e18
          refine pc_itr2 (fun t z => y.toInt < z.toInt ∧ z.toInt ≤ (pHt Q : Int) ∧ (t = 0 ↔ ¬ ((∃ j, y.toNatClampNeg < j ∧ (j : Int) < z.toInt ∧ tTn y.toNatClampNeg (pKs Q j) = true) ∨ ∃ u, pTs Q = some u ∧ tTn y.toNatClampNeg u = true))) ?_ ⟨by omega, by omega, ?_⟩
          · intro ag2 t z I2 ih2
            obtain ⟨z1, z2, z3⟩ := I2
            have cz := clamp_I (x := z) (by omega)
            refine pc_ite (fun c3 => ?_) (fun c3 => ?_)
            · rw [fa_le, hh] at c3
              have ze : z.toInt = (pHt Q : Int) := by omega
              have pn : t = 0 ↔ ¬ pNed y.toNatClampNeg Q := by
                rw [z3]
                unfold pNed
                refine not_congr ⟨?_, ?_⟩
                · rintro (⟨j, a, b_, d⟩ | w)
                  · exact Or.inl ⟨j, a, by omega, d⟩
                  · exact Or.inr w
                · rintro (⟨j, a, b_, d⟩ | w)
                  · exact Or.inl ⟨j, a, by omega, d⟩
                  · exact Or.inr w
              refine pc_jnI1 (fun w => ∃ R, pHnd y.toNatClampNeg Q = pAdd 1 (y.toNatClampNeg : Int) (some (pKs Q y.toNatClampNeg)) R ∧ pKs R y.toNatClampNeg = pKs Q y.toNatClampNeg ∧ pHt R = pHt Q ∧ RMA (x.toNatClampNeg, ρ) MNE σ n tr R w) (fun w J => ?_) (fun k213 hk213 => ?_)
              · obtain ⟨R, j2, j3, j4, j5⟩ := J
                exact last w R j2 j3 j4 j5
              · refine pc_ite (fun c4 => ?_) (fun c4 => ?_)
                · exact hk213 s ⟨Q, pHnd_2 te (pn.mp c4), rfl, rfl, f, n2, tr2, r1, r2⟩
                · have nd : pNed y.toNatClampNeg Q := Classical.byContradiction fun w => c4 (pn.mpr w)
                  have f6 := r1.2.2.2.2.2.1
                  refine pc_lt fun x25 e25 => ?_
                  have c25 : x25.toNatClampNeg = pFr Q := by
                    rw [e25]
                    have := clamp_I (x := s.1 48 0) (by rw [f6.1]; omega)
                    omega
                  refine pc_calv (m_makes r1.1 (Or.inr (Or.inl ⟨Or.inr (Or.inl k_2), y0⟩))) (fun v26 s26 q => ?_)
                  obtain ⟨q1, tr3, q2, q3, q4⟩ := q
                  (try dsimp only at q1 q2 q4)
                  rw [mkM_2 k_2] at q4
                  refine pc_calv (m_fresh (r1.pool q1 q2 q3) q4) (fun v27 s27 u => ?_)
                  obtain ⟨u1, n4, tr4, u2, u3, u5⟩ := u
                  (try dsimp only at u1 u2 u5)
                  refine m_above (P := pPut (.index y.toNatClampNeg) Q) hx u2 y0 (by show y.toInt < (pHt Q : Int); omega) (by rw [e25, f6.1]; omega) (fun s29 w => ?_)
                  obtain ⟨w1, n5, tr5, w2, w3⟩ := w
                  rw [c25] at w2
                  refine hk213 s29 ⟨_, pHnd_1 te nd, ?_, rfl, FR.cal (FR.cal (FR.cal f q1 rfl rfl) u1.1 rfl rfl) w1 rfl rfl, n5, tr5, w2, ((r2.tr q3).tr u3).tr w3⟩
                  show (if y.toNatClampNeg < y.toNatClampNeg ∧ _ then _ else pKs Q y.toNatClampNeg) = _
                  exact if_neg (fun z => absurd z.1 (Nat.lt_irrefl _))
            · rw [fa_le, hh] at c3
              have ez : (z + 1).toInt = z.toInt + 1 := i1 (by omega)
              have zi : z.toNatClampNeg < pHt Q := by omega
              have vz := r1.2.2.1 z.toNatClampNeg zi
              refine pc_jnI1 (fun t2 => t2 = 0 ↔ ¬ ((∃ j, y.toNatClampNeg < j ∧ (j : Int) < z.toInt + 1 ∧ tTn y.toNatClampNeg (pKs Q j) = true) ∨ ∃ u, pTs Q = some u ∧ tTn y.toNatClampNeg u = true)) (fun t2 ht2 => ?_) (fun k113 hk113 => ?_)
              · refine pc_lt fun x41 e41 => ?_
                subst e41
                refine ih2 t2 (z + 1) ⟨by omega, by omega, ?_⟩
                rw [ez]
                exact ht2
              · refine pc_jnI0 ((∃ j, y.toNatClampNeg < j ∧ (j : Int) < z.toInt + 1 ∧ tTn y.toNatClampNeg (pKs Q j) = true) ∨ ∃ u, pTs Q = some u ∧ tTn y.toNatClampNeg u = true) (fun w => hk113 1 ⟨fun q => absurd q (by decide), fun q => absurd w q⟩) (fun k108 hk108 => ?_)
                refine pc_ite (fun c4 => ?_) (fun c4 => ?_)
                · have no := z3.mp c4
                  refine pc_ix (fun _ => ?_)
                  refine pc_lt fun v44 e44 => ?_
                  rw [← e44] at vz
                  refine pc_calp (m_hasName r1.1 (NMQ.tn r1.1 y0) 250 v44 _ vz) (fun v45 h45 => ?_)
                  refine pc_ite (fun c5 => ?_) (fun c5 => ?_)
                  · refine hk113 0 ⟨fun _ w => ?_, fun _ => rfl⟩
                    rcases w with ⟨j, a, b_, d⟩ | w
                    · by_cases q : j = z.toNatClampNeg
                      · rw [q] at d; exact h45.mp c5 d
                      · exact no (Or.inl ⟨j, a, by omega, d⟩)
                    · exact no (Or.inr w)
                  · refine hk108 (Or.inl ⟨z.toNatClampNeg, by omega, by omega, ?_⟩)
                    cases w : tTn y.toNatClampNeg (pKs Q z.toNatClampNeg) with
                    | true => rfl
                    | false => exact absurd (h45.mpr (by rw [w]; decide)) c5
                · have yes : (∃ j, y.toNatClampNeg < j ∧ (j : Int) < z.toInt ∧ tTn y.toNatClampNeg (pKs Q j) = true) ∨ ∃ u, pTs Q = some u ∧ tTn y.toNatClampNeg u = true := Classical.byContradiction fun w => c4 (z3.mpr w)
                  refine hk108 ?_
                  rcases yes with ⟨j, a, b_, d⟩ | w
                  · exact Or.inl ⟨j, a, by omega, d⟩
                  · exact Or.inr w
          · rw [ht, ey]
            refine not_congr ⟨fun w => Or.inr w, ?_⟩
            rintro (⟨j, a, b_, d⟩ | w)
            · omega
            · exact w
        · refine pc_jnI0 (¬ ∃ u, pTs Q = some u ∧ tTn y.toNatClampNeg u = true) (fun w => hk73 0 ⟨fun _ => w, fun _ => rfl⟩) (fun k72 hk72 => ?_)
          refine pc_ite (fun c3 => ?_) (fun c3 => ?_)
          · rw [fa_eq, k_m1] at c3
            refine hk72 (fun ⟨u, z, _⟩ => ?_)
            rw [z] at r7
            obtain ⟨e_, a1, _⟩ := r7.so
            omega
          · rw [fa_eq, k_m1] at c3
            cases z : pTs Q with
            | none => rw [z] at r7; exact absurd r7.no c3
            | some u =>
              rw [z] at r7
              refine pc_ix (fun _ => ?_)
              refine pc_lt fun v49 e49 => ?_
              rw [← e16] at e49
              subst e49
              refine pc_calp (m_hasName r1.1 (NMQ.tn r1.1 y0) 250 v49 _ r7) (fun v50 h50 => ?_)
              refine pc_ite (fun c4 => hk72 ?_) (fun c4 => hk73 1 ?_)
              · rw [z]
                exact fun ⟨u2, w1, w2⟩ => h50.mp c4 (by rw [Option.some.inj w1]; exact w2)
              · rw [z]
                refine ⟨fun q => absurd q (by decide), fun q => absurd ⟨u, rfl, ?_⟩ q⟩
                cases w : tTn y.toNatClampNeg u with
                | true => rfl
                | false => exact absurd (h50.mpr (by rw [w]; decide)) c4
      · have tn_s : tTn y.toNatClampNeg (.index y.toNatClampNeg) = true := decide_eq_true rfl
        have ways := r1.1.ways v2
        rw [v3] at ways
        have not_ : ¬ ((s.1 38 e) = 2 ∧ (s.1 39 e) = y) → ¬ pKs Q y.toNatClampNeg = .index y.toNatClampNeg := fun z w => by
          rw [w] at lf ways
          rcases ways with ⟨_, l, r, q, _⟩ | ⟨_, l, q, _⟩ | ⟨q0, q4, _, _⟩
          · exact absurd q (by simp)
          · rcases q with q | q
            · exact absurd q.1 (by simp)
            · exact absurd q.1 (by simp)
          · exact z ((lf q4 q0).mp tn_s)
        refine pc_ite (fun c2 => ?_) (fun c2 => hk43 (not_ (fun z => c2 (by rw [e12]; exact z.1))))
        rw [e12] at c2
        have c2i : (s.1 38 e).toInt = 2 := by rw [c2]; exact k_2
        refine pc_ix (fun _ => ?_)
        refine pc_lt fun v53 e53 => ?_
        rw [← e11] at e53
        subst e53
        refine pc_ix (fun _ => ?_)
        rw [v4]
        refine pc_lt fun v54 e54 => ?_
        refine pc_ite (fun c3 => ?_) (fun c3 => hk43 (not_ (fun z => c3 (by rw [e54]; exact z.2))))
        rw [e54] at c3
        have tt := (lf (by omega) (by omega)).mpr ⟨c2, c3⟩
        have kl : kdl (pKs Q y.toNatClampNeg) = true := by
          rcases ways with ⟨q, _⟩ | ⟨q, _⟩ | ⟨_, _, q, _⟩
          · omega
          · omega
          · exact q
        refine hk s ⟨f, n2, tr2, ?_, r2⟩
        rw [pHnd_0 (tTn_lf kl tt)]
        exact r1
end
