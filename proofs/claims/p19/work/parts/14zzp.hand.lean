section
variable {b : BTy} {n : Nat} {σ : Sto} {tr : Nat → Term} {P : PSt}
theorem pEnd1_le {j : Nat} (h : j ≤ pHt P) : PLE (pEnd1 j P) (pEnd P) := by
  have a := PLE.end1b (P := P) (j := j) (pHt P - j)
  rw [show j + (pHt P - j) = pHt P by omega] at a
  exact a.tr PLE.end2
theorem pEnd1_sz {j : Nat} : pG 0 (fun _ => tSz) tSz (pEnd1 j P) = pG 0 (fun _ => tSz) tSz P ∧ pOm (pEnd1 j P) = pOm P := by
  have a := pEnd1_sum (P := P) (ω := tSz) (fun k x t => (tRp_sz k x t).1) j
  have c := pEnd1_sum (P := P) (ω := tOp) (fun k x t => (tRp_sz k x t).2) j
  refine ⟨?_, ?_⟩
  · show 0 * _ + pSum (fun _ => tSz) (pEnd1 j P) + pPs tSz (pEnd1 j P) = 0 * _ + pSum (fun _ => tSz) P + pPs tSz P
    rw [a.1, a.2, Nat.zero_mul, Nat.zero_mul]
  · show pSum (fun _ => tOp) (pEnd1 j P) + pPs tOp (pEnd1 j P) = pSum (fun _ => tOp) P + pPs tOp P
    rw [c.1, c.2]
theorem t_handOver {ρ : Nat → Int32} {x : Int32} {om : Nat} (hx : 0 ≤ x.toInt ∧ x.toInt < 40) (h : RLP (x.toNatClampNeg, ρ) σ n tr P) (h8 : pHt P ≤ 6) (hs : pG 0 (fun _ => tSz) tSz P ≤ 60) (ho : pOm P ≤ om) (hb : PBD n tr P (pEnd P) (6 * om)) : PC (f_X1_handOver x σ) (RLA (x.toNatClampNeg, ρ) MST σ n tr P (pEnd P) (6 * om)) := by
  have k_0 : (0 : Int32).toInt = 0 := by decide +kernel
  have k_1 : (1 : Int32).toInt = 1 := by decide +kernel
  have k_84 : (84 : Int32).toInt = 84 := by decide +kernel
  have k_m1 : ((-1) : Int32).toInt = -1 := by decide +kernel
  obtain ⟨b1, b2, b3⟩ := hb
  unfold f_X1_handOver
  refine pc_itr2 (fun y s => 0 ≤ y.toInt ∧ y.toInt ≤ (pHt P : Int) ∧ FR MST [] σ s ∧ ∃ n2 tr2, RLP (x.toNatClampNeg, ρ) s n2 tr2 (pEnd1 y.toNatClampNeg P) ∧ EXT n tr n2 tr2 ∧ nzT n2 tr2 + pFr P ≤ nzT n tr + pFr (pEnd1 y.toNatClampNeg P) + y.toNatClampNeg * om) ?_ (by exact ⟨by omega, by omega, FR.rf, n, tr, h, EXT.rf, by show nzT n tr + pFr P ≤ nzT n tr + pFr P + 0 * om; omega⟩)
  intro ag y s I ih
  obtain ⟨y0, yh, f, n2, tr2, r1, r2, r3⟩ := I
  have cy := clamp_I y0
  have hh : (s.1 61 0).toInt = (pHt P : Int) := by rw [r1.2.1, pEnd1_h]
  have le := pEnd1_le (P := P) (j := y.toNatClampNeg) (by omega)
  have mu : y.toNatClampNeg * om ≤ 6 * om := Nat.mul_le_mul_right om (by omega)
  have sz := pEnd1_sz (P := P) (j := y.toNatClampNeg)
  refine pc_ite (fun c => ?_) (fun c => ?_)
  · rw [fa_le, hh] at c
    have ye : y.toNatClampNeg = pHt P := by omega
    rw [ye] at r1 r3 le mu
    have pe : pEnd P = pEnd2 (pEnd1 (pHt P) P) := rfl
    have r7 : EXV (s.1 57 x.toNatClampNeg) n2 tr2 (pTs (pEnd1 (pHt P) P)) := r1.2.2.2.2.2.2.1
    refine pc_ix (fun _ => ?_)
    refine pc_lt fun v3 e3 => ?_
    rw [← e3] at r7
    refine pc_ite (fun c2 => ?_) (fun c2 => ?_)
    · rw [fa_eq, k_m1] at c2
      cases z : pTs (pEnd1 (pHt P) P) with
      | some u =>
        rw [z] at r7
        obtain ⟨e, a1, _⟩ := r7.so
        omega
      | none =>
        rw [pe, pEnd2_0 z]
        exact pc_ret ⟨f, n2, tr2, r1, r2, by omega⟩
    · rw [fa_eq, k_m1] at c2
      cases z : pTs (pEnd1 (pHt P) P) with
      | none => rw [z] at r7; exact absurd r7.no c2
      | some u =>
        rw [z] at r7
        refine pc_ix (fun _ => ?_)
        refine pc_lt fun v5 e5 => ?_
        rw [← e3] at e5
        subst e5
        refine pc_calp (t_hasEff r1.1 r7) (fun v6 h6 => ?_)
        refine pc_ite (fun c3 => ?_) (fun c3 => ?_)
        · rw [pe, pEnd2_2 z (h6.mp c3)]
          exact pc_ret ⟨f, n2, tr2, r1, r2, by omega⟩
        · have tu : tEff u = true := by
            cases w : tEff u with
            | true => rfl
            | false => exact absurd (h6.mpr (by rw [w]; decide)) c3
          have p2 := pEnd2_1 z tu
          rw [pe, p2] at b1 b2 b3
          have b1 : pNn (pEnd1 (pHt P) P) + 1 ≤ 320 := b1
          have b2 : pFr (pEnd1 (pHt P) P) + 1 ≤ 160 := b2
          have b3 : nzT n tr + (pFr (pEnd1 (pHt P) P) + 1) + 6 * om ≤ 500 + pFr P := b3
          refine pc_ix (fun _ => ?_)
          refine pc_lt fun v8 e8 => ?_
          rw [← e3] at e8
          subst e8
          refine pc_calv (t_putAside r1 r7 (by omega) (by omega) (by omega)) (fun v9 s9 w => ?_)
          obtain ⟨w1, n3, tr3, w2, w3, w4, w5⟩ := w
          (try dsimp only at w1 w2 w5)
          refine pc_ix (fun _ => ?_)
          refine pc_lt fun s10 e10 => ?_
          rw [pe, p2]
          refine pc_ret ⟨by rw [e10]; exact FR.st (FR.cal f w1 rfl rfl) (by decide), n3, tr3, by rw [e10]; exact w2.tst w5, r2.tr w3, ?_⟩
          show nzT n3 tr3 + pFr P ≤ nzT n tr + (pFr (pEnd1 (pHt P) P) + 1) + 6 * om
          omega
  · rw [fa_le, hh] at c
    have ey : (y + 1).toInt = y.toInt + 1 := i1 (by omega)
    have cy1 : (y + 1).toNatClampNeg = y.toNatClampNeg + 1 := by
      have := clamp_I (x := y + 1) (by omega)
      omega
    have le1 := pEnd1_le (P := P) (j := y.toNatClampNeg + 1) (by omega)
    have st : pEnd1 (y.toNatClampNeg + 1) P = pHnd y.toNatClampNeg (pEnd1 y.toNatClampNeg P) := rfl
    have hQ : pHt (pEnd1 y.toNatClampNeg P) = pHt P := pEnd1_h _
    have ms : (y.toNatClampNeg + 1) * om = y.toNatClampNeg * om + om := Nat.succ_mul _ _
    have mu1 : (y.toNatClampNeg + 1) * om ≤ 6 * om := Nat.mul_le_mul_right om (by omega)
    have nz2 := r1.1.nz_
    have q1 := le.1
    have q2 := le.2.1
    have q3 := le1.1
    have q4 := le1.2.1
    generalize pEnd1 y.toNatClampNeg P = Q at *
    have mkT : mkX 84 y 0 tr2 = .index y.toNatClampNeg := mkX_t k_84
    refine pc_calv (t_make (sg := 84) (lf := y) (rt := 0) r1.1 (Or.inr (Or.inr (Or.inl ⟨k_84, y0, by omega, rfl⟩))) (by omega) (by rw [mkT]; show 1 ≤ 60; omega)) (fun v11 s11 u => ?_)
    rw [mkT] at u
    obtain ⟨n3, tr3, u1, u2, u3, u4, u5⟩ := r1.make u
    (try dsimp only at u1 u4 u5)
    rw [oneT_T] at u3
    have f11 : FR MST [] σ s11 := FR.cal f u5 rfl rfl
    have v := u1.2.2.1 y.toNatClampNeg (by omega)
    refine pc_ix (fun _ => ?_)
    refine pc_lt fun v12 e12 => ?_
    rw [← e12] at v
    obtain ⟨d1, x1, x2, x3, x4⟩ := u4.so
    obtain ⟨d2, y1, y2, y3, y4⟩ := v.so
    have ie := u1.1.2.2.2
    refine pc_jnI1 (fun w => FR MST [] σ w ∧ ∃ n2 tr2, RLP (x.toNatClampNeg, ρ) w n2 tr2 (pHnd y.toNatClampNeg Q) ∧ EXT n tr n2 tr2 ∧ nzT n2 tr2 + pFr P ≤ nzT n tr + pFr (pHnd y.toNatClampNeg Q) + (y.toNatClampNeg + 1) * om) (fun w J => ?_) (fun k64 hk => ?_)
    · refine pc_lt fun x14 e14 => ?_
      subst e14
      refine ih (y + 1) w ⟨by omega, by omega, J.1, ?_⟩
      rw [cy1, st]
      exact J.2
    · refine pc_ite (fun c2 => ?_) (fun c2 => ?_)
      · have te : pKs Q y.toNatClampNeg = .index y.toNatClampNeg := by
          rw [fa_eq] at c2
          rw [← y3, ← x3, show d2 = d1 by omega]
        refine hk s11 ⟨f11, n3, tr3, ?_⟩
        rw [pHnd_0 te]
        exact ⟨u1, r2.tr u2, by omega⟩
      · have te : ¬ pKs Q y.toNatClampNeg = .index y.toNatClampNeg := fun z => by
          rw [← y3, ← x3] at z
          have := ie d2 d1 y2 x2 z
          exact c2 (by rw [fa_eq]; omega)
        refine pc_calp (t_isNeeded u1 y0 (by omega) (by omega) (by omega)) (fun v16 h16 => ?_)
        refine pc_jnI1 (fun w => FR MST [] σ w ∧ ∃ n2 tr2 R, pHnd y.toNatClampNeg Q = pAdd 1 (y.toNatClampNeg : Int) (some (pKs Q y.toNatClampNeg)) R ∧ pKs R y.toNatClampNeg = pKs Q y.toNatClampNeg ∧ pHt R = pHt Q ∧ RLP (x.toNatClampNeg, ρ) w n2 tr2 R ∧ EXT n tr n2 tr2 ∧ nzT n2 tr2 + pFr P ≤ nzT n tr + pFr R + (y.toNatClampNeg + 1) * om) (fun w J => ?_) (fun k52 hk2 => ?_)
        · obtain ⟨j1, n4, tr4, R, j2, j3, j4, j5, j6, j7⟩ := J
          have vR := j5.2.2.1 y.toNatClampNeg (by omega)
          rw [j3] at vR
          refine pc_ix (fun _ => ?_)
          refine pc_lt fun v18 e18 => ?_
          rw [← e18] at vR
          rw [st, j2] at q3
          have q3 : pNn R + 1 ≤ pNn (pEnd P) := q3
          refine pc_cals (t_add (k := 1) (w := y) j5 vR (by omega)) (fun s19 z => ?_)
          have za := z.2
          rw [k_1, ← cy, ← j2] at za
          refine hk s19 ⟨FR.cal j1 z.1 rfl rfl, n4, tr4, za, j6, ?_⟩
          rw [j2]
          exact j7
        · refine pc_ite (fun c3 => ?_) (fun c3 => ?_)
          · refine hk2 s11 ⟨f11, n3, tr3, Q, pHnd_2 te (h16.mp c3), rfl, rfl, u1, r2.tr u2, by omega⟩
          · have nd : pNed y.toNatClampNeg Q := Classical.byContradiction fun z => c3 (h16.mpr z)
            have ph := pHnd_1 te nd
            rw [st, ph] at q3 q4
            have q3 : pNn Q + 1 + 1 ≤ pNn (pEnd P) := q3
            have q4 : pFr Q + 1 ≤ pFr (pEnd P) := q4
            refine pc_calv (t_putAside u1 u4 (by omega) (by omega) (by omega)) (fun v21 s21 w => ?_)
            obtain ⟨w1, n4, tr4, w2, w3, w4, w5⟩ := w
            (try dsimp only at w1 w2 w5)
            have s1 : pG 0 (fun _ => tSz) tSz (pPut (.index y.toNatClampNeg) Q) ≤ 60 := by
              have := pG_put (α := 0) (φ := fun _ => tSz) (ψ := tSz) (P := Q) (t := .index y.toNatClampNeg)
              omega
            have s2 : pOm (pPut (.index y.toNatClampNeg) Q) = pOm Q := rfl
            refine pc_cals (t_replaceAbove hx w2 w5 y0 (by omega) (by show y.toNatClampNeg < pHt Q; omega) (by show pHt Q ≤ 6; omega) s1 (by rw [s2]; omega)) (fun s22 z => ?_)
            obtain ⟨z1, n5, tr5, z2, z3, z4⟩ := z
            have z4 : nzT n5 tr5 + (pFr Q + 1) ≤ nzT n4 tr4 + (pFr Q + 1) + pOm Q := z4
            refine hk2 s22 ⟨FR.cal (FR.cal f11 w1 rfl rfl) z1 rfl rfl, n5, tr5, _, ph, ?_, rfl, z2, ((r2.tr u2).tr w3).tr z3, ?_⟩
            · show (if y.toNatClampNeg < y.toNatClampNeg ∧ _ then _ else pKs Q y.toNatClampNeg) = _
              exact if_neg (fun z => absurd z.1 (Nat.lt_irrefl _))
            · show nzT n5 tr5 + pFr P ≤ nzT n tr + (pFr Q + 1) + (y.toNatClampNeg + 1) * om
              omega
end
