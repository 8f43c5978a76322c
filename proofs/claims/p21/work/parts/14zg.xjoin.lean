abbrev laN (s : Sto) (b : Nat) : Nat := (s.1 22 b).toInt.toNat
abbrev fiN (s : Sto) (b : Nat) : Nat := (s.1 21 b).toInt.toNat
/-- where a block goes on, and otherwise -/
def ONB (sg nm ob : Nat → Int) (l : Nat) (y z : Int) : Prop := (gOnI (sg l) → y = ob (l + 1)) ∧ (¬ gOnI (sg l) → gElI (sg l) → y = ob (nm l).toNat) ∧ (¬ gOnI (sg l) → ¬ gElI (sg l) → y = -1) ∧ ((gOnI (sg l) ∧ gElI (sg l) ∧ ob (nm l).toNat ≠ ob (l + 1)) → z = ob (nm l).toNat) ∧ (¬ (gOnI (sg l) ∧ gElI (sg l) ∧ ob (nm l).toNat ≠ ob (l + 1)) → z = -1)
/-- other blocks' rows lie as they lay -/
def OTH (σ s : Sto) (b : Nat) : Prop := ∀ q, q ≠ b → s.2 0 q = σ.2 0 q ∧ s.1 28 q = σ.1 28 q ∧ s.1 24 q = σ.1 24 q ∧ s.1 25 q = σ.1 25 q ∧ s.1 26 q = σ.1 26 q
theorem OTH.rf {σ : Sto} {b : Nat} : OTH σ σ b := fun _ _ => ⟨rfl, rfl, rfl, rfl, rfl⟩
theorem OTH.tr {a c d : Sto} {b : Nat} (h : OTH a c b) (g : OTH c d b) : OTH a d b := fun q hq => ⟨(g q hq).1.trans (h q hq).1, (g q hq).2.1.trans (h q hq).2.1, (g q hq).2.2.1.trans (h q hq).2.2.1, (g q hq).2.2.2.1.trans (h q hq).2.2.2.1, (g q hq).2.2.2.2.trans (h q hq).2.2.2.2⟩
theorem OTH.st {σ s : Sto} {b k : Nat} {v : Int32} (h : OTH σ s b) : OTH σ (sti s k b v) b := h.tr (fun q hq => by
  have o : ∀ j, (sti s k b v).1 j q = s.1 j q := fun j => by
    rw [sti_at, if_neg (fun z => hq z.2)]
  exact ⟨rfl, o 28, o 24, o 25, o 26⟩)
abbrev MSJ : List Nat := [24, 25, 26, 27, 28, 29, 30, 31]
def JN0 (σ t : Sto) (b : Nat) (V : EVt) : Prop := FR MSJ [0] σ t ∧ EVw t 27 29 30 31 = V ∧ NXI t b ∧ OLE σ t ∧ (t.1 28 b).toInt = (σ.1 27 0).toInt ∧ OTH σ t b
abbrev v1X (σ : Sto) (b : Nat) : EVt := eb1 (ri (σ.1 6)) (ri (σ.1 23)) (laN σ b) b (EVw σ 27 29 30 31)
abbrev v2X (σ : Sto) (b : Nat) : EVt := eb2 (ri (σ.1 6)) (ri (σ.1 7)) (ri (σ.1 23)) (laN σ b) b (v1X σ b)
abbrev onX (σ : Sto) (b : Nat) : Int → Int → Prop := ONB (ri (σ.1 6)) (ri (σ.1 7)) (ri (σ.1 23)) (laN σ b)
abbrev caX (σ : Sto) (b : Nat) : Int → Prop := CAT (σ.1 5 0).toInt.toNat (ri (σ.1 6)) (ri (σ.1 9)) (ri (σ.1 10)) (ri (σ.1 11)) (ri (σ.1 23)) (fiN σ b) (laN σ b)
theorem JN0.st {σ t : Sto} {b k : Nat} {v : Int32} {V : EVt} (h : JN0 σ t b V) (hk : k = 24 ∨ k = 25 ∨ k = 26) : JN0 σ (sti t k b v) b V := by
  obtain ⟨h1, h2, h3, h4, h5, h6⟩ := h
  have o : ∀ j, 27 ≤ j → (sti t k b v).1 j = t.1 j := fun j hj => sti_o (by omega)
  refine ⟨FR.st h1 (by rcases hk with z | z | z <;> subst z <;> decide), ?_, h3.cg (o 27 (by decide)) (by rw [o 28 (by decide)]) (o 29 (by decide)) (o 30 (by decide)) rfl, h4.cg (o 27 (by decide)) (o 29 (by decide)) (o 30 (by decide)), by rw [o 28 (by decide)]; exact h5, h6.st⟩
  rw [EVw.cg (o 27 (by decide)) (o 29 (by decide)) (o 30 (by decide)) (o 31 (by decide))]
  exact h2
theorem JN0.le {σ t s : Sto} {x1 x2 x3 : Int32} {V : EVt} (h : JN0 σ t x1.toNatClampNeg V) (q : FR [27, 29, 30, 31] [0] t s ∧ EVw s 27 29 30 31 = leP x1.toNatClampNeg x2.toInt (decide (x3.toInt ≠ 0)) (EVw t 27 29 30 31) ∧ NXI s x1.toNatClampNeg ∧ (∀ q, q ≠ x1.toNatClampNeg → s.2 0 q = t.2 0 q) ∧ OLE t s) : JN0 σ s x1.toNatClampNeg (leP x1.toNatClampNeg x2.toInt (decide (x3.toInt ≠ 0)) V) := by
  obtain ⟨h1, h2, h3, h4, h5, h6⟩ := h
  obtain ⟨q1, q2, q3, q4, q5⟩ := q
  refine ⟨FR.cal h1 q1 rfl rfl, by rw [q2, h2], q3, h4.tr q5, by rw [q1.1 28 (by decide)]; exact h5, h6.tr (fun d hd => ⟨q4 d hd, ?_, ?_, ?_, ?_⟩)⟩
  · rw [q1.1 28 (by decide)]
  · rw [q1.1 24 (by decide)]
  · rw [q1.1 25 (by decide)]
  · rw [q1.1 26 (by decide)]
theorem t_X0_join {x1 : Int32} {σ : Sto} (hB : BX σ) (h1 : 0 ≤ x1.toInt) (hg1 : gOnI (ri (σ.1 6) (laN σ x1.toNatClampNeg)) → 0 ≤ ri (σ.1 23) (laN σ x1.toNatClampNeg + 1)) (hg2 : gElI (ri (σ.1 6) (laN σ x1.toNatClampNeg)) → 0 ≤ ri (σ.1 23) (ri (σ.1 7) (laN σ x1.toNatClampNeg)).toNat) (hF : ∀ e : Nat, (e : Int) < (σ.1 27 0).toInt → (σ.1 29 e).toInt < x1.toNatClampNeg) : PC (f_X0_join x1 σ) (fun s => JN0 σ s x1.toNatClampNeg (eb3 (s.1 26 x1.toNatClampNeg).toInt x1.toNatClampNeg (v2X σ x1.toNatClampNeg)) ∧ caX σ x1.toNatClampNeg (s.1 26 x1.toNatClampNeg).toInt ∧ onX σ x1.toNatClampNeg (s.1 24 x1.toNatClampNeg).toInt (s.1 25 x1.toNatClampNeg).toInt) := by
  have k_0 : (0 : Int32).toInt = 0 := by decide +kernel
  have k_1 : (1 : Int32).toInt = 1 := by decide +kernel
  have k_m1 : ((-1) : Int32).toInt = -1 := by decide +kernel
  have c1 := clamp_I h1
  have g27 := gX_27 hB 0
  have g21 := gX_21 hB x1.toNatClampNeg
  have g22 := gX_22 hB x1.toNatClampNeg
  unfold f_X0_join
  refine pc_ix (fun ib => ?_)
  refine pc_lt fun v1 e1 => ?_
  refine pc_ix (fun _ => ?_)
  refine pc_lt fun s2 e2 => ?_
  refine pc_ix (fun _ => ?_)
  refine pc_lt fun s3 e3 => ?_
  refine pc_ix (fun _ => ?_)
  refine pc_lt fun s4 e4 => ?_
  refine pc_ix (fun _ => ?_)
  refine pc_lt fun s5 e5 => ?_
  have vl : v1.toNatClampNeg = laN σ x1.toNatClampNeg := by rw [e1]; rfl
  have o5 : ∀ k, k ≠ 24 → k ≠ 25 → k ≠ 28 → s5.1 k = σ.1 k := fun k a b c => by
    rw [e5, sti_o b, e4, sti_o a, e3]
    show s2.1 k = _
    rw [e2, sti_o c]
  have F5 : FR MSJ [0] σ s5 := by
    rw [e5]; refine FR.st ?_ (by decide)
    rw [e4]; refine FR.st ?_ (by decide)
    rw [e3]; refine FR.stl ?_ (by decide)
    rw [e2]; exact FR.st FR.rf (by decide)
  have p28 : s5.1 28 x1.toNatClampNeg = σ.1 27 0 := by
    rw [e5, sti_o (by decide), e4, sti_o (by decide), e3]
    show s2.1 28 _ = _
    rw [e2, sti_s]
  have p24 : s5.1 24 x1.toNatClampNeg = -1 := by rw [e5, sti_o (by decide), e4, sti_s]
  have p25 : s5.1 25 x1.toNatClampNeg = -1 := by rw [e5, sti_s]
  have l5 : s5.2 = s3.2 := by rw [e5, e4]; rfl
  have l0 : s5.2 0 x1.toNatClampNeg = 0 := by rw [l5, e3, stl_s]
  have J5 : JN0 σ s5 x1.toNatClampNeg (EVw σ 27 29 30 31) := by
    refine ⟨F5, EVw.cg (o5 27 (by decide) (by decide) (by decide)) (o5 29 (by decide) (by decide) (by decide)) (o5 30 (by decide) (by decide) (by decide)) (o5 31 (by decide) (by decide) (by decide)), ⟨?_, ?_, fun e he => ?_, fun g hg => ?_, fun e d he hd z1 => ?_⟩, ⟨?_, fun e _ => ?_⟩, by rw [p28], fun q hq => ?_⟩
    · rw [o5 27 (by decide) (by decide) (by decide)]; exact g27
    · rw [o5 27 (by decide) (by decide) (by decide), p28]; omega
    · rw [o5 27 (by decide) (by decide) (by decide)] at he
      have := hF e he
      rw [p28, o5 29 (by decide) (by decide) (by decide)]
      omega
    · rw [l0, bL_0, o5 27 (by decide) (by decide) (by decide), o5 29 (by decide) (by decide) (by decide)]
      refine ⟨fun z => (by cases z), ?_⟩
      rintro ⟨e, z1, z2, _⟩
      have := hF e z1
      omega
    · rw [o5 27 (by decide) (by decide) (by decide)] at he
      rw [o5 29 (by decide) (by decide) (by decide)] at z1
      have := hF e he
      omega
    · rw [o5 27 (by decide) (by decide) (by decide)]; exact Int.le_refl _
    · rw [o5 29 (by decide) (by decide) (by decide), o5 30 (by decide) (by decide) (by decide)]; exact ⟨rfl, rfl⟩
    · refine ⟨by rw [l5, e3, stl_j hq, e2]; rfl, ?_, ?_, ?_, ?_⟩
      · rw [e5, sti_o (by decide), e4, sti_o (by decide), e3]
        show s2.1 28 q = _
        rw [e2, sti_j hq]
      · rw [e5, sti_o (by decide), e4, sti_j hq, e3]
        show s2.1 24 q = _
        rw [e2, sti_o (by decide)]
      · rw [e5, sti_j hq, e4, sti_o (by decide), e3]
        show s2.1 25 q = _
        rw [e2, sti_o (by decide)]
      · rw [o5 26 (by decide) (by decide) (by decide)]
  refine pc_calp (t_X3_goesOn (x := v1) (σ := s5)) (fun v6 q6 => ?_)
  rw [o5 6 (by decide) (by decide) (by decide), vl] at q6
  refine pc_jnI1 (fun t => JN0 σ t x1.toNatClampNeg (v1X σ x1.toNatClampNeg) ∧ (gOnI (ri (σ.1 6) (laN σ x1.toNatClampNeg)) → (t.1 24 x1.toNatClampNeg).toInt = ri (σ.1 23) (laN σ x1.toNatClampNeg + 1)) ∧ (¬ gOnI (ri (σ.1 6) (laN σ x1.toNatClampNeg)) → (t.1 24 x1.toNatClampNeg).toInt = -1) ∧ (t.1 25 x1.toNatClampNeg).toInt = -1) (fun t I => ?_) (fun k hk => ?_)
  · obtain ⟨J, a1, a2, a3⟩ := I
    have F := J.1
    refine pc_calp (t_X3_goesElsewhere (x := v1) (σ := t)) (fun v8 q8 => ?_)
    rw [F.1 6 (by decide), vl] at q8
    refine pc_jnI1 (fun u => JN0 σ u x1.toNatClampNeg (v2X σ x1.toNatClampNeg) ∧ onX σ x1.toNatClampNeg (u.1 24 x1.toNatClampNeg).toInt (u.1 25 x1.toNatClampNeg).toInt) (fun u I2 => ?_) (fun k hk => ?_)
    · obtain ⟨J2, b1⟩ := I2
      have F2 := J2.1
      refine pc_calp (t_X0_catcherOf (x1 := x1) (σ := u) (by rw [F2.1 21 (by decide)]; exact g21.1) (by rw [F2.1 22 (by decide)]; exact g22.1)) (fun v10 q => ?_)
      rw [F2.1 5 (by decide), F2.1 6 (by decide), F2.1 9 (by decide), F2.1 10 (by decide), F2.1 11 (by decide), F2.1 23 (by decide), F2.1 21 (by decide), F2.1 22 (by decide)] at q
      refine pc_ix (fun _ => ?_)
      refine pc_lt fun s11 e11 => ?_
      have w26 : s11.1 26 x1.toNatClampNeg = v10 := by rw [e11, sti_s]
      have J11 : JN0 σ s11 x1.toNatClampNeg (v2X σ x1.toNatClampNeg) := by rw [e11]; exact J2.st (Or.inr (Or.inr rfl))
      have w24 : s11.1 24 = u.1 24 := by rw [e11, sti_o (by decide)]
      have w25 : s11.1 25 = u.1 25 := by rw [e11, sti_o (by decide)]
      refine pc_ix (fun _ => ?_)
      refine pc_lt fun v12 e12 => ?_
      rw [w26] at e12
      refine pc_ite (fun c => ?_) (fun c => ?_)
      · rw [fa_eq, k_m1, e12] at c
        refine pc_ret ⟨?_, by rw [w26]; exact q, by rw [w24, w25]; exact b1⟩
        rw [w26]
        unfold eb3
        rw [if_pos c]
        exact J11
      · rw [fa_eq, k_m1, e12] at c
        refine pc_ix (fun _ => ?_)
        refine pc_lt fun v14 e14 => ?_
        rw [w26] at e14
        subst e14
        have rg : 0 ≤ v14.toInt ∧ v14.toInt ≤ 39 := by
          rcases q with q | ⟨i, _, _, _, q⟩
          · exact absurd q.1 c
          · have g := gX_23 hB (ri (σ.1 11) (hoP (σ.1 5 0).toInt.toNat (ri (σ.1 9)) (ri (σ.1 10)) i)).toNat
            have q2 : v14.toInt = (σ.1 23 (ri (σ.1 11) (hoP (σ.1 5 0).toInt.toNat (ri (σ.1 9)) (ri (σ.1 10)) i)).toNat).toInt := q
            omega
        refine pc_cals (t_X0_lead (x3 := 1) h1 rg J11.2.2.1) (fun s15 q15 => ?_)
        have J15 := J11.le q15
        have f := q15.1
        refine pc_ret ⟨?_, by rw [f.1 26 (by decide), w26]; exact q, by rw [f.1 24 (by decide), f.1 25 (by decide), w24, w25]; exact b1⟩
        rw [f.1 26 (by decide), w26]
        unfold eb3
        rw [if_neg c]
        have d1 : decide ((1 : Int32).toInt ≠ 0) = true := by decide +kernel
        rw [d1] at J15
        exact J15
    · refine pc_ite (fun c => hk t ⟨?_, ?_⟩) (fun c => ?_)
      · rw [fa_eq, k_0] at c
        have ne : ¬ gElI (ri (σ.1 6) (laN σ x1.toNatClampNeg)) := fun z => q8.2.mpr z c
        show JN0 σ t x1.toNatClampNeg (eb2 _ _ _ _ _ _)
        unfold eb2
        rw [if_neg ne]
        exact J
      · rw [fa_eq, k_0] at c
        have ne : ¬ gElI (ri (σ.1 6) (laN σ x1.toNatClampNeg)) := fun z => q8.2.mpr z c
        exact ⟨a1, fun _ z => absurd z ne, fun z _ => a2 z, fun z => absurd z.2.1 ne, fun _ => a3⟩
      · rw [fa_eq, k_0] at c
        have ge := q8.2.mp c
        refine pc_ix (fun _ => ?_)
        rw [F.1 7 (by decide), vl]
        refine pc_lt fun v17 e17 => ?_
        have n17 : v17.toNatClampNeg = (ri (σ.1 7) (laN σ x1.toNatClampNeg)).toNat := by rw [e17]; rfl
        refine pc_ix (fun _ => ?_)
        rw [F.1 23 (by decide), n17]
        refine pc_lt fun v18 e18 => ?_
        have t18 : v18.toInt = ri (σ.1 23) (ri (σ.1 7) (laN σ x1.toNatClampNeg)).toNat := by rw [e18]; rfl
        have g18 := gX_23 hB (ri (σ.1 7) (laN σ x1.toNatClampNeg)).toNat
        rw [← e18] at g18
        have rg : 0 ≤ v18.toInt ∧ v18.toInt ≤ 39 := ⟨by rw [t18]; exact hg2 ge, g18.2⟩
        refine pc_ix (fun _ => ?_)
        refine pc_lt fun v19 e19 => ?_
        refine pc_jnI1 (fun u => JN0 σ u x1.toNatClampNeg (v1X σ x1.toNatClampNeg) ∧ onX σ x1.toNatClampNeg (u.1 24 x1.toNatClampNeg).toInt (u.1 25 x1.toNatClampNeg).toInt) (fun u I2 => ?_) (fun k2 hk2 => ?_)
        · obtain ⟨J2, b1⟩ := I2
          refine pc_cals (t_X0_lead (x3 := 0) h1 rg J2.2.2.1) (fun s21 q21 => hk s21 ⟨?_, ?_⟩)
          · have J21 := J2.le q21
            have d1 : decide ((0 : Int32).toInt ≠ 0) = false := by decide +kernel
            rw [d1, t18] at J21
            show JN0 σ s21 x1.toNatClampNeg (eb2 _ _ _ _ _ _)
            unfold eb2
            rw [if_pos ge]
            exact J21
          · rw [q21.1.1 24 (by decide), q21.1.1 25 (by decide)]; exact b1
        · refine pc_ite (fun c2 => ?_) (fun c2 => ?_)
          · rw [fa_eq, k_m1, e19] at c2
            refine pc_ix (fun _ => ?_)
            refine pc_lt fun s23 e23 => ?_
            have no : ¬ gOnI (ri (σ.1 6) (laN σ x1.toNatClampNeg)) := fun z => by
              have := hg1 z
              have := a1 z
              omega
            refine hk2 s23 ⟨by rw [e23]; exact J.st (Or.inl rfl), fun z => absurd z no, fun _ _ => ?_, fun _ z => absurd ge z, fun z => absurd z.1 no, fun _ => ?_⟩
            · rw [e23, sti_s]; exact t18
            · rw [e23, sti_o (by decide)]; exact a3
          · rw [fa_eq, k_m1, e19] at c2
            have go : gOnI (ri (σ.1 6) (laN σ x1.toNatClampNeg)) := Classical.byContradiction fun z => c2 (a2 z)
            refine pc_ix (fun _ => ?_)
            refine pc_lt fun v24 e24 => ?_
            refine pc_ite (fun c3 => ?_) (fun c3 => ?_)
            · rw [fa_eq, e24, a1 go, t18] at c3
              exact hk2 t ⟨J, a1, fun z => absurd go z, fun z => absurd go z, fun z => absurd c3 z.2.2, fun _ => a3⟩
            · rw [fa_eq, e24, a1 go, t18] at c3
              refine pc_ix (fun _ => ?_)
              refine pc_lt fun s26 e26 => ?_
              refine hk2 s26 ⟨by rw [e26]; exact J.st (Or.inr (Or.inl rfl)), fun z => ?_, fun z => absurd go z, fun z => absurd go z, fun _ => ?_, fun z => absurd ⟨go, ge, c3⟩ z⟩
              · rw [e26, sti_o (by decide)]; exact a1 z
              · rw [e26, sti_s]; exact t18
  · refine pc_ite (fun c => hk s5 ⟨?_, ?_, fun _ => ?_, ?_⟩) (fun c => ?_)
    · rw [fa_eq, k_0] at c
      have no : ¬ gOnI (ri (σ.1 6) (laN σ x1.toNatClampNeg)) := fun z => q6.2.mpr z c
      show JN0 σ s5 x1.toNatClampNeg (eb1 _ _ _ _ _)
      unfold eb1
      rw [if_neg no]
      exact J5
    · rw [fa_eq, k_0] at c
      exact fun z => absurd c (q6.2.mpr z)
    · rw [p24]; exact k_m1
    · rw [p25]; exact k_m1
    · rw [fa_eq, k_0] at c
      have go := q6.2.mp c
      refine pc_ix (fun i1_ => ?_)
      have ev : (v1 + 1).toInt = v1.toInt + 1 := i1 (by rw [e1]; omega)
      have n1 : (v1 + 1).toNatClampNeg = laN σ x1.toNatClampNeg + 1 := by
        have := clamp_I (x := v1 + 1) i1_.1
        have := clamp_I (x := v1) (by rw [e1]; exact g22.1)
        omega
      rw [n1, o5 23 (by decide) (by decide) (by decide)]
      refine pc_lt fun v28 e28 => ?_
      refine pc_ix (fun _ => ?_)
      refine pc_lt fun s29 e29 => ?_
      refine pc_ix (fun _ => ?_)
      rw [show s29.1 23 = σ.1 23 by rw [e29, sti_o (by decide), o5 23 (by decide) (by decide) (by decide)]]
      refine pc_lt fun v30 e30 => ?_
      have t30 : v30.toInt = ri (σ.1 23) (laN σ x1.toNatClampNeg + 1) := by rw [e30]; rfl
      have g30 := gX_23 hB (laN σ x1.toNatClampNeg + 1)
      rw [← e30] at g30
      have J29 : JN0 σ s29 x1.toNatClampNeg (EVw σ 27 29 30 31) := by rw [e29]; exact J5.st (Or.inl rfl)
      refine pc_cals (t_X0_lead (x3 := 0) h1 ⟨by rw [t30]; exact hg1 go, g30.2⟩ J29.2.2.1) (fun s31 q31 => hk s31 ⟨?_, fun _ => ?_, fun z => absurd go z, ?_⟩)
      · have J31 := J29.le q31
        have d1 : decide ((0 : Int32).toInt ≠ 0) = false := by decide +kernel
        rw [d1, t30] at J31
        show JN0 σ s31 x1.toNatClampNeg (eb1 _ _ _ _ _)
        unfold eb1
        rw [if_pos go]
        exact J31
      · rw [q31.1.1 24 (by decide), e29, sti_s, e28]; rfl
      · rw [q31.1.1 25 (by decide), e29, sti_o (by decide), p25]; exact k_m1
