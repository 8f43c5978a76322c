theorem t_isBackX {σ0 σ : Sto} {x : Int32} (hB : BX σ0) (h29 : σ.1 29 = σ0.1 29) (h30 : σ.1 30 = σ0.1 30) : PC (f_X8_isBack x σ) (fun v => (v = 0 ∨ v = 1) ∧ (v = 0 ↔ ¬ bL (σ.2 1 (gA (EVx σ) x.toNatClampNeg)) (gB (EVx σ) x.toNatClampNeg) = true)) := by
  have g29 := gX_29 hB x.toNatClampNeg
  have g30 := gX_30 hB x.toNatClampNeg
  rw [← h29] at g29
  rw [← h30] at g30
  unfold f_X8_isBack
  refine pc_ix (fun _ => ?_)
  refine pc_lt fun v1 e1 => ?_
  have c1 : v1.toNatClampNeg = gA (EVx σ) x.toNatClampNeg := by rw [e1]; rfl
  refine pc_ix (fun _ => ?_)
  rw [c1]
  refine pc_lt fun v2 e2 => ?_
  refine pc_ix (fun _ => ?_)
  refine pc_lt fun v3 e3 => ?_
  have c3 : v3.toNatClampNeg = gB (EVx σ) x.toNatClampNeg := by rw [e3]; rfl
  refine pc_calp (t_isInB (x := v2) (i := v3) (by rw [e3]; omega) (by rw [e3]; omega)) (fun v4 h4 => ?_)
  rw [c3, e2] at h4
  exact pc_bz (fun b4 => pc_ret ⟨b4, h4⟩)
abbrev MS9 : List Nat := [39, 40, 42, 43]
theorem PRM.ord {V : EVt} {J : Nat → Bool} {n : Nat} {r39 r40 : Nat → Int} (h : PRM V J n r39 r40) : (∀ p, p < n → ∃ b : Nat, b < n ∧ r39 p = b) ∧ (∀ b, b < n → ∃ p : Nat, p < n ∧ r39 p = b) ∧ ∀ p, p < n → (r39 p = 0 ↔ p = 0) := by
  obtain ⟨h1, h2, ⟨h3, _⟩, _⟩ := h
  refine ⟨fun p hp => ?_, fun b hb => ?_, fun p hp => ?_⟩
  · obtain ⟨b, b1, b2, _⟩ := h2 p hp
    exact ⟨b, b1, b2⟩
  · obtain ⟨p, p1, p2, p3⟩ := h1 b hb
    exact ⟨p, p2, p3⟩
  · constructor
    · intro z
      obtain ⟨b, b1, b2, b3⟩ := h2 p hp
      have b0 : b = 0 := by omega
      rw [b0, h3] at b3
      omega
    · intro z
      subst z
      obtain ⟨q, q1, q2, q3⟩ := h1 0 hp
      have q0 : q = 0 := by omega
      rw [q0] at q3
      exact q3
/-- reduced: so and only so -/
def RDX (σ : Sto) (r : Int32 × Sto) : Prop := FR MS9 [1, 5] σ r.2 ∧ (r.1 = 0 ∨ r.1 = 1) ∧ (r.1 ≠ 0 ↔ GG (EVx σ) (Jx σ) (nX σ)) ∧ ((∀ b, b < nX σ → AG (EVx σ) (Jx σ) b) → PRM (EVx σ) (Jx σ) (nX σ) (ri (r.2.1 39)) (ri (r.2.1 40)) ∧ BEF σ r.2 ∧ DMX σ r.2)
theorem t_isReducedNow {σ : Sto} (hB : BX σ) (hEB : EB σ) (hE : PFE (EVx σ) (nX σ) (fEx σ)) (hn : 0 < nX σ) : PC (f_X8_isReducedNow σ) (RDX σ) := by
  have k_0 : (0 : Int32).toInt = 0 := by decide +kernel
  have n1 : (1 : Int32) ≠ 0 := by decide
  have g20 := gX_20 hB 0
  have g27 := gX_27 hB 0
  have hV : ((EVx σ).1 : Int) = (σ.1 27 0).toInt := Int.toNat_of_nonneg g27.1
  unfold f_X8_isReducedNow
  refine pc_calv (pc_and (t_allAreComeTo hB hE hn) (pc_ok (s_X8_allAreComeTo hB hEB))) (fun v1 s1 q => ?_)
  obtain ⟨⟨q1, q2, q3⟩, _, B1, _⟩ := q
  (try dsimp only at q1 q2 q3 B1)
  refine pc_ite (fun c => ?_) (fun c => ?_)
  · exact pc_ret ⟨FR.cal FR.rf q1 rfl rfl, Or.inl rfl, ⟨fun z => absurd rfl z, fun G => absurd c (q2.mpr G.1)⟩, fun z => absurd c (q2.mpr z)⟩
  have P := q3 c
  have A := q2.mp c
  have f1 : ∀ {k : Nat}, k ≠ 39 ∧ k ≠ 40 ∧ k ≠ 42 ∧ k ≠ 43 → s1.1 k = σ.1 k := fun {k} hk => q1.1 k (by simp; omega)
  have eV : EVx s1 = EVx σ := EVw.cg (f1 (by decide)) (f1 (by decide)) (f1 (by decide)) (f1 (by decide))
  have eJ : Jx s1 = Jx σ := by unfold Jx; rw [f1 (show (37 : Nat) ≠ 39 ∧ (37 : Nat) ≠ 40 ∧ (37 : Nat) ≠ 42 ∧ (37 : Nat) ≠ 43 by decide)]
  have eN : nX s1 = nX σ := by unfold nX; rw [f1 (show (20 : Nat) ≠ 39 ∧ (20 : Nat) ≠ 40 ∧ (20 : Nat) ≠ 42 ∧ (20 : Nat) ≠ 43 by decide)]
  obtain ⟨O1, O2, O3⟩ := P.ord
  refine pc_cals (t_findDominators (σ := s1) B1 (by rw [eV, eN]; exact hE.2) (by rw [eN]; exact hn) (by rw [eN]; exact O1) (by rw [eN]; exact O2) (by rw [eN]; exact O3)) (fun s3 w => ?_)
  obtain ⟨w1, w2, w3⟩ := w
  unfold BEF at w2
  unfold DMX at w3
  rw [eV, eJ, eN] at w2
  rw [eV, eJ, eN] at w3
  have f3 : ∀ k, s3.1 k = s1.1 k := fun k => w1.1 k List.not_mem_nil
  have B3 : BX s3 := fun k i => by rw [f3 k]; exact B1 k i
  have eV3 : EVx s3 = EVx σ := (EVw.cg (f3 27) (f3 29) (f3 30) (f3 31)).trans eV
  have P3 : PRM (EVx σ) (Jx σ) (nX σ) (ri (s3.1 39)) (ri (s3.1 40)) := by rw [f3 39, f3 40]; exact P
  have F3 : FR MS9 [1, 5] σ s3 := FR.cal (FR.cal FR.rf q1 rfl rfl) w1 rfl rfl
  have fs : ∀ {k : Nat}, k ≠ 39 ∧ k ≠ 40 ∧ k ≠ 42 ∧ k ≠ 43 → s3.1 k = σ.1 k := fun {k} hk => (f3 k).trans (f1 hk)
  refine pc_itr1 (fun x => 0 ≤ x.toInt ∧ ∀ e : Nat, (e : Int) < x.toInt → KG (EVx σ) (Jx σ) e → ri (s3.1 40) (gA (EVx σ) e) < ri (s3.1 40) (gB (EVx σ) e) ∨ DG (EVx σ) (Jx σ) (gB (EVx σ) e) (gA (EVx σ) e)) ?_ ⟨by omega, fun e he => by omega⟩
  intro ag x I ih
  obtain ⟨x0, hx⟩ := I
  have cx := clamp_I x0
  refine pc_ite (fun c2 => ?_) (fun c2 => ?_)
  · rw [fa_le, fs (by decide)] at c2
    refine pc_ret ⟨F3, Or.inr rfl, ⟨fun _ => ⟨A, fun b => (ri (s3.1 40) b).toNat, fun e he => ?_⟩, fun _ => n1⟩, fun _ => ⟨P3, w2, w3⟩⟩
    have r := hE.2 e he.1.1
    have y := (hx e (by have := he.1.1; omega) he.1).resolve_right he.2
    obtain ⟨p, p1, _⟩ := P3.1 _ r.1
    obtain ⟨p2, p3, _⟩ := P3.1 _ r.2
    rw [p1, p3] at y
    show (ri (s3.1 40) (gA (EVx σ) e)).toNat < (ri (s3.1 40) (gB (EVx σ) e)).toNat
    rw [p1, p3]
    omega
  · rw [fa_le, fs (by decide)] at c2
    have ex : (x + 1).toInt = x.toInt + 1 := i1 (by omega)
    have heE : x.toNatClampNeg < (EVx σ).1 := by omega
    have he := hE.2 _ heE
    refine pc_ix (fun _ => ?_)
    refine pc_lt fun v6 e6 => ?_
    have c6 : v6.toNatClampNeg = gB (EVx σ) x.toNatClampNeg := by rw [e6, fs (by decide)]; rfl
    refine pc_ix (fun _ => ?_)
    rw [c6]
    refine pc_lt fun v7 e7 => ?_
    refine pc_ix (fun _ => ?_)
    refine pc_lt fun v8 e8 => ?_
    have c8 : v8.toNatClampNeg = gA (EVx σ) x.toNatClampNeg := by rw [e8, fs (by decide)]; rfl
    refine pc_ix (fun _ => ?_)
    rw [c8]
    refine pc_lt fun v9 e9 => ?_
    have v7b : v7.toInt = ri (s3.1 40) (gB (EVx σ) x.toNatClampNeg) := by rw [e7]; rfl
    have v9b : v9.toInt = ri (s3.1 40) (gA (EVx σ) x.toNatClampNeg) := by rw [e9]; rfl
    refine pc_jnI1 (fun t => t = 0 ↔ ri (s3.1 40) (gA (EVx σ) x.toNatClampNeg) < ri (s3.1 40) (gB (EVx σ) x.toNatClampNeg)) (fun t ht => ?_) (fun k hk => ?_)
    · refine pc_ix (fun _ => ?_)
      refine pc_lt fun v11 e11 => ?_
      rw [fs (show (37 : Nat) ≠ 39 ∧ (37 : Nat) ≠ 40 ∧ (37 : Nat) ≠ 42 ∧ (37 : Nat) ≠ 43 by decide)] at e11
      refine pc_jnI0 (KG (EVx σ) (Jx σ) x.toNatClampNeg → ri (s3.1 40) (gA (EVx σ) x.toNatClampNeg) < ri (s3.1 40) (gB (EVx σ) x.toNatClampNeg) ∨ DG (EVx σ) (Jx σ) (gB (EVx σ) x.toNatClampNeg) (gA (EVx σ) x.toNatClampNeg)) (fun h => ?_) (fun k2 hk2 => ?_)
      · refine pc_lt fun x13 e13 => ?_
        subst e13
        refine ih (x + 1) ⟨by omega, fun e h1 h2 => ?_⟩
        by_cases q : e = x.toNatClampNeg
        · rw [q]
          rw [q] at h2
          exact h h2
        · exact hx e (by omega) h2
      · refine pc_ite (fun c3 => ?_) (fun c3 => ?_)
        · rw [fa_eq, k_0, e11] at c3
          have kg : KG (EVx σ) (Jx σ) x.toNatClampNeg := ⟨heE, Jx_f.mpr c3⟩
          refine pc_ite (fun c4 => hk2 (fun _ => Or.inl (ht.mp c4))) (fun c4 => ?_)
          refine pc_calp (t_isBackX (x := x) B3 rfl rfl) (fun v16 h16 => ?_)
          rw [eV3, w3 _ he.1] at h16
          refine pc_ite (fun c5 => ?_) (fun c5 => ?_)
          · have nb : ¬ DG (EVx σ) (Jx σ) (gB (EVx σ) x.toNatClampNeg) (gA (EVx σ) x.toNatClampNeg) := fun z => (h16.2.mp c5) ⟨he.2, z⟩
            refine pc_ret ⟨F3, Or.inl rfl, ⟨fun z => absurd rfl z, fun G => ?_⟩, fun _ => ⟨P3, w2, w3⟩⟩
            obtain ⟨_, r, hr⟩ := G
            have fp := (P3.2.2.2 _ kg).resolve_left (fun z => c4 (ht.mpr z))
            have a := fp (fun y => r (gB (EVx σ) x.toNatClampNeg) ≤ r y) (Nat.le_refl _) (fun e he2 hy => Nat.le_of_lt (Nat.lt_of_le_of_lt hy (hr e he2)))
            have b := hr _ ⟨kg, nb⟩
            exact absurd b (Nat.not_lt.mpr a)
          · exact hk2 (fun _ => Or.inr (Classical.byContradiction fun z => c5 (h16.2.mpr (fun y => z y.2))))
        · rw [fa_eq, k_0, e11] at c3
          exact hk2 (fun z => absurd (Jx_f.mp z.2) c3)
    · refine pc_ite (fun c3 => ?_) (fun c3 => ?_)
      · rw [fa_lt, v7b, v9b] at c3
        exact hk 0 ⟨fun _ => c3, fun _ => rfl⟩
      · rw [fa_lt, v7b, v9b] at c3
        exact hk 1 ⟨fun z => absurd z n1, fun z => absurd z c3⟩
