theorem t_comeToM {σ : Sto} {x1 x2 : Int32} {src h : Nat} (hB : BM σ) (hF : EFI σ) (g0 : 0 ≤ x1.toInt) (g1 : x1.toNatClampNeg = src) (hs : src < nB σ) (h0 : 0 ≤ x2.toInt) (h1 : x2.toNatClampNeg = h) : PC (f_X12_comeTo x1 x2 σ) (fun S => ∀ i, bL S i = true ↔ CTS (EVm σ) (Jm σ) src h i) := by
  have k_0 : (0 : Int32).toInt = 0 := by decide +kernel
  have n1 : (1 : Int32) ≠ 0 := by decide
  have hn := nB_le hB
  have hE := nE_le hB
  have c1 := clamp_I g0
  have c2 := clamp_I h0
  unfold f_X12_comeTo
  refine pc_lt fun S0 e0 => ?_
  have b0 : ∀ i, bL S0 i = true ↔ i = src := fun i => by
    rw [e0, bL_one (v := x1) g0 (by omega), decide_eq_true_eq, g1]
  refine pc_jnI1 (fun t => t = 0 ↔ src = h) (fun t ht => ?_) (fun k hk => ?_)
  · refine pc_itr2 (fun S g => bL S src = true ∧ (∀ i, bL S i = true → CTS (EVm σ) (Jm σ) src h i) ∧ (g = 0 → ∀ e, KG (EVm σ) (Jm σ) e → bL S (gB (EVm σ) e) = true → gA (EVm σ) e ≠ h → src ≠ h → bL S (gA (EVm σ) e) = true) ∧ (g ≠ 0 → src ≠ h)) ?_ ⟨(b0 src).mpr rfl, fun i hi => by rw [(b0 i).mp hi]; exact fun P p _ => p, fun z e _ _ _ m => absurd (ht.mp z) m, fun z w => z (ht.mpr w)⟩
    intro ag S g I ih
    obtain ⟨i1_, i2, i3, i4⟩ := I
    refine pc_ite (fun c => ?_) (fun c => ?_)
    · exact pc_ret (fun i => ⟨i2 i, fun z => z (fun x => bL S x = true) i1_ (i3 c)⟩)
    have sh := i4 c
    refine pc_itr3 (fun T f e => 0 ≤ e.toInt ∧ bL T src = true ∧ (∀ i, bL T i = true → CTS (EVm σ) (Jm σ) src h i) ∧ (f = 0 → ∀ d : Nat, (d : Int) < e.toInt → KG (EVm σ) (Jm σ) d → bL T (gB (EVm σ) d) = true → gA (EVm σ) d ≠ h → bL T (gA (EVm σ) d) = true)) ?_ ⟨by omega, i1_, i2, fun _ d hd => by omega⟩
    intro ag2 T f e I2 ih2
    obtain ⟨a0, a1, a2, a3⟩ := I2
    have ce := clamp_I a0
    refine pc_ite (fun c3 => ?_) (fun c3 => ?_)
    · rw [fa_le] at c3
      exact ih T f ⟨a1, a2, fun z d kg hp hn _ => a3 z d (by have := kg.1; have hV : ((EVm σ).1 : Int) = (σ.1 32 0).toInt := hE.2; omega) kg hp hn, fun _ => sh⟩
    · rw [fa_le] at c3
      have ex : (e + 1).toInt = e.toInt + 1 := i1 (by omega)
      have heE : e.toNatClampNeg < nE σ := by omega
      have he := hF _ heE
      have g27 := gM_27 hB e.toNatClampNeg
      have g28 := gM_28 hB e.toNatClampNeg
      refine pc_ix (fun _ => ?_)
      refine pc_lt fun v7 e7 => ?_
      refine pc_jnI2 (fun T2 f2 => bL T2 src = true ∧ (∀ i, bL T2 i = true → CTS (EVm σ) (Jm σ) src h i) ∧ (f2 = 0 → ∀ d : Nat, (d : Int) < e.toInt + 1 → KG (EVm σ) (Jm σ) d → bL T2 (gB (EVm σ) d) = true → gA (EVm σ) d ≠ h → bL T2 (gA (EVm σ) d) = true)) (fun T2 f2 Jn => ?_) (fun k hk => ?_)
      · refine pc_lt fun x9 e9 => ?_
        subst e9
        exact ih2 T2 f2 (e + 1) ⟨by omega, Jn.1, Jn.2.1, by rw [ex]; exact Jn.2.2⟩
      · have skip : (KG (EVm σ) (Jm σ) e.toNatClampNeg → bL T (gB (EVm σ) e.toNatClampNeg) = true → gA (EVm σ) e.toNatClampNeg ≠ h → bL T (gA (EVm σ) e.toNatClampNeg) = true) → PC (k T f) (fun S => ∀ i, bL S i = true ↔ CTS (EVm σ) (Jm σ) src h i) := fun hx => by
          refine hk T f ⟨a1, a2, fun z d hd kg hp hn => ?_⟩
          by_cases q : d = e.toNatClampNeg
          · rw [q]
            rw [q] at kg hp hn
            exact hx kg hp hn
          · exact a3 z d (by omega) kg hp hn
        refine pc_ite (fun c4 => ?_) (fun c4 => ?_)
        · rw [fa_eq, k_0, e7] at c4
          have kg : KG (EVm σ) (Jm σ) e.toNatClampNeg := ⟨heE, Jm_f.mpr c4⟩
          refine pc_ix (fun _ => ?_)
          refine pc_lt fun v11 e11 => ?_
          have c11 : v11.toNatClampNeg = gB (EVm σ) e.toNatClampNeg := by rw [e11]; rfl
          refine pc_calp (t_hasM (x := T) (v := v11) (by rw [e11]; omega) (by rw [e11]; omega)) (fun v12 h12 => ?_)
          rw [c11] at h12
          refine pc_ite (fun c5 => ?_) (fun c5 => ?_)
          · exact skip (fun _ z => by rw [h12.mp c5] at z; exact absurd z (by decide))
          have inT : bL T (gB (EVm σ) e.toNatClampNeg) = true := by
            cases y : bL T (gB (EVm σ) e.toNatClampNeg) with
            | true => rfl
            | false => exact absurd (h12.mpr y) c5
          refine pc_ix (fun _ => ?_)
          refine pc_lt fun v14 e14 => ?_
          have c14 : v14.toNatClampNeg = gA (EVm σ) e.toNatClampNeg := by rw [e14]; rfl
          refine pc_calp (t_hasM (x := T) (v := v14) (by rw [e14]; omega) (by rw [e14]; omega)) (fun v15 h15 => ?_)
          rw [c14] at h15
          refine pc_ite (fun c6 => ?_) (fun c6 => ?_)
          · refine pc_ix (fun _ => ?_)
            refine pc_lt fun v17 e17 => ?_
            refine pc_ite (fun c7 => ?_) (fun c7 => ?_)
            · rw [fa_eq, e17] at c7
              refine skip (fun _ _ z => absurd ?_ z)
              show (σ.1 27 e.toNatClampNeg).toInt.toNat = h
              omega
            · rw [fa_eq, e17] at c7
              refine pc_ix (fun _ => ?_)
              refine pc_lt fun v19 e19 => ?_
              refine pc_lt fun T2 eT => ?_
              have c19 : v19.toNatClampNeg = gA (EVm σ) e.toNatClampNeg := by rw [e19]; rfl
              have bo : ∀ i, bL T2 i = true ↔ (bL T i = true ∨ i = gA (EVm σ) e.toNatClampNeg) := fun i => by
                rw [eT, bL_set (v := v19) (by rw [e19]; omega) (by rw [e19]; omega), Bool.or_eq_true, decide_eq_true_eq, c19]
              have gn : gA (EVm σ) e.toNatClampNeg ≠ h := fun z => c7 (by
                have y : (σ.1 27 e.toNatClampNeg).toInt.toNat = h := z
                omega)
              refine hk T2 1 ⟨(bo src).mpr (Or.inl a1), fun i hi => ?_, fun z => absurd z n1⟩
              rcases (bo i).mp hi with y | y
              · exact a2 i y
              · rw [y]
                exact (a2 _ inT).st kg gn sh
          · exact skip (fun _ _ _ => by
              cases y : bL T (gA (EVm σ) e.toNatClampNeg) with
              | true => rfl
              | false => exact absurd (h15.mpr y) c6)
        · rw [fa_eq, k_0, e7] at c4
          exact skip (fun z => absurd (Jm_f.mp z.2) c4)
  · refine pc_ite (fun c => ?_) (fun c => ?_)
    · rw [fa_eq] at c
      exact hk 0 ⟨fun _ => by omega, fun _ => rfl⟩
    · rw [fa_eq] at c
      exact hk 1 ⟨fun z => absurd z n1, fun z => absurd (by omega) c⟩
/-- the reference's loops -/
def LPM (σ s : Sto) : Prop := ∀ b, b < nB σ → ∀ i, bL (s.2 1 b) i = true ↔ ∃ e, e < nE σ ∧ (σ.1 31 e).toInt ≠ 0 ∧ gB (EVm σ) e = b ∧ (i = b ∨ CTS (EVm σ) (Jm σ) (gA (EVm σ) e) b i)
theorem t_laysLoopsM {σ : Sto} (hB : BM σ) (hF : EFI σ) : PC (f_X12_laysLoops σ) (fun s => FR [] [1] σ s ∧ LPM σ s) := by
  have k_0 : (0 : Int32).toInt = 0 := by decide +kernel
  have hn := nB_le hB
  have hE := nE_le hB
  have hN : (nB σ : Int) = (σ.1 26 0).toInt := Int.toNat_of_nonneg (gM_26 hB 0).1
  have fi : ∀ {s : Sto}, FR [] [1] σ s → ∀ k, s.1 k = σ.1 k := fun f k => f.1 k List.not_mem_nil
  unfold f_X12_laysLoops
  refine pc_itr2 (fun x s => 0 ≤ x.toInt ∧ FR [] [1] σ s ∧ ∀ b : Nat, (b : Int) < x.toInt → b < nB σ → ∀ i, bL (s.2 1 b) i = true ↔ ∃ e, e < nE σ ∧ (σ.1 31 e).toInt ≠ 0 ∧ gB (EVm σ) e = b ∧ (i = b ∨ CTS (EVm σ) (Jm σ) (gA (EVm σ) e) b i)) ?_ ⟨by omega, FR.rf, fun b hb => by omega⟩
  intro ag x s I ih
  obtain ⟨x0, f, p⟩ := I
  have cx := clamp_I x0
  refine pc_ite (fun c => ?_) (fun c => ?_)
  · rw [fa_le, fi f 26] at c
    exact pc_ret ⟨f, fun b hb => p b (by omega) hb⟩
  · rw [fa_le, fi f 26] at c
    have ex : (x + 1).toInt = x.toInt + 1 := i1 (by omega)
    have xn : x.toNatClampNeg < nB σ := by omega
    refine pc_ix (fun _ => ?_)
    refine pc_lt fun s3 e3 => ?_
    have f3 : FR [] [1] σ s3 := by rw [e3]; exact FR.stl f (by decide)
    refine pc_itr2 (fun e t => 0 ≤ e.toInt ∧ FR [] [1] σ t ∧ (∀ c, c ≠ x.toNatClampNeg → t.2 1 c = s.2 1 c) ∧ ∀ i, bL (t.2 1 x.toNatClampNeg) i = true ↔ ∃ d : Nat, (d : Int) < e.toInt ∧ d < nE σ ∧ (σ.1 31 d).toInt ≠ 0 ∧ gB (EVm σ) d = x.toNatClampNeg ∧ (i = x.toNatClampNeg ∨ CTS (EVm σ) (Jm σ) (gA (EVm σ) d) x.toNatClampNeg i)) ?_ ⟨by omega, f3, fun c hc => by rw [e3, stl_j hc], fun i => ?_⟩
    · intro ag2 e t I2 ih2
      obtain ⟨a0, t1, t2, t3⟩ := I2
      have ce := clamp_I a0
      refine pc_ite (fun c2 => ?_) (fun c2 => ?_)
      · rw [fa_le, fi t1 32] at c2
        refine pc_lt fun x6 e6 => ?_
        subst e6
        refine ih (x + 1) t ⟨by omega, t1, fun b h1 h2 i => ?_⟩
        by_cases q : b = x.toNatClampNeg
        · rw [q, t3 i]
          exact ⟨fun ⟨d, _, y⟩ => ⟨d, y⟩, fun ⟨d, y⟩ => ⟨d, by have := y.1; omega, y⟩⟩
        · rw [t2 b q]; exact p b (by omega) h2 i
      · rw [fa_le, fi t1 32] at c2
        have ex2 : (e + 1).toInt = e.toInt + 1 := i1 (by omega)
        have heE : e.toNatClampNeg < nE σ := by omega
        have he := hF _ heE
        have g27 := gM_27 hB e.toNatClampNeg
        have g28 := gM_28 hB e.toNatClampNeg
        refine pc_ix (fun _ => ?_)
        rw [fi t1 31]
        refine pc_lt fun v7 e7 => ?_
        refine pc_jnI1 (fun u => FR [] [1] σ u ∧ (∀ c, c ≠ x.toNatClampNeg → u.2 1 c = s.2 1 c) ∧ ∀ i, bL (u.2 1 x.toNatClampNeg) i = true ↔ ∃ d : Nat, (d : Int) < e.toInt + 1 ∧ d < nE σ ∧ (σ.1 31 d).toInt ≠ 0 ∧ gB (EVm σ) d = x.toNatClampNeg ∧ (i = x.toNatClampNeg ∨ CTS (EVm σ) (Jm σ) (gA (EVm σ) d) x.toNatClampNeg i)) (fun u Jn => ?_) (fun k hk => ?_)
        · refine pc_lt fun x9 e9 => ?_
          subst e9
          exact ih2 (e + 1) u ⟨by omega, Jn.1, Jn.2.1, by rw [ex2]; exact Jn.2.2⟩
        · have skip : ¬ ((σ.1 31 e.toNatClampNeg).toInt ≠ 0 ∧ gB (EVm σ) e.toNatClampNeg = x.toNatClampNeg) → PC (k t) (fun s => FR [] [1] σ s ∧ LPM σ s) := fun hno => by
            refine hk t ⟨t1, t2, fun i => ?_⟩
            rw [t3 i]
            constructor
            · rintro ⟨d, y1, y⟩
              exact ⟨d, by omega, y⟩
            · rintro ⟨d, y1, y2, y3, y4, y5⟩
              have q : d ≠ e.toNatClampNeg := fun z => hno (z ▸ ⟨y3, y4⟩)
              exact ⟨d, by omega, y2, y3, y4, y5⟩
          refine pc_ite (fun c3 => ?_) (fun c3 => ?_)
          · rw [fa_eq, k_0, e7] at c3
            exact skip (fun z => z.1 c3)
          · rw [fa_eq, k_0, e7] at c3
            refine pc_ix (fun _ => ?_)
            rw [fi t1 28]
            refine pc_lt fun v11 e11 => ?_
            refine pc_ite (fun c4 => ?_) (fun c4 => ?_)
            · rw [e11] at c4
              have gb : gB (EVm σ) e.toNatClampNeg = x.toNatClampNeg := by
                show (σ.1 28 e.toNatClampNeg).toInt.toNat = x.toNatClampNeg
                rw [c4]; rfl
              refine pc_ix (fun _ => ?_)
              refine pc_lt fun v13 e13 => ?_
              refine pc_ix (fun _ => ?_)
              rw [fi t1 27]
              refine pc_lt fun v14 e14 => ?_
              have c14 : v14.toNatClampNeg = gA (EVm σ) e.toNatClampNeg := by rw [e14]; rfl
              have Bt : BM t := fun k i => by rw [fi t1 k]; exact hB k i
              have eVt : EVm t = EVm σ := EVw.cg (fi t1 32) (fi t1 27) (fi t1 28) (fi t1 29)
              have eJt : Jm t = Jm σ := by unfold Jm; rw [fi t1 30]
              have nt : nB t = nB σ := by unfold nB; rw [fi t1 26]
              refine pc_calp (t_comeToM (σ := t) (src := gA (EVm σ) e.toNatClampNeg) (h := x.toNatClampNeg) Bt (hF.cg (fi t1 26) (fi t1 27) (fi t1 28) (fi t1 32)) (by rw [e14]; omega) c14 (by rw [nt]; exact he.1) x0 rfl) (fun v15 h15 => ?_)
              rw [eVt, eJt] at h15
              refine pc_ix (fun _ => ?_)
              refine pc_lt fun s16 e16 => ?_
              refine hk s16 ⟨by rw [e16]; exact FR.stl t1 (by decide), fun c hc => by rw [e16, stl_j hc]; exact t2 c hc, fun i => ?_⟩
              rw [e16, stl_s, bL_or, bL_or, Bool.or_eq_true, Bool.or_eq_true, bL_one (v := x) x0 (by omega), decide_eq_true_eq, h15 i, e13, t3 i]
              constructor
              · rintro (⟨d, y1, y⟩ | y)
                · exact ⟨d, by omega, y⟩
                · exact ⟨e.toNatClampNeg, by omega, heE, c3, gb, y⟩
              · rintro ⟨d, y1, y2, y3, y4, y5⟩
                by_cases q : d = e.toNatClampNeg
                · right
                  rw [q] at y5
                  exact y5
                · exact Or.inl ⟨d, by omega, y2, y3, y4, y5⟩
            · rw [fa_eq, e11] at c4
              refine skip (fun z => c4 ?_)
              have y : (σ.1 28 e.toNatClampNeg).toInt.toNat = x.toNatClampNeg := z.2
              omega
    · rw [e3, stl_s, bL_0]
      exact ⟨fun z => absurd z (by decide), fun ⟨d, d1, _⟩ => by omega⟩
/-- loops on both sides -/
theorem AD4.lpx {σ : Sto} (h : AD4 σ) (hr : ∀ e, e < (EVx σ).1 → gA (EVx σ) e < nX σ ∧ gB (EVx σ) e < nX σ) (hn : 0 < nX σ) (hA : ∀ b, b < nX σ → AG (EVx σ) J0f b) : LPX (EVx σ) (Jx σ) (fun e => decide ((σ.1 38 e).toInt ≠ 0)) (nX σ) σ := by
  obtain ⟨s2, s3, ⟨b1, eV, eN⟩, r1, r2, r3, s8, s9, s11, s12, ⟨p1, p2, p3, p4⟩, ⟨q1, q2, q3⟩, ⟨w1, w2, w3⟩, ⟨u1, u2, u3⟩, ⟨o1, o2, o3⟩⟩ := h.frm hr hn hA
  have e12 : ∀ k, s3.1 k = s12.1 k := fun k => o3.1 k List.not_mem_nil
  have e11 : ∀ k, s12.1 k = s11.1 k := fun k => u3.1 k List.not_mem_nil
  have s11k : ∀ k, 20 ≤ k → k < 34 → s11.1 k = σ.1 k := fun k k1 k2 => by rw [← e11, ← e12]; exact r2 k k1 k2
  have s11j : ∀ k, 34 ≤ k → k < 46 → s11.1 k = σ.1 k := fun k k1 k2 => by rw [← e11, ← e12]; exact (r1 k k1 k2).symm
  have eV11 : EVx s11 = EVx σ := EVw.cg (s11k 27 (by decide) (by decide)) (s11k 29 (by decide) (by decide)) (s11k 30 (by decide) (by decide)) (s11k 31 (by decide) (by decide))
  have eN11 : nX s11 = nX σ := by unfold nX; rw [s11k 20 (by decide) (by decide)]
  have eJ11 : Jx s11 = Jx σ := by unfold Jx; rw [s11j 37 (by decide) (by decide)]
  have L := (h.shx hr hn hA).2.1.2.1
  have l5 : σ.2 5 = s11.2 5 := by rw [r3 5 (by decide), o3.2 5 (by decide), u3.2 5 (by decide)]
  have R := (t_findLoops (V := EVx σ) (J := Jx σ) (bk := fun e => decide ((σ.1 38 e).toInt ≠ 0)) w2 eV11 eJ11 (fun e => by rw [s11j 38 (by decide) (by decide)]) (by rw [eN11, ← l5]; exact L) (by rw [eN11]; exact hr) s12 u1).2
  rw [eN11] at R
  unfold LPX at R ⊢
  rw [r3 2 (by decide), r3 3 (by decide), o3.2 2 (by decide), o3.2 3 (by decide)]
  exact R
theorem LY4.lpm {s : Sto} (h : LY4 s) : LPM s s := by
  obtain ⟨s7, b, ⟨s1, s2, s3, s4, s5, s6, s7', t, s9, ⟨z1, B1, f1, Q1, K1, N1⟩, ⟨z2, B2, f2, E2⟩, ⟨z3, B3, f3, E3, J3, t3, G3⟩, ⟨z4, B4, f4, O4⟩, ⟨z5, B5, f5, A5⟩, ⟨z6, B6, f6, L6⟩, ⟨z7, B7, f7, S7⟩, ⟨z8, B8, f8⟩, ⟨z9, B9, f9⟩, ⟨z10, B10, f10⟩⟩, q⟩ := h.tr
  have f45 : FR [33, 34, 35] [1, 2] s3 s5 := FR.cal (FR.cal FR.rf f4 rfl rfl) f5 rfl rfl
  have E5 : EFI s5 := E3.efi.cg (f45.1 26 (by decide)) (f45.1 27 (by decide)) (f45.1 28 (by decide)) (f45.1 32 (by decide))
  have R := (t_laysLoopsM B5 E5 s6 z6).2
  have f6b : FR [38, 39, 40, 41, 42, 43, 44, 45, 46, 47, 48, 49, 50, 51, 52, 53, 54, 55, 56, 57, 58, 59, 60, 61, 62, 63, 64] [] s6 b := FR.cal (FR.cal (FR.cal (FR.cal FR.rf f7 rfl rfl) f8 rfl rfl) f9 rfl rfl) f10 rfl rfl
  have r5 : ∀ k, 20 ≤ k → k ≤ 32 → s.1 k = s5.1 k := fun k k1 k2 => by
    rw [q.1 k (by simp only [km4, Bool.or_eq_true, Bool.and_eq_true, decide_eq_true_eq, beq_iff_eq]; omega), f6b.1 k (by simp; omega), f6.1 k List.not_mem_nil]
  have l1 : s.2 1 = s6.2 1 := by rw [q.2 1 (by decide), f6b.2 1 List.not_mem_nil]
  have eV : EVm s = EVm s5 := EVw.cg (r5 32 (by decide) (by decide)) (r5 27 (by decide) (by decide)) (r5 28 (by decide) (by decide)) (r5 29 (by decide) (by decide))
  have eJ : Jm s = Jm s5 := by unfold Jm; rw [r5 30 (by decide) (by decide)]
  have eN : nB s = nB s5 := by unfold nB; rw [r5 26 (by decide) (by decide)]
  have eE : nE s = nE s5 := by unfold nE; rw [r5 32 (by decide) (by decide)]
  unfold LPM at R ⊢
  rw [eV, eJ, eN, eE, l1, r5 31 (by decide) (by decide)]
  exact R
theorem CBK.cg {V W : EVt} {J J2 : Nat → Bool} {h src i : Nat} (hV : AGV V W) (hJ : ∀ e, e < V.1 → J e = J2 e) (c : CBK V J h src i) : CBK W J2 h src i := fun P p1 p2 p3 => c P p1 p2 (fun e he hp hn => by
  have q := hV.2 e he.1
  have ga : gA V e = gA W e := by show (V.2.1 e).toNat = (W.2.1 e).toNat; rw [q.1]
  have gb : gB V e = gB W e := by show (V.2.2.1 e).toNat = (W.2.2.1 e).toNat; rw [q.2.1]
  rw [ga]
  rw [gb] at hp hn
  exact p3 e ⟨by rw [← hV.1]; exact he.1, by rw [← hJ e he.1]; exact he.2⟩ hp hn)
/-- loops alike -/
def LPQ (σ s : Sto) : Prop := (∀ b, b < nB s → ∀ i, bL (σ.2 3 b) i = true ↔ bL (s.2 1 b) i = true) ∧ ∀ b, b < nB s → (bL (σ.2 2 0) b = true ↔ s.2 1 b ≠ 0)
theorem JT4.loops {σ s : Sto} (h : JT4 σ s) (hl : (σ.1 0 0).toInt ≠ 0) : LPQ σ s := by
  obtain ⟨A, L, D, K, hl2⟩ := h.laid hl
  obtain ⟨B, Q, KM, E⟩ := D.p
  obtain ⟨n, q2, q3, q4⟩ := h.eqe hl
  have S := h.shape hl
  have hn : nX σ = nB s := n
  have hn1 : 1 ≤ nB s := D.2.2.2.2.2.2.2.2.2.2.1
  have ab : ∀ e, e < (EVx σ).1 → gA (EVx σ) e = gA (EVm s) e ∧ gB (EVx σ) e = gB (EVm s) e := fun e he => by
    have q := q4.2 e he
    exact ⟨by show ((EVx σ).2.1 e).toNat = ((EVm s).2.1 e).toNat; rw [q.1], by show ((EVx σ).2.2.1 e).toNat = ((EVm s).2.2.1 e).toNat; rw [q.2.1]⟩
  have hF := E.efi
  have hr : ∀ e, e < (EVx σ).1 → gA (EVx σ) e < nX σ ∧ gB (EVx σ) e < nX σ := fun e he => by
    rw [(ab e he).1, (ab e he).2, hn]
    exact hF e (by rw [q4.1] at he; exact he)
  have hA : ∀ b, b < nX σ → AG (EVx σ) J0f b := fun b hb => (AG.all B Q KM E L.edm b (by rw [← hn]; exact hb)).cgV q4.sy
  obtain ⟨x1, x2⟩ := A.lpx hr (by omega) hA
  have M := L.lpm
  have nV : (EVx σ).1 = nE s := q4.1
  -- edges that are kept and back, on both sides
  have bk : ∀ e, e < nE s → ((KG (EVx σ) (Jx σ) e ∧ decide ((σ.1 38 e).toInt ≠ 0) = true) ↔ (s.1 31 e).toInt ≠ 0) := fun e he => by
    rw [decide_eq_true_eq, S.2.2.1 e he]
    constructor
    · exact fun z => z.2
    · intro z
      refine ⟨⟨by rw [nV]; exact he, ?_⟩, z⟩
      rw [S.2.1 e he]
      have := (S.2.2.2.2.2.2.2 e he).mp z
      exact (KP_g.mp this.1).2
  have mem : ∀ b, b < nB s → ∀ i, bL (σ.2 3 b) i = true ↔ bL (s.2 1 b) i = true := fun b hb i => by
    rw [x2 b (by rw [hn]; exact hb) i, M b hb i]
    constructor
    · rintro ⟨e, y1, y2, y3, y4⟩
      have he : e < nE s := by rw [← nV]; exact y1.1
      have e1 := ab e y1.1
      refine ⟨e, he, (bk e he).mp ⟨y1, y2⟩, by rw [← e1.2]; exact y3, ?_⟩
      rw [← e1.1]
      exact CBK.ct.mp (y4.cg q4 (fun d hd => S.2.1 d (by rw [← nV]; exact hd)))
    · rintro ⟨e, y1, y2, y3, y4⟩
      have he : e < (EVx σ).1 := by rw [nV]; exact y1
      have e1 := ab e he
      have z := (bk e y1).mpr y2
      refine ⟨e, z.1, z.2, by rw [e1.2]; exact y3, ?_⟩
      rw [e1.1]
      exact (CBK.ct.mpr y4).cg q4.sy (fun d hd => (S.2.1 d hd).symm)
  refine ⟨mem, fun b hb => ?_⟩
  rw [x1 b]
  constructor
  · rintro ⟨e, y1, y2, y3⟩ z
    have he : e < nE s := by rw [← nV]; exact y1.1
    have y := (M b hb b).mpr ⟨e, he, (bk e he).mp ⟨y1, y2⟩, by rw [← (ab e y1.1).2]; exact y3, Or.inl rfl⟩
    rw [z, bL_0] at y
    exact absurd y (by decide)
  · intro z
    refine Classical.byContradiction fun no => z (bL_ext fun i => ?_)
    rw [bL_0]
    cases y : bL (s.2 1 b) i with
    | false => rfl
    | true =>
      obtain ⟨e, y1, y2, y3, y4⟩ := (M b hb i).mp y
      have w := (bk e y1).mpr y2
      exact absurd ⟨e, w.1, w.2, by rw [(ab e (by rw [nV]; exact y1)).2]; exact y3⟩ no
theorem t_loopX {a : Int32} {σ : Sto} (g : (σ.1 20 0).toInt ≤ 40) : PC (f_X11_loop a σ) (fun v => (((σ.1 0 0).toInt ≠ 0 ∧ 0 ≤ a.toInt ∧ a.toInt < (σ.1 20 0).toInt) ∧ bL (σ.2 2 0) a.toNatClampNeg = true → v = σ.2 3 a.toNatClampNeg) ∧ (¬ (((σ.1 0 0).toInt ≠ 0 ∧ 0 ≤ a.toInt ∧ a.toInt < (σ.1 20 0).toInt) ∧ bL (σ.2 2 0) a.toNatClampNeg = true) → v = -1)) := by
  have k_0 : (0 : Int32).toInt = 0 := by decide +kernel
  unfold f_X11_loop
  refine pc_calp t_isBlockX (fun v1 q1 => ?_)
  refine pc_jnI0 (¬ (((σ.1 0 0).toInt ≠ 0 ∧ 0 ≤ a.toInt ∧ a.toInt < (σ.1 20 0).toInt) ∧ bL (σ.2 2 0) a.toNatClampNeg = true)) (fun z => pc_ret ⟨fun y => absurd y z, fun _ => rfl⟩) (fun k hk => ?_)
  refine pc_ite (fun c => hk (fun z => ?_)) (fun c1 => ?_)
  · rw [fa_eq, k_0] at c
    exact q1.mpr z.1 c
  rw [fa_eq, k_0] at c1
  have p1 := q1.mp c1
  refine pc_calp (t_isInB (x := σ.2 2 0) (i := a) p1.2.1 (by omega)) (fun v4 q4 => ?_)
  refine pc_ite (fun c => hk (fun z => q4.mp c z.2)) (fun c => ?_)
  refine pc_ix (fun _ => ?_)
  exact pc_lt fun v6 e6 => pc_ret ⟨fun _ => e6, fun z => absurd ⟨p1, Classical.byContradiction fun y => c (q4.mpr y)⟩ z⟩
theorem t_loopM {a : Int32} {s : Sto} (hB : BM s) : PC (f_X12_loop a s) (fun r => (((s.1 21 0).toInt ≠ 0 ∧ 0 ≤ a.toInt ∧ a.toInt < (s.1 26 0).toInt) ∧ s.2 1 a.toNatClampNeg ≠ 0 → r.1 = s.2 1 a.toNatClampNeg) ∧ (¬ (((s.1 21 0).toInt ≠ 0 ∧ 0 ≤ a.toInt ∧ a.toInt < (s.1 26 0).toInt) ∧ s.2 1 a.toNatClampNeg ≠ 0) → r.1 = -1)) := by
  have k_0 : (0 : Int32).toInt = 0 := by decide +kernel
  unfold f_X12_loop
  refine pc_lt fun s1 e1 => ?_
  have B1 : BM s1 := by rw [e1]; exact pM_0 hB (by omega)
  have fr : ∀ {k : Nat}, k ≠ 0 → s1.1 k = s.1 k := fun {k} hk => by rw [e1]; exact sti_o hk
  have l1 : s1.2 = s.2 := by rw [e1]; rfl
  refine pc_calp (t_isBlockM B1) (fun v1 q1 => ?_)
  rw [fr (show (21 : Nat) ≠ 0 by decide), fr (show (26 : Nat) ≠ 0 by decide)] at q1
  refine pc_jnI0 (¬ (((s.1 21 0).toInt ≠ 0 ∧ 0 ≤ a.toInt ∧ a.toInt < (s.1 26 0).toInt) ∧ s.2 1 a.toNatClampNeg ≠ 0)) (fun z => pc_ret ⟨fun y => absurd y z, fun _ => rfl⟩) (fun k hk => ?_)
  refine pc_ite (fun c => hk (fun z => ?_)) (fun c1 => ?_)
  · rw [fa_eq, k_0] at c
    exact q1.mpr z.1 c
  rw [fa_eq, k_0] at c1
  have p1 := q1.mp c1
  refine pc_ix (fun _ => ?_)
  refine pc_lt fun v5 e5 => ?_
  rw [l1] at e5
  refine pc_ite (fun c => hk (fun z => ?_)) (fun c => ?_)
  · rw [lg_cmp_eq, e5] at c
    exact z.2 c
  rw [lg_cmp_eq, e5] at c
  refine pc_ix (fun _ => ?_)
  rw [l1]
  exact pc_lt fun v7 e7 => pc_ret ⟨fun _ => e7, fun z => absurd ⟨p1, c⟩ z⟩
theorem R_loop {σ s : Sto} (h : JT4 σ s) (a : Int32) : ∃ v s2, f_X11_loop a σ = some v ∧ f_X12_loop a s = some (v, s2) ∧ JT4 σ s2 := by
  obtain ⟨v, w, s2, x, y, z⟩ := Q_loop h a
  refine ⟨v, s2, x, ?_, z⟩
  have e : v = w := by
    have g20 := gX_20 h.1.1.1.1 0
    have X := t_loopX g20.2 _ x
    have M := t_loopM h.1.1.2.1.1 _ y
    (try dsimp only at M)
    rcases h.ld with ⟨l1, l2⟩ | ⟨l1, l2⟩
    · rw [X.2 (fun z => z.1.1 l1), M.2 (fun z => z.1.1 l2)]
    · obtain ⟨n, ag, hr, hb, B, g40, E⟩ := h.graph l1
      obtain ⟨p1, p2⟩ := h.loops l1
      have nB' : (nB s : Int) = (s.1 26 0).toInt := Int.toNat_of_nonneg (gM_26 B 0).1
      by_cases c : 0 ≤ a.toInt ∧ a.toInt < (σ.1 20 0).toInt
      · have ca := clamp_I c.1
        have hi : a.toNatClampNeg < nB s := by omega
        by_cases q : bL (σ.2 2 0) a.toNatClampNeg = true
        · rw [X.1 ⟨⟨l1, c⟩, q⟩, M.1 ⟨⟨l2, by rw [← n]; exact c⟩, (p2 _ hi).mp q⟩]
          refine bL_ext fun i => ?_
          have r := p1 _ hi i
          cases y1 : bL (σ.2 3 a.toNatClampNeg) i with
          | true => exact (r.mp y1).symm
          | false =>
            cases y2 : bL (s.2 1 a.toNatClampNeg) i with
            | false => rfl
            | true => rw [r.mpr y2] at y1; exact absurd y1 (by decide)
        · rw [X.2 (fun z => q z.2), M.2 (fun z => q ((p2 _ hi).mpr z.2))]
      · rw [X.2 (fun z => c z.1.2), M.2 (fun z => c (by rw [n]; exact z.1.2))]
  rw [e]; exact y
