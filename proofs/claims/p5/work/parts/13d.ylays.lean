theorem LPS.cg {σ s : Sto} (h : LPS σ) (e28 : s.1 28 = σ.1 28) (e31 : s.1 31 = σ.1 31) (e32 : s.1 32 = σ.1 32) (l1 : s.2 1 = σ.2 1) : LPS s := by
  unfold LPS nE eB at h ⊢
  rw [e28, e31, e32, l1]
  exact h
theorem FW.cg {σ s : Sto} {e : Nat} (e30 : s.1 30 = σ.1 30) (e31 : s.1 31 = σ.1 31) (e32 : s.1 32 = σ.1 32) : FW s e ↔ FW σ e := by
  unfold FW KP nE
  rw [e30, e31, e32]
theorem ORD.cg {σ s : Sto} (h : ORD σ) (e26 : s.1 26 = σ.1 26) (e27 : s.1 27 = σ.1 27) (e28 : s.1 28 = σ.1 28) (e30 : s.1 30 = σ.1 30) (e31 : s.1 31 = σ.1 31) (e32 : s.1 32 = σ.1 32) (e33 : s.1 33 = σ.1 33) : ORD s := by
  unfold ORD FW KP nE nB eA eB at h ⊢
  rw [e26, e27, e28, e30, e31, e32, e33]
  exact h
theorem ABV.cg {σ s : Sto} (h : ABV σ) (e26 : s.1 26 = σ.1 26) (e34 : s.1 34 = σ.1 34) (l0 : s.2 0 = σ.2 0) : ABV s := by
  unfold ABV nB at h ⊢
  rw [e26, e34, l0]
  exact h
theorem ED.cg {σ s : Sto} (h : ED σ) (e9 : s.1 9 = σ.1 9) (e10 : s.1 10 = σ.1 10) (e23 : s.1 23 = σ.1 23) (e24 : s.1 24 = σ.1 24) (e25 : s.1 25 = σ.1 25) (e26 : s.1 26 = σ.1 26) (e27 : s.1 27 = σ.1 27) (e28 : s.1 28 = σ.1 28) (e29 : s.1 29 = σ.1 29) (e32 : s.1 32 = σ.1 32) : ED s := by
  have nb : nB s = nB σ := by unfold nB; rw [e26]
  have es : ∀ b t, ESU s b t ↔ ESU σ b t := fun b t => ESU.cg e9 e10 e23 e24
  have hh := EDg.fr (t := s) (show EDg σ σ (nB σ) (nB σ) 120 from h) e27 e28 e29 e32 (fun b _ => by rw [e25])
  obtain ⟨h1, h2, h3, h4, h5, h6⟩ := hh
  unfold ED EDg
  rw [nb]
  exact ⟨fun e he => ⟨(h1 e he).1, (h1 e he).2.1, (h1 e he).2.2.imp_left (es _ _).mpr⟩, h2, fun b t hb ht => h3 b t hb ((es _ _).mp ht), h4, h5, h6⟩
theorem ED.efi {σ : Sto} (h : ED σ) : EFI σ := fun e he => by
  have q := h.1 e he
  have c1 := clamp_I q.1.1
  have c2 := clamp_I q.2.1.1
  unfold eF eT at q
  unfold eA eB
  omega
theorem TEL.cg {σ s : Sto} (h : FR LYS [] σ s) : ∀ d w b k l, TEL s d w b k l ↔ TEL σ d w b k l
  | 0, _, _, _, _ => Iff.rfl
  | d + 1, w, b, k, l => by
    have ih := TEL.cg h d
    have e9 := h.1 9 (by decide)
    have e10 := h.1 10 (by decide)
    have e23 := h.1 23 (by decide)
    have e24 := h.1 24 (by decide)
    have e25 := h.1 25 (by decide)
    have e26 := h.1 26 (by decide)
    have e27 := h.1 27 (by decide)
    have e28 := h.1 28 (by decide)
    have e29 := h.1 29 (by decide)
    have e30 := h.1 30 (by decide)
    have e31 := h.1 31 (by decide)
    have e32 := h.1 32 (by decide)
    have e33 := h.1 33 (by decide)
    have e34 := h.1 34 (by decide)
    have e45 := h.1 45 (by decide)
    have l1 := h.2 1 (by decide)
    unfold TEL MC CHs MGp FW KP FORK tyL caL
    simp only [oR, fallT, jmpT, sB, eF, eT, eB, nE, nB, laR, sG, nM, e9, e10, e23, e24, e25, e26, e27, e28, e29, e30, e31, e32, e33, e34, e45, l1, ih]
theorem STS.cg {σ s : Sto} (h : STS σ) (e9 : s.1 9 = σ.1 9) (e10 : s.1 10 = σ.1 10) (e23 : s.1 23 = σ.1 23) (e24 : s.1 24 = σ.1 24) (e26 : s.1 26 = σ.1 26) (e : ∀ k, 38 ≤ k → k ≤ 48 → s.1 k = σ.1 k) : STS s := by
  unfold STS WSt W1 OCt FORK at h ⊢
  simp only [TT, nB, laR, sG, nM, e9, e10, e23, e24, e26, e 38 (by decide) (by decide), e 39 (by decide) (by decide), e 40 (by decide) (by decide), e 41 (by decide) (by decide), e 42 (by decide) (by decide), e 43 (by decide) (by decide), e 44 (by decide) (by decide), e 45 (by decide) (by decide), e 46 (by decide) (by decide), e 47 (by decide) (by decide), e 48 (by decide) (by decide)] at h ⊢
  exact h
theorem LNF.self {σ s : Sto} (h : LNF σ s) (g : FR LYS [] σ s) : LNF s s := by
  rcases h with ⟨h1, h2⟩ | ⟨h1, l, s1, s2, s3, h2, h3⟩
  · exact Or.inl ⟨by rw [g.1 36 (by decide)]; exact h1, h2⟩
  · exact Or.inr ⟨by rw [g.1 36 (by decide)]; exact h1, l, s1, s2, s3, (TEL.cg g _ _ _ _ _).mpr h2, h3⟩
/-- all that is laid of a text -/
def LAID (s : Sto) : Prop := BM s ∧ QL s ∧ BK s ∧ ED s ∧ JXt s ∧ -1 ≤ (s.1 36 0).toInt ∧ ((s.1 36 0).toInt ≠ -1 → GD s ∧ ORD s ∧ ABV s) ∧ (∀ b, b < nB s → -1 ≤ (s.1 34 b).toInt ∧ (s.1 34 b).toInt < (nB s : Int)) ∧ LPS s ∧ STS s ∧ 1 ≤ nB s ∧ LNF s s
abbrev R6_ : List Nat := [38, 39, 40, 41, 42, 43, 44, 45, 46, 47, 48, 49, 50, 51, 52, 53, 54, 55, 56, 57, 58, 59, 60, 61, 62, 63, 64]
abbrev R7_ : List Nat := [52, 53, 54, 55, 56, 57, 58, 59, 60, 61, 62, 63, 64]
abbrev R5_ : List Nat := 34 :: R6_
abbrev R3_ : List Nat := 33 :: 35 :: R5_
abbrev R2_ : List Nat := 30 :: 31 :: 36 :: 37 :: R3_
abbrev R1_ : List Nat := 25 :: 27 :: 28 :: 29 :: 32 :: R2_
abbrev R0_ : List Nat := 22 :: 23 :: 24 :: 26 :: R1_
theorem s_lays_ {σ : Sto} (hB : BM σ) (hQ : QL σ) : OK (f_X12_lays_ σ) (fun s => FR R0_ [0, 1, 2] σ s ∧ LAID s) := by
  unfold f_X12_lays_
  refine ok_cals (s_laysBlocks hB hQ) (fun s1 q => ?_)
  obtain ⟨B1, f1, Q1, K1⟩ := q
  refine ok_cals (s_laysEdges B1 Q1 K1) (fun s2 q => ?_)
  obtain ⟨B2, f2, E2⟩ := q
  refine ok_cals (s_laysJumps B2 E2.efi) (fun s3 q => ?_)
  obtain ⟨B3, f3, J3, t3, G3⟩ := q
  have E3 : ED s3 := E2.cg (f3.1 9 (by decide)) (f3.1 10 (by decide)) (f3.1 23 (by decide)) (f3.1 24 (by decide)) (f3.1 25 (by decide)) (f3.1 26 (by decide)) (f3.1 27 (by decide)) (f3.1 28 (by decide)) (f3.1 29 (by decide)) (f3.1 32 (by decide))
  have N1 : 1 ≤ nB s1 := by
    have d0 := Q1.d0
    have c0 : 0 < nC s1 := by have := Q1.1; unfold nC; omega
    have := BK.of_ B1 Q1 K1 c0 (by rw [d0]; decide)
    omega
  have N3 : 1 ≤ nB s3 := by unfold nB at N1 ⊢; rw [f3.1 26 (by decide), f2.1 26 (by decide)]; exact N1
  refine ok_cals (s_laysOrder B3 E3.efi N3) (fun s4 q => ?_)
  obtain ⟨B4, f4, O4⟩ := q
  refine ok_cals (s_laysAbove B4) (fun s5 q => ?_)
  obtain ⟨B5, f5, a5, A5⟩ := q
  have f35 : FR R3_ [1, 2] s3 s5 := FR.cal (FR.cal FR.rf f4 rfl rfl) f5 rfl rfl
  have E5 : ED s5 := E3.cg (f35.1 9 (by decide)) (f35.1 10 (by decide)) (f35.1 23 (by decide)) (f35.1 24 (by decide)) (f35.1 25 (by decide)) (f35.1 26 (by decide)) (f35.1 27 (by decide)) (f35.1 28 (by decide)) (f35.1 29 (by decide)) (f35.1 32 (by decide))
  refine ok_cals (s_laysLoops B5 E5.efi) (fun s6 q => ?_)
  obtain ⟨B6, f6, L6⟩ := q
  have f16 : FR R1_ [0, 1, 2] s1 s6 := FR.cal (FR.cal (FR.cal (FR.cal FR.rf f2 rfl rfl) f3 rfl rfl) f35 rfl rfl) f6 rfl rfl
  have sq : ∀ {s : Sto}, FR R1_ [0, 1, 2] s1 s → QL s ∧ BK s := fun {s} g => by
    have e : ∀ k, k = 9 ∨ k = 10 ∨ k = 11 ∨ k = 15 ∨ k = 16 ∨ k = 20 → s.1 k = s1.1 k := fun k hk => by
      rcases hk with z | z | z | z | z | z <;> subst z <;> exact g.1 _ (by decide)
    exact ⟨Q1.cg e, K1.cg e (g.1 22 (by decide)) (g.1 23 (by decide)) (g.1 24 (by decide)) (g.1 26 (by decide))⟩
  refine ok_cals (s_laysStatements B6 (sq f16).1 (sq f16).2) (fun s7 q => ?_)
  obtain ⟨B7, f7, S7⟩ := q
  refine ok_cals (s_laysTypes B7 S7.1) (fun s8 q => ?_)
  obtain ⟨B8, f8⟩ := q
  have f18 : FR R1_ [0, 1, 2] s1 s8 := FR.cal (FR.cal f16 f7 rfl rfl) f8 rfl rfl
  have f28 : FR R2_ [0, 1, 2] s2 s8 := FR.cal (FR.cal (FR.cal (FR.cal (FR.cal FR.rf f3 rfl rfl) f35 rfl rfl) f6 rfl rfl) f7 rfl rfl) f8 rfl rfl
  have E8 : ED s8 := E2.cg (f28.1 9 (by decide)) (f28.1 10 (by decide)) (f28.1 23 (by decide)) (f28.1 24 (by decide)) (f28.1 25 (by decide)) (f28.1 26 (by decide)) (f28.1 27 (by decide)) (f28.1 28 (by decide)) (f28.1 29 (by decide)) (f28.1 32 (by decide))
  refine ok_cals (s_laysLive B8 (sq f18).1 (sq f18).2 E8.2.2.2.2.2) (fun s9 q => ?_)
  obtain ⟨B9, f9⟩ := q
  -- all of it, at a store where the rows before the lines stand
  have tr : ∀ {s : Sto}, BM s → FR R7_ [] s7 s → QL s ∧ BK s ∧ ED s ∧ JXt s ∧ -1 ≤ (s.1 36 0).toInt ∧ ((s.1 36 0).toInt ≠ -1 → GD s ∧ ORD s ∧ ABV s) ∧ (∀ b, b < nB s → -1 ≤ (s.1 34 b).toInt ∧ (s.1 34 b).toInt < (nB s : Int)) ∧ LPS s ∧ STS s ∧ 1 ≤ nB s := fun {s} hBs g => by
    have g6 : FR R6_ [] s6 s := FR.cal (FR.cal FR.rf f7 rfl rfl) g rfl rfl
    have g5 : FR R6_ [1] s5 s := FR.cal (FR.cal FR.rf f6 rfl rfl) g6 rfl rfl
    have g4 : FR R5_ [1] s4 s := FR.cal (FR.cal FR.rf f5 rfl rfl) g5 rfl rfl
    have g3 : FR R3_ [1, 2] s3 s := FR.cal (FR.cal FR.rf f4 rfl rfl) g4 rfl rfl
    have g2 : FR R2_ [0, 1, 2] s2 s := FR.cal (FR.cal FR.rf f3 rfl rfl) g3 rfl rfl
    have g1 : FR R1_ [0, 1, 2] s1 s := FR.cal (FR.cal FR.rf f2 rfl rfl) g2 rfl rfl
    have N : 1 ≤ nB s := by unfold nB at N1 ⊢; rw [g1.1 26 (by decide)]; exact N1
    have gd : (s.1 36 0).toInt ≠ -1 → GD s3 := fun h => G3 (by rw [← g3.1 36 (by decide)]; exact h)
    refine ⟨(sq g1).1, (sq g1).2, E2.cg (g2.1 9 (by decide)) (g2.1 10 (by decide)) (g2.1 23 (by decide)) (g2.1 24 (by decide)) (g2.1 25 (by decide)) (g2.1 26 (by decide)) (g2.1 27 (by decide)) (g2.1 28 (by decide)) (g2.1 29 (by decide)) (g2.1 32 (by decide)), J3.cg (g3.1 29 (by decide)) (g3.1 30 (by decide)) (g3.1 32 (by decide)), by rw [g3.1 36 (by decide)]; exact t3, fun h => ?_, fun b hb => ?_, L6.cg (g6.1 28 (by decide)) (g6.1 31 (by decide)) (g6.1 32 (by decide)) (g6.2 1 (by decide)), S7.cg (g.1 9 (by decide)) (g.1 10 (by decide)) (g.1 23 (by decide)) (g.1 24 (by decide)) (g.1 26 (by decide)) (fun k h1 h2 => g.1 k (by simp; omega)), N⟩
    · have G := gd h
      have G4 : GD s4 := G.cg (f4.1 26 (by decide)) (f4.1 27 (by decide)) (f4.1 28 (by decide)) (f4.1 30 (by decide)) (f4.1 31 (by decide)) (f4.1 32 (by decide)) (f4.2 0 (by decide))
      have N4 : 1 ≤ nB s4 := by unfold nB at N3 ⊢; rw [f4.1 26 (by decide)]; exact N3
      exact ⟨G.cg (g3.1 26 (by decide)) (g3.1 27 (by decide)) (g3.1 28 (by decide)) (g3.1 30 (by decide)) (g3.1 31 (by decide)) (g3.1 32 (by decide)) (g3.2 0 (by decide)), (O4 G).cg (g4.1 26 (by decide)) (g4.1 27 (by decide)) (g4.1 28 (by decide)) (g4.1 30 (by decide)) (g4.1 31 (by decide)) (g4.1 32 (by decide)) (g4.1 33 (by decide)), (A5 G4 N4).cg (g5.1 26 (by decide)) (g5.1 34 (by decide)) (g5.2 0 (by decide))⟩
    · have nb : nB s = nB s4 := by unfold nB; rw [g4.1 26 (by decide)]
      rw [nb] at hb ⊢
      rw [g5.1 34 (by decide)]
      exact a5 b hb
  have g9 : FR R7_ [] s7 s9 := FR.cal (FR.cal FR.rf f8 rfl rfl) f9 rfl rfl
  have T9 := tr B9 g9
  refine ok_cals (s_laysLines B9 (fun h => ⟨B9, T9.1, T9.2.1, T9.2.2.1, (T9.2.2.2.2.2.1 h).1, (T9.2.2.2.2.2.1 h).2.1, (T9.2.2.2.2.2.1 h).2.2, T9.2.2.2.2.2.2.2.2.1, T9.2.2.2.2.2.2.2.2.2⟩)) (fun s10 q => ?_)
  obtain ⟨B10, f10, L10⟩ := q
  have g10 : FR R7_ [] s7 s10 := FR.cal g9 f10 rfl rfl
  obtain ⟨a1, a2, a3, a4, a6, a7, a8, a9, a10, a11⟩ := tr B10 g10
  exact ok_ret ⟨FR.cal (FR.cal (FR.cal (FR.cal FR.rf f1 rfl rfl) f16 rfl rfl) f7 rfl rfl) g10 rfl rfl, B10, a1, a2, a3, a4, a6, a7, a8, a9, a10, a11, L10.self f10⟩
