theorem TEL.cg2 {σ s : Sto} (e : ∀ k, (9 ≤ k ∧ k ≤ 11) ∨ (15 ≤ k ∧ k ≤ 16) ∨ k = 20 ∨ (22 ≤ k ∧ k ≤ 64) → s.1 k = σ.1 k) (l1 : s.2 1 = σ.2 1) : ∀ d w b k l, TEL s d w b k l ↔ TEL σ d w b k l
  | 0, _, _, _, _ => Iff.rfl
  | d + 1, w, b, k, l => by
    have ih := TEL.cg2 e l1 d
    have e9 := e 9 (by decide)
    have e10 := e 10 (by decide)
    have e23 := e 23 (by decide)
    have e24 := e 24 (by decide)
    have e25 := e 25 (by decide)
    have e26 := e 26 (by decide)
    have e27 := e 27 (by decide)
    have e28 := e 28 (by decide)
    have e29 := e 29 (by decide)
    have e30 := e 30 (by decide)
    have e31 := e 31 (by decide)
    have e32 := e 32 (by decide)
    have e33 := e 33 (by decide)
    have e34 := e 34 (by decide)
    have e45 := e 45 (by decide)
    unfold TEL MC CHs MGp FW KP FORK tyL caL
    simp only [oR, fallT, jmpT, sB, eF, eT, eB, nE, nB, laR, sG, nM, e9, e10, e23, e24, e25, e26, e27, e28, e29, e30, e31, e32, e33, e34, e45, l1, ih]
theorem LAID.cg {σ s : Sto} (h : LAID σ) (hB : BM s) (e : ∀ k, (9 ≤ k ∧ k ≤ 11) ∨ (15 ≤ k ∧ k ≤ 16) ∨ k = 20 ∨ (22 ≤ k ∧ k ≤ 64) → s.1 k = σ.1 k) (l : ∀ k, k ≤ 1 → s.2 k = σ.2 k) : LAID s := by
  obtain ⟨_, h1, h2, h3, h4, h5, h6, h7, h8, h9, h10, h11⟩ := h
  have eq : ∀ k, k = 9 ∨ k = 10 ∨ k = 11 ∨ k = 15 ∨ k = 16 ∨ k = 20 → s.1 k = σ.1 k := fun k hk => e k (by omega)
  have nb : nB s = nB σ := by unfold nB; rw [e 26 (by decide)]
  refine ⟨hB, h1.cg eq, h2.cg eq (e 22 (by decide)) (e 23 (by decide)) (e 24 (by decide)) (e 26 (by decide)), h3.cg (e 9 (by decide)) (e 10 (by decide)) (e 23 (by decide)) (e 24 (by decide)) (e 25 (by decide)) (e 26 (by decide)) (e 27 (by decide)) (e 28 (by decide)) (e 29 (by decide)) (e 32 (by decide)), h4.cg (e 29 (by decide)) (e 30 (by decide)) (e 32 (by decide)), by rw [e 36 (by decide)]; exact h5, fun g => ?_, fun b hb => ?_, h8.cg (e 28 (by decide)) (e 31 (by decide)) (e 32 (by decide)) (l 1 (by decide)), h9.cg (e 9 (by decide)) (e 10 (by decide)) (e 23 (by decide)) (e 24 (by decide)) (e 26 (by decide)) (fun k k1 k2 => e k (by omega)), by rw [nb]; exact h10, ?_⟩
  · rw [e 36 (by decide)] at g
    obtain ⟨g1, g2, g3⟩ := h6 g
    exact ⟨g1.cg (e 26 (by decide)) (e 27 (by decide)) (e 28 (by decide)) (e 30 (by decide)) (e 31 (by decide)) (e 32 (by decide)) (l 0 (by decide)), g2.cg (e 26 (by decide)) (e 27 (by decide)) (e 28 (by decide)) (e 30 (by decide)) (e 31 (by decide)) (e 32 (by decide)) (e 33 (by decide)), g3.cg (e 26 (by decide)) (e 34 (by decide)) (l 0 (by decide))⟩
  · rw [nb] at hb ⊢
    rw [e 34 (by decide)]
    exact h7 b hb
  · have nl : nL s = nL σ := by unfold nL; rw [e 62 (by decide)]
    rcases h11 with ⟨g1, g2⟩ | ⟨g1, ls, s1, s2, s3, g2, g3, g4, g5, g6, g7, g8, g9⟩
    · exact Or.inl ⟨by rw [e 36 (by decide)]; exact g1, by rw [nl]; exact g2⟩
    · refine Or.inr ⟨by rw [e 36 (by decide)]; exact g1, ls, s1, s2, s3, (TEL.cg2 e (l 1 (by decide)) _ _ _ _ _).mpr g2, g3, g4, g5, g6, g7, g8, ⟨by rw [nl]; exact g9.1, fun i hi hm => ?_⟩⟩
      rw [← g9.2 i hi hm]
      unfold lnA
      rw [e 58 (by decide), e 59 (by decide), e 61 (by decide)]
/-- what holds of the reference's store between calls: its tape is τ's -/
def GR (τ s : Sto) : Prop := BM s ∧ ((s.1 21 0).toInt = 0 ∨ LAID s) ∧ s.1 1 = τ.1 1 ∧ s.1 2 = τ.1 2
theorem GR.fr {σ s τ : Sto} {ms ml : List Nat} (h : GR τ σ) (hB : BM s) (f : FR ms ml σ s) (d1 : ms.all (fun k => decide (k = 0) || (decide (3 ≤ k) && decide (k ≤ 8)) || decide (k = 12) || decide (k = 13) || decide (k = 14) || decide (k = 17) || decide (k = 18) || decide (k = 19) || decide (64 < k)) = true) (d2 : ml.all (fun k => decide (1 < k)) = true) : GR τ s := by
  have a : ∀ k, ¬ (k = 0 ∨ (3 ≤ k ∧ k ≤ 8) ∨ k = 12 ∨ k = 13 ∨ k = 14 ∨ k = 17 ∨ k = 18 ∨ k = 19 ∨ 64 < k) → s.1 k = σ.1 k := fun k hk => f.1 k (fun hm => hk (by
    have := List.all_eq_true.mp d1 k hm
    simp only [Bool.or_eq_true, Bool.and_eq_true, decide_eq_true_eq] at this
    omega))
  have b : ∀ k, k ≤ 1 → s.2 k = σ.2 k := fun k hk => f.2 k (fun hm => by
    have := List.all_eq_true.mp d2 k hm
    simp only [decide_eq_true_eq] at this
    omega)
  refine ⟨hB, h.2.1.imp (fun z => by rw [a 21 (by omega)]; exact z) (fun z => z.cg hB (fun k hk => a k (by omega)) b), ?_, ?_⟩
  · rw [a 1 (by omega)]; exact h.2.2.1
  · rw [a 2 (by omega)]; exact h.2.2.2
theorem GR.self {s τ : Sto} (h : GR τ s) : GR s s := ⟨h.1, h.2.1, rfl, rfl⟩
