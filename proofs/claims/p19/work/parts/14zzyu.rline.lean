theorem TEL.cg3 {σ s : Sto} (h : ∀ k, 9 ≤ k → k ≤ 45 → (k < 11 ∨ 20 ≤ k) → s.1 k = σ.1 k) (l1 : s.2 1 = σ.2 1) : ∀ d w b k l, TEL s d w b k l ↔ TEL σ d w b k l
  | 0, _, _, _, _ => Iff.rfl
  | d + 1, w, b, k, l => by
    have ih := TEL.cg3 h l1 d
    have e9 := h 9 (by decide) (by decide) (by decide)
    have e10 := h 10 (by decide) (by decide) (by decide)
    have e23 := h 23 (by decide) (by decide) (by decide)
    have e24 := h 24 (by decide) (by decide) (by decide)
    have e25 := h 25 (by decide) (by decide) (by decide)
    have e26 := h 26 (by decide) (by decide) (by decide)
    have e27 := h 27 (by decide) (by decide) (by decide)
    have e28 := h 28 (by decide) (by decide) (by decide)
    have e29 := h 29 (by decide) (by decide) (by decide)
    have e30 := h 30 (by decide) (by decide) (by decide)
    have e31 := h 31 (by decide) (by decide) (by decide)
    have e32 := h 32 (by decide) (by decide) (by decide)
    have e33 := h 33 (by decide) (by decide) (by decide)
    have e34 := h 34 (by decide) (by decide) (by decide)
    have e45 := h 45 (by decide) (by decide) (by decide)
    unfold TEL MC CHs MGp FW KP FORK tyL caL
    simp only [oR, fallT, jmpT, sB, eF, eT, eB, nE, nB, laR, sG, nM, e9, e10, e23, e24, e25, e26, e27, e28, e29, e30, e31, e32, e33, e34, e45, l1, ih]
theorem LNW.cg2 {s t : Sto} (h : LNW s) (hB : BM t) (e : ∀ k, 9 ≤ k → k < 58 → (k < 12 ∨ k = 15 ∨ k = 16 ∨ 20 ≤ k) → t.1 k = s.1 k) (l0 : t.2 0 = s.2 0) : LNW t := by
  obtain ⟨_, h2, h3, h4, h5, h6, h7, h8, h9⟩ := h
  have r : ∀ k, 20 ≤ k → k < 58 → t.1 k = s.1 k := fun k k1 k2 => e k (by omega) k2 (by omega)
  have e6 : ∀ k, k = 9 ∨ k = 10 ∨ k = 11 ∨ k = 15 ∨ k = 16 ∨ k = 20 → t.1 k = s.1 k := fun k hk => e k (by omega) (by omega) (by omega)
  refine ⟨hB, h2.cg e6, h3.cg e6 (r 22 (by omega) (by omega)) (r 23 (by omega) (by omega)) (r 24 (by omega) (by omega)) (r 26 (by omega) (by omega)), ?_, h5.cg (r 26 (by omega) (by omega)) (r 27 (by omega) (by omega)) (r 28 (by omega) (by omega)) (r 30 (by omega) (by omega)) (r 31 (by omega) (by omega)) (r 32 (by omega) (by omega)) l0, h6.cg (r 26 (by omega) (by omega)) (r 27 (by omega) (by omega)) (r 28 (by omega) (by omega)) (r 30 (by omega) (by omega)) (r 31 (by omega) (by omega)) (r 32 (by omega) (by omega)) (r 33 (by omega) (by omega)), h7.cg (r 26 (by omega) (by omega)) (r 34 (by omega) (by omega)) l0, h8.cg (e6 9 (by omega)) (e6 10 (by omega)) (r 23 (by omega) (by omega)) (r 24 (by omega) (by omega)) (r 26 (by omega) (by omega)) (fun k h1 h2 => r k (by omega) (by omega)), ?_⟩
  · exact h4.cg (e6 9 (by omega)) (e6 10 (by omega)) (r 23 (by omega) (by omega)) (r 24 (by omega) (by omega)) (r 25 (by omega) (by omega)) (r 26 (by omega) (by omega)) (r 27 (by omega) (by omega)) (r 28 (by omega) (by omega)) (r 29 (by omega) (by omega)) (r 32 (by omega) (by omega))
  · unfold nB at h9 ⊢
    rw [r 26 (by omega) (by omega)]
    exact h9
/-- the reference's lines, of what lies there -/
theorem LY4.lns {s : Sto} (h : LY4 s) (W : (s.1 36 0).toInt ≠ -1 → LNW s) (hj : (s.1 36 0).toInt ≠ -1) : ∃ l, TEL s 250 0 0 0 l ∧ RWM l s := by
  obtain ⟨s7, bb, ⟨s1, s2, s3, s4, s5, s6, s7', t, s9, ⟨z1, B1, f1, Q1, K1, N1⟩, ⟨z2, B2, f2, E2⟩, ⟨z3, B3, f3, E3, J3, t3, G3⟩, ⟨z4, B4, f4, O4⟩, ⟨z5, B5, f5, A5⟩, ⟨z6, B6, f6, L6⟩, ⟨z7, B7, f7, S7⟩, ⟨z8, B8, f8⟩, ⟨z9, B9, f9⟩, ⟨z10, B10, f10⟩⟩, q⟩ := h.tr
  have qk : ∀ k, (9 ≤ k ∧ k ≤ 11) ∨ k = 15 ∨ k = 16 ∨ (20 ≤ k ∧ k ≤ 64) → s.1 k = bb.1 k := fun k hk => q.1 k (by simp only [km4, Bool.or_eq_true, Bool.and_eq_true, decide_eq_true_eq, beq_iff_eq]; omega)
  have r9 : ∀ k, 9 ≤ k → k < 58 → (k < 12 ∨ k = 15 ∨ k = 16 ∨ 20 ≤ k) → s9.1 k = s.1 k := fun k k1 k2 k3 => by
    rw [qk k (by omega), f10.1 k (by simp; omega)]
  have l0 : s9.2 0 = s.2 0 := by rw [q.2 0 (by decide), f10.2 0 (by decide)]
  have l1 : s9.2 1 = s.2 1 := by rw [q.2 1 (by decide), f10.2 1 (by decide)]
  have e36 : s9.1 36 = s.1 36 := r9 36 (by omega) (by omega) (by omega)
  have M := m_laysLines (σ := s9) B9 (fun z => (W hj).cg2 B9 r9 l0) _ z10
  rcases M with ⟨z, _⟩ | ⟨_, l, t1, t2⟩
  · rw [e36] at z
    exact absurd z hj
  · refine ⟨l, (TEL.cg3 (fun k k1 k2 k3 => r9 k k1 (by omega) (by omega)) l1 _ _ _ _ _).mp t1, ?_⟩
    unfold RWM nL lnA at t2 ⊢
    rw [qk 58 (by omega), qk 59 (by omega), qk 60 (by omega), qk 61 (by omega), qk 62 (by omega)]
    exact t2
theorem WTL.cg {σ τ s : Sto} (h : WTL σ s) (e : ∀ k, 20 ≤ k → k < 68 → τ.1 k = σ.1 k) (l : ∀ k, τ.2 k = σ.2 k) : WTL τ s := by
  obtain ⟨w1, w2, w3, w4, w5, w6, w7⟩ := h
  have r : ∀ k, 20 ≤ k ∧ k < 68 → τ.1 k = σ.1 k := fun k hk => e k hk.1 hk.2
  refine ⟨w1, by rw [r 20 (by decide)]; exact w2, fun b hb => ?_, fun b hb => by rw [r 56 (by decide)]; exact w4 b hb, fun p hp => by rw [r 39 (by decide)]; exact w5 p hp, fun e he => by rw [r 37 (by decide), r 38 (by decide)]; exact w6 e he, fun x y e he e2 e3 x0 => ?_⟩
  · have q := w3 b hb
    unfold WTB ONL at q ⊢
    rw [r 26 (by decide), r 41 (by decide), r 24 (by decide), r 25 (by decide), l 4, l 2]
    exact q
  · rw [edgeTo_cg (r 27 (by decide)) (r 28 (by decide)) (r 29 (by decide)) (r 30 (by decide))]
    exact w7 x y e he e2 e3 x0
/-- the lines are alike -/
def LNQ (σ s : Sto) : Prop := ((σ.1 34 0).toInt = 0 ↔ (s.1 36 0).toInt ≠ -1) ∧ ((s.1 36 0).toInt ≠ -1 → (σ.1 68 0).toInt = (s.1 62 0).toInt ∧ ∀ i, i < nL s → (σ.1 69 i).toInt = kA s i ∧ (σ.1 70 i).toInt = mA s i ∧ σ.1 71 i = s.1 60 i ∧ (kA s i = 0 → (σ.1 72 i).toInt = oA s i))
theorem JT4.lnq {σ s : Sto} (h : JT4 σ s) (hl : (σ.1 0 0).toInt ≠ 0) : LNQ σ s := by
  obtain ⟨A, L, D, K, hl2⟩ := h.laid hl
  obtain ⟨B, Q, KM, E⟩ := D.p
  obtain ⟨S1, _⟩ := h.shape hl
  have g36 := gX_36 h.1.1.1.1 0
  have g62 := gM_62 B 0
  have i1_ : (σ.1 34 0).toInt = 0 ↔ (s.1 36 0).toInt ≠ -1 := by
    rw [← S1]
    unfold kX
    by_cases z : (σ.1 34 0).toInt = 0
    · rw [if_pos z]
      exact ⟨fun _ => by omega, fun _ => z⟩
    · rw [if_neg z]
      exact ⟨fun w => absurd w z, fun w => absurd rfl w⟩
  refine ⟨i1_, fun hj => ?_⟩
  obtain ⟨s7, s8, t, e7, l7, e8⟩ := A.lns (i1_.mpr hj)
  have W := (h.wtl hl hj).cg e7 l7
  obtain ⟨l, t1, R⟩ := L.lns (fun z => D.lnw z) hj
  obtain ⟨At, u1, _, _, _⟩ := h.sts hl
  obtain ⟨_, _, _, _, _, _, x56, _, p160, _⟩ := u1
  have w4 := (h.wtl hl hj).2.2.2.1
  have nb := nB_le B
  have len := TEL.all (D.lnw hj) t1
  have g0 := gM_45 B 0
  have b1 := w4 (nB s) (Nat.le_refl _)
  have b2 := x56 (nB s) (Nat.le_refl _)
  have sb0 : sB s 0 = (s.1 45 0).toInt := rfl
  have X := t_tellAll W t1 (by omega) _ t
  obtain ⟨n1, r1⟩ := X
  obtain ⟨n2, r2⟩ := R
  have nn : nL s = fb_ct (kpl l) l.length := n2
  refine ⟨by rw [e8 68 (by omega) (by omega), n1, ← nn]; show ((s.1 62 0).toInt.toNat : Int) = _; omega, fun i hi => ?_⟩
  rw [nn] at hi
  obtain ⟨j, j1, j2, j3⟩ := fb_ct_kth hi
  have hx : l[j]? = some l[j] := List.getElem?_eq_getElem j1
  obtain ⟨a1, a2, a3, a4⟩ := r1 j _ hx j2
  obtain ⟨c1, c2⟩ := r2 j _ hx j2
  rw [j3] at a1 a2 a3 a4 c1 c2
  have k1 : kA s i = (l[j]).1 := congrArg Prod.fst c1
  have k2 : mA s i = (l[j]).2.1 := congrArg (fun z => z.2.1) c1
  have k3 : oA s i = (l[j]).2.2 := congrArg (fun z => z.2.2) c1
  refine ⟨?_, ?_, ?_, fun z => ?_⟩
  · rw [e8 69 (by omega) (by omega), a1, k1]
  · rw [e8 70 (by omega) (by omega), a2, k2]
  · rw [e8 71 (by omega) (by omega), a3, c2]
  · rw [e8 72 (by omega) (by omega), a4 (by rw [← k1]; exact z), k3]
theorem t_isLnX {x : Int32} {σ : Sto} : PC (f_X11_isLine x σ) (fun v => v = 0 ↔ ¬ ((σ.1 0 0).toInt ≠ 0 ∧ (σ.1 34 0).toInt = 0 ∧ 0 ≤ x.toInt ∧ x.toInt < (σ.1 68 0).toInt)) := by
  have k_0 : (0 : Int32).toInt = 0 := by decide +kernel
  have n1 : (1 : Int32) ≠ 0 := by decide
  unfold f_X11_isLine
  refine pc_jnI0 (¬ ((σ.1 0 0).toInt ≠ 0 ∧ (σ.1 34 0).toInt = 0 ∧ 0 ≤ x.toInt ∧ x.toInt < (σ.1 68 0).toInt)) (fun z => pc_ret ⟨fun _ => z, fun _ => rfl⟩) (fun k hk => ?_)
  refine pc_ite (fun c => hk (fun z => z.1 (by rw [fa_eq, k_0] at c; exact c))) (fun c1 => ?_)
  rw [fa_eq, k_0] at c1
  refine pc_ite (fun c2 => ?_) (fun c => hk (fun z => c (by rw [fa_eq, k_0]; exact z.2.1)))
  rw [fa_eq, k_0] at c2
  refine pc_ite (fun c => hk (fun z => ?_)) (fun c3 => ?_)
  · rw [fa_lt, k_0] at c; have := z.2.2.1; omega
  rw [fa_lt, k_0] at c3
  refine pc_ite (fun c => hk (fun z => ?_)) (fun c4 => ?_)
  · rw [fa_le] at c; have := z.2.2.2; omega
  rw [fa_le] at c4
  exact pc_ret ⟨fun z => absurd z n1, fun z => absurd ⟨c1, c2, by omega, by omega⟩ z⟩
theorem t_isLnM {x : Int32} {s : Sto} (hB : BM s) : PC (f_X12_isLine x s) (fun v => v = 0 ↔ ¬ ((s.1 21 0).toInt ≠ 0 ∧ (s.1 36 0).toInt ≠ -1 ∧ 0 ≤ x.toInt ∧ x.toInt < (s.1 62 0).toInt)) := by
  have k_0 : (0 : Int32).toInt = 0 := by decide +kernel
  have k_m1 : ((-1) : Int32).toInt = -1 := by decide +kernel
  have n1 : (1 : Int32) ≠ 0 := by decide
  have g := gM_62 hB 0
  unfold f_X12_isLine
  refine pc_jnI0 (¬ ((s.1 21 0).toInt ≠ 0 ∧ (s.1 36 0).toInt ≠ -1 ∧ 0 ≤ x.toInt ∧ x.toInt < (s.1 62 0).toInt)) (fun z => pc_ret ⟨fun _ => z, fun _ => rfl⟩) (fun k hk => ?_)
  refine pc_ite (fun c => hk (fun z => z.1 (by rw [fa_eq, k_0] at c; exact c))) (fun c1 => ?_)
  rw [fa_eq, k_0] at c1
  refine pc_ite (fun c => hk (fun z => z.2.1 (by rw [fa_eq, k_m1] at c; exact c))) (fun c2 => ?_)
  rw [fa_eq, k_m1] at c2
  refine pc_calp (pc_ok s_isIn) (fun v4 q => ?_)
  rw [Int32.toInt_toInt64, Int32.toInt_toInt64, i64_0, i32_m1 g.1] at q
  refine pc_ite (fun c => hk (fun z => ?_)) (fun c3 => ?_)
  · rw [fa_eq, k_0] at c
    exact absurd c (q.2.mpr (by have := z.2.2; omega))
  rw [fa_eq, k_0] at c3
  have := q.2.mp c3
  exact pc_ret ⟨fun z => absurd z n1, fun z => absurd ⟨c1, c2, by omega, by omega⟩ z⟩
theorem t_lineX {a b : Int32} {σ : Sto} : PC (f_X11_line a b σ) (fun v => (¬ (((σ.1 0 0).toInt ≠ 0 ∧ (σ.1 34 0).toInt = 0 ∧ 0 ≤ a.toInt ∧ a.toInt < (σ.1 68 0).toInt) ∧ 0 ≤ b.toInt ∧ b.toInt ≤ 2) → v = -1000000) ∧ (((σ.1 0 0).toInt ≠ 0 ∧ (σ.1 34 0).toInt = 0 ∧ 0 ≤ a.toInt ∧ a.toInt < (σ.1 68 0).toInt) → (b.toInt = 0 → v = σ.1 69 a.toNatClampNeg) ∧ (b.toInt = 1 → v = σ.1 70 a.toNatClampNeg) ∧ (b.toInt = 2 → v = σ.1 71 a.toNatClampNeg))) := by
  unfold f_X11_line
  refine pc_calp t_isLnX (fun v1 q => ?_)
  refine pc_ite (fun c => pc_ret ⟨fun _ => rfl, fun z => absurd z (q.mp c)⟩) (fun c => ?_)
  have z := Classical.byContradiction fun w => c (q.mpr w)
  refine pc_ite (fun b0 => ?_) (fun b0 => ?_)
  · refine pc_ix (fun _ => pc_lt fun v e => pc_ret ⟨fun w => absurd ⟨z, by omega⟩ w, fun _ => ⟨fun _ => e, fun w => by omega, fun w => by omega⟩⟩)
  refine pc_ite (fun b1 => ?_) (fun b1 => ?_)
  · refine pc_ix (fun _ => pc_lt fun v e => pc_ret ⟨fun w => absurd ⟨z, by omega⟩ w, fun _ => ⟨fun w => by omega, fun _ => e, fun w => by omega⟩⟩)
  refine pc_ite (fun b2 => ?_) (fun b2 => ?_)
  · refine pc_ix (fun _ => pc_lt fun v e => pc_ret ⟨fun w => absurd ⟨z, by omega⟩ w, fun _ => ⟨fun w => by omega, fun w => by omega, fun _ => e⟩⟩)
  · exact pc_ret ⟨fun _ => rfl, fun _ => ⟨fun w => absurd w b0, fun w => absurd w b1, fun w => absurd w b2⟩⟩
theorem t_lineM {a b : Int32} {s : Sto} (hB : BM s) : PC (f_X12_line_ a b s) (fun r => (¬ (((s.1 21 0).toInt ≠ 0 ∧ (s.1 36 0).toInt ≠ -1 ∧ 0 ≤ a.toInt ∧ a.toInt < (s.1 62 0).toInt) ∧ 0 ≤ b.toInt ∧ b.toInt ≤ 2) → r.1 = -1000000) ∧ (((s.1 21 0).toInt ≠ 0 ∧ (s.1 36 0).toInt ≠ -1 ∧ 0 ≤ a.toInt ∧ a.toInt < (s.1 62 0).toInt) → (b.toInt = 0 → r.1 = s.1 58 a.toNatClampNeg) ∧ (b.toInt = 1 → r.1 = s.1 59 a.toNatClampNeg) ∧ (b.toInt = 2 → r.1 = s.1 60 a.toNatClampNeg))) := by
  have k_0 : (0 : Int32).toInt = 0 := by decide +kernel
  have k_1 : (1 : Int32).toInt = 1 := by decide +kernel
  have k2 : (2 : Int64).toInt = 2 := by decide +kernel
  unfold f_X12_line_
  refine pc_lt fun s1 e1 => ?_
  have fr : ∀ {k : Nat}, k ≠ 0 → s1.1 k = s.1 k := fun {k} hk => by rw [e1]; exact sti_o hk
  have B1 : BM s1 := by rw [e1]; exact pM_0 hB (by omega)
  refine pc_calp (t_isLnM B1) (fun v2 q => ?_)
  rw [fr (show (21 : Nat) ≠ 0 by decide), fr (show (36 : Nat) ≠ 0 by decide), fr (show (62 : Nat) ≠ 0 by decide)] at q
  refine pc_ite (fun c => pc_ret ⟨fun _ => rfl, fun z => absurd z (q.mp c)⟩) (fun c => ?_)
  have z := Classical.byContradiction fun w => c (q.mpr w)
  refine pc_calp (pc_ok s_isIn) (fun v4 q4 => ?_)
  rw [Int32.toInt_toInt64, i64_0, k2] at q4
  refine pc_ite (fun c4 => ?_) (fun c4 => ?_)
  · rw [fa_eq, k_0] at c4
    have nb : ¬ (0 ≤ b.toInt ∧ b.toInt ≤ 2) := fun w => q4.2.mpr w c4
    exact pc_ret ⟨fun _ => rfl, fun _ => ⟨fun w => absurd (by omega) nb, fun w => absurd (by omega) nb, fun w => absurd (by omega) nb⟩⟩
  rw [fa_eq, k_0] at c4
  have bb := q4.2.mp c4
  refine pc_ite (fun b0 => ?_) (fun b0 => ?_)
  · rw [fa_eq, k_0] at b0
    refine pc_ix (fun _ => pc_lt fun v e => pc_ret ⟨fun w => absurd ⟨z, bb⟩ w, fun _ => ⟨fun _ => ?_, fun w => by omega, fun w => by omega⟩⟩)
    rw [← fr (show (58 : Nat) ≠ 0 by decide)]; exact e
  rw [fa_eq, k_0] at b0
  refine pc_ite (fun b1 => ?_) (fun b1 => ?_)
  · rw [fa_eq, k_1] at b1
    refine pc_ix (fun _ => pc_lt fun v e => pc_ret ⟨fun w => absurd ⟨z, bb⟩ w, fun _ => ⟨fun w => by omega, fun _ => ?_, fun w => by omega⟩⟩)
    rw [← fr (show (59 : Nat) ≠ 0 by decide)]; exact e
  · rw [fa_eq, k_1] at b1
    refine pc_ix (fun _ => pc_lt fun v e => pc_ret ⟨fun w => absurd ⟨z, bb⟩ w, fun _ => ⟨fun w => by omega, fun w => by omega, fun _ => ?_⟩⟩)
    rw [← fr (show (60 : Nat) ≠ 0 by decide)]; exact e
theorem R_line {σ s : Sto} (h : JT4 σ s) (a b : Int32) : ∃ v s2, f_X11_line a b σ = some v ∧ f_X12_line_ a b s = some (v, s2) ∧ JT4 σ s2 := by
  obtain ⟨v, w, s2, x, y, z⟩ := Q_line h a b
  refine ⟨v, s2, x, ?_, z⟩
  have e : v = w := by
    have X := t_lineX _ x
    have M := t_lineM h.1.1.2.1.1 _ y
    (try dsimp only at M)
    rcases h.ld with ⟨l1, l2⟩ | ⟨l1, l2⟩
    · rw [X.1 (fun z => z.1.1 l1), M.1 (fun z => z.1.1 l2)]
    · obtain ⟨t1, t2⟩ := h.lnq l1
      by_cases c : (((σ.1 0 0).toInt ≠ 0 ∧ (σ.1 34 0).toInt = 0 ∧ 0 ≤ a.toInt ∧ a.toInt < (σ.1 68 0).toInt) ∧ 0 ≤ b.toInt ∧ b.toInt ≤ 2)
      · obtain ⟨⟨c1, c2, c3, c4⟩, c5, c6⟩ := id c
        have hj := t1.mp c2
        obtain ⟨n1, r1⟩ := t2 hj
        have ca := clamp_I c3
        have hi : a.toNatClampNeg < nL s := by unfold nL; omega
        obtain ⟨k1, k2, k3, _⟩ := r1 _ hi
        have X2 := X.2 c.1
        have M2 := M.2 ⟨l2, hj, c3, by omega⟩
        by_cases b0 : b.toInt = 0
        · rw [X2.1 b0, M2.1 b0]
          exact Int32.toInt_inj.mp k1
        by_cases b1 : b.toInt = 1
        · rw [X2.2.1 b1, M2.2.1 b1]
          exact Int32.toInt_inj.mp k2
        · rw [X2.2.2 (by omega), M2.2.2 (by omega)]
          exact k3
      · rw [X.1 c, M.1 (fun z => c ?_)]
        obtain ⟨⟨_, d2, d3, d4⟩, d5⟩ := z
        have q := (t2 d2).1
        exact ⟨⟨l1, t1.mpr d2, d3, by omega⟩, d5⟩
  rw [e]; exact y
