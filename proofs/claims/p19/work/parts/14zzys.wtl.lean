theorem ct_twoL {p : Nat → Bool} {n : Nat} : 2 ≤ fb_ct p n ↔ ∃ e d, e ≠ d ∧ e < n ∧ d < n ∧ p e = true ∧ p d = true := by
  constructor
  · intro h
    obtain ⟨i, i1, i2, i3⟩ := fb_ct_kth (p := p) (k := 0) (n := n) (by omega)
    obtain ⟨j, j1, j2, j3⟩ := fb_ct_kth (p := p) (k := 1) (n := n) (by omega)
    exact ⟨i, j, fun z => by rw [z] at i3; omega, i1, j1, i2, j2⟩
  · have key : ∀ e d, e < d → d < n → p e = true → p d = true → 2 ≤ fb_ct p n := fun e d h h2 he hd => by
      have a1 : fb_ct p (e + 1) = fb_ct p e + 1 := by rw [fb_ct_succ, if_pos he]
      have a2 : fb_ct p (d + 1) = fb_ct p d + 1 := by rw [fb_ct_succ, if_pos hd]
      have m1 := fb_ct_mono p (m := e + 1) (n := d) (by omega)
      have m2 := fb_ct_mono p (m := d + 1) (n := n) (by omega)
      omega
    rintro ⟨e, d, h, h1, h2, h3, h4⟩
    by_cases q : e < d
    · exact key e d q h2 h3 h4
    · exact key d e (by omega) h1 h4 h3
/-- merges of the graph, merges of the reference -/
theorem mgp_iff {V : EVt} {J Bk : Nat → Bool} {s : Sto} (hV : V.1 = nE s) (hB : ∀ e, e < nE s → gB V e = eB s e) (hT : ∀ e, e < nE s → (V.2.2.2 e = true ↔ (s.1 29 e).toInt ≠ 0)) (hJ : ∀ e, e < nE s → (J e = false ↔ (s.1 30 e).toInt = 0)) (hK : ∀ e, e < nE s → (Bk e = false ↔ (s.1 31 e).toInt = 0)) (hTJ : ∀ e, e < V.1 → V.2.2.2 e = true → J e = false) (t : Nat) : MGP V J Bk t ↔ MGp s t := by
  have mg : ∀ e, e < nE s → (mgc V J Bk t e = true ↔ FW s e ∧ eB s e = t) := fun e he => by
    unfold mgc
    rw [Bool.and_eq_true, Bool.and_eq_true, decide_eq_true_eq, Bool.not_eq_true', Bool.not_eq_true', hB e he, hJ e he, hK e he]
    constructor
    · rintro ⟨a, b, c⟩
      exact ⟨⟨⟨he, b⟩, c⟩, a⟩
    · rintro ⟨⟨⟨_, b⟩, c⟩, a⟩
      exact ⟨a, b, c⟩
  unfold MGP MGp
  constructor
  · rintro (⟨e, e1, e2, e3⟩ | h)
    · rw [hV] at e1
      exact Or.inl ⟨e, ⟨e1, (hJ e e1).mp (hTJ e (by rw [hV]; exact e1) e3)⟩, by rw [← hB e e1]; exact e2, (hT e e1).mp e3⟩
    · obtain ⟨e, d, h0, h1, h2, h3, h4⟩ := ct_twoL.mp h
      rw [hV] at h1 h2
      obtain ⟨a1, a2⟩ := (mg e h1).mp h3
      obtain ⟨b1, b2⟩ := (mg d h2).mp h4
      exact Or.inr ⟨e, d, h0, a1, b1, a2, b2⟩
  · rintro (⟨e, e1, e2, e3⟩ | ⟨e, d, h0, a1, b1, a2, b2⟩)
    · exact Or.inl ⟨e, by rw [hV]; exact e1.1, by rw [hB e e1.1]; exact e2, (hT e e1.1).mpr e3⟩
    · refine Or.inr (ct_twoL.mpr ⟨e, d, h0, by rw [hV]; exact a1.1.1, by rw [hV]; exact b1.1.1, (mg e a1.1.1).mpr ⟨a1, a2⟩, (mg d b1.1.1).mpr ⟨b1, b2⟩⟩)
theorem JT4.wtl {σ s : Sto} (h : JT4 σ s) (hl : (σ.1 0 0).toInt ≠ 0) (hj : (s.1 36 0).toInt ≠ -1) : WTL σ s := by
  obtain ⟨A, L, D, K, hl2⟩ := h.laid hl
  obtain ⟨B, Q, KM, E⟩ := D.p
  obtain ⟨n, q2, q3, q4⟩ := h.eqe hl
  obtain ⟨S1, S2, S3, S4, X, R⟩ := h.shape hl
  obtain ⟨T1, T2, T3, T4, T5, T6, T7⟩ := h.tree hl
  obtain ⟨l1, l2⟩ := h.loops hl
  obtain ⟨At, u1, u2, u3, u4⟩ := h.sts hl
  obtain ⟨_, _, _, _, _, _, x56, _⟩ := u1
  obtain ⟨_, _, _, _, _, _, x45, _⟩ := u2
  have hn1 : 1 ≤ nB s := D.2.2.2.2.2.2.2.2.2.2.1
  obtain ⟨g1, g2, g3⟩ := D.2.2.2.2.2.2.1 hj
  have st := D.2.2.2.2.2.2.2.2.2.1
  have W : LNW s := ⟨B, Q, KM, E, g1, g2, g3, st, hn1⟩
  have hBX := h.1.1.1.1
  have g20 := gX_20 hBX 0
  have g27 := gX_27 hBX 0
  have hN := nB_le B
  have h20 : (σ.1 20 0).toInt = (nB s : Int) := by
    have : (σ.1 20 0).toInt.toNat = nB s := n
    omega
  have e27 : (σ.1 27 0).toInt = (nE s : Int) := by
    have : (σ.1 27 0).toInt.toNat = nE s := q4.1
    omega
  have row : ∀ e, e < nE s → (σ.1 29 e).toInt = eF s e ∧ (σ.1 30 e).toInt = eT s e := fun e he => by
    have q := q4.2 e (by rw [q4.1]; exact he)
    exact ⟨q.1, q.2.1⟩
  have ej : ∀ e, e < nE s → (Jx σ e = false ↔ (s.1 30 e).toInt = 0) := fun e he => by rw [S2 e he]; exact Jm_f
  have ek : ∀ e, e < nE s → (decide ((σ.1 38 e).toInt ≠ 0) = false ↔ (s.1 31 e).toInt = 0) := fun e he => by
    rw [decide_eq_false_iff_not]
    constructor
    · exact fun z => Classical.byContradiction fun w => z ((S3 e he).mpr w)
    · exact fun z w => (S3 e he).mp w z
  have mgi := mgp_iff (V := EVx σ) (J := Jx σ) (Bk := fun e => decide ((σ.1 38 e).toInt ≠ 0)) (s := s) q4.1 (fun e he => by
    have r := (row e he).2
    have b0 := (E.1 e he).2.1.1
    have c := clamp_I (x := s.1 28 e) b0
    show (σ.1 30 e).toInt.toNat = (s.1 28 e).toNatClampNeg
    have r' : (σ.1 30 e).toInt = (s.1 28 e).toInt := r
    omega) (fun e he => by
    have q := (q4.2 e (by rw [q4.1]; exact he)).2.2
    rw [q]
    show decide ((s.1 29 e).toInt ≠ 0) = true ↔ _
    rw [decide_eq_true_eq]) ej ek (fun e he ht => X.1.th he ht)
  rcases h.1.2 with ⟨z, _⟩ | ⟨z1, z2, z3, z4, z5, z6, z7, z8⟩
  · exact absurd z hl
  obtain ⟨⟨V, V0, k1, k2, k3, k4, k5, k6⟩, _⟩ := A.edx
  have nn : (σ.1 20 0).toInt.toNat = nB s := n
  rw [nn] at k2 k3 k6
  refine ⟨W, h20, fun b hb => ⟨(q2 b hb).2.2, by rw [(T1 b hb).2], (T3 b).trans (mgi b), l2 b hb, ?_⟩, fun b hb => ?_, fun p hp => ?_, fun e he => ⟨?_, S3 e he⟩, fun x y e he e2 e3 x0 => ?_⟩
  · -- where it goes on
    obtain ⟨_, o1, o2, o3, o4, o5⟩ := k6 b hb
    obtain ⟨c1, c2, c3, c4, c5, c6, c7, c8, c9⟩ := KM.at_ B Q hb
    have la : laN σ b = laR s b := by
      show (σ.1 22 b).toInt.toNat = (s.1 23 b).toInt.toNat
      rw [(q2 b hb).2.1]
    have dl := (c8 _ c3 (Nat.le_refl _)).1
    have ok := Q.ok B c4 dl
    have sg : ri (σ.1 6) (laR s b) = sG s (laR s b) := congrArg Int32.toInt (z5 _ c4).1
    have nm : ri (σ.1 7) (laR s b) = nM s (laR s b) := congrArg Int32.toInt (z5 _ c4).2
    rw [la, sg] at o1 o2 o3 o4 o5
    rw [nm] at o2 o4 o5
    have fa : gOnI (sG s (laR s b)) → ri (σ.1 23) (laR s b + 1) = fallT s b := fun g => q3 _ (ok.2.2.1 g).1
    have ja : gElI (sG s (laR s b)) → ri (σ.1 23) (nM s (laR s b)).toNat = jmpT s b := fun g => by
      have nl := Q.2.2.1.1 _ c4 g
      exact q3 _ (by omega)
    have r24 : ri (σ.1 24) b = (σ.1 24 b).toInt := rfl
    refine ⟨fun fk => ?_, fun nf => ⟨?_, fun c => ?_, fun c g => ?_, fun c g => ?_⟩⟩
    · have s122 := fk.1
      have gn : gOnI (sG s (laR s b)) := ⟨by omega, by omega, by omega⟩
      have ge : gElI (sG s (laR s b)) := Or.inr s122
      have ne := fk.2
      have f1 := fa gn
      have j1 := ja ge
      refine ⟨(o1 gn).trans f1, (o4 ⟨gn, ge, fun z => ne ?_⟩).trans j1⟩
      rw [f1, j1] at z
      exact z.symm
    · refine o5 (fun ⟨gn, ge, ne⟩ => nf ⟨ge.resolve_left gn.1, fun z => ne ?_⟩)
      rw [fa gn, ja ge]
      exact z.symm
    · have ge : gElI (sG s (laR s b)) := Or.inl c
      exact (o2 (fun g => g.1 c) ge).trans (ja ge)
    · exact (o1 g).trans (fa g)
    · exact o3 g (fun ge => g (by
        have s122 := ge.resolve_left c
        exact ⟨by omega, by omega, by omega⟩))
  · rw [x56 b hb]
    exact (x45 b hb).symm
  · obtain ⟨b, b1, b2, b3⟩ := T2.2.1 p hp
    refine ⟨b, b1, b2, ?_⟩
    rw [← b3]
    exact (T1 b b1).1.symm
  · exact not_congr ((Jx_f (s := σ) (e := e)).symm.trans (ej e he))
  · have hx := (E.1 e he).1
    rw [e2] at hx
    have cx := clamp_I x0
    have xb : x.toNatClampNeg < nB s := by omega
    obtain ⟨w1, w2⟩ := k3 _ xb
    have r0 := row e he
    have se : (σ.1 29 e).toInt = x.toInt := by rw [r0.1]; exact e2
    refine t_X0_edgeTo (e0 := e) ?_ ?_ ?_ ?_ ?_
    · exact (w2 e (by omega)).mpr (by omega)
    · intro d d1 d2
      have a := (w2 d (by omega)).mp d1
      have b := k2 d (by omega)
      by_cases q : x.toNatClampNeg + 1 < nB s
      · have c := (k3 _ q).2 d (by omega)
        have c2 := (k3 _ q).2 e (by omega)
        by_cases r : (σ.1 29 d).toInt = x.toInt
        · exact r
        · have := c.mpr (by omega)
          have := c2.mp (by omega)
          omega
      · omega
    · rw [r0.2]
      exact e3
    · intro d d1 d2 d3
      exact k5 d e d1 (by omega) (by omega) (by rw [d3, r0.2]; exact e3.symm)
    · omega
