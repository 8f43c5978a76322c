/-- an instruction that is come to lies in its block -/
theorem BK.inb {s : Sto} (hB : BM s) (hQ : QL s) (hK : BK s) {j : Nat} (hj : j < nC s) (hd : dP s j ≠ -1) : ∃ b, b < nB s ∧ (s.1 24 j).toInt = b ∧ fiR s b ≤ j ∧ j ≤ laR s b := by
  have o := BK.of_ hB hQ hK hj hd
  obtain ⟨b, hb⟩ : ∃ b : Nat, (s.1 24 j).toInt = b := ⟨(s.1 24 j).toInt.toNat, by omega⟩
  have bn : b < nB s := by omega
  have h2 : ri (s.1 24) j = if dP s j ≠ -1 then (cbP (dP s) (cT s) (j + 1) : Int) - 1 else -1 := hK.2.2.1 j hj
  rw [if_pos hd] at h2
  have h3 : ri (s.1 24) j = (s.1 24 j).toInt := rfl
  have cj : cbP (dP s) (cT s) (j + 1) = b + 1 := by omega
  obtain ⟨k1, k2, k3, k4, k5, k6, k7, k8, k9⟩ := hK.at_ hB hQ bn
  obtain ⟨f, f1, f2, f3, f4⟩ := BLK0 hQ.2.2.2.nx j hj hd cj
  have f2 : bgP (dP s) (cT s) f = true := f2
  have f3 : cbP (dP s) (cT s) f = b := f3
  have ef : f = fiR s b := by
    have a1 := cbP_t f2
    have a2 := cbP_t k5
    refine Classical.byContradiction fun z => ?_
    by_cases q : f < fiR s b
    · have := cbP_le (d := dP s) (ct := cT s) (show f + 1 ≤ fiR s b by omega)
      omega
    · have := cbP_le (d := dP s) (ct := cT s) (show fiR s b + 1 ≤ f by omega)
      omega
  refine ⟨b, bn, hb, by omega, Classical.byContradiction fun z => ?_⟩
  have x := f4 (laR s b) (by omega) (by omega)
  have y := f4 (laR s b + 1) (by omega) (by omega)
  have w := k9 (by omega) y.1
  have x2 : bgP (dP s) (cT s) (laR s b + 1) = false := (x.2 (by omega)).2
  rw [x2] at w
  exact absurd w (by decide)
theorem BK.ob_fi {s : Sto} (hB : BM s) (hQ : QL s) (hK : BK s) {b : Nat} (hb : b < nB s) : dP s (fiR s b) ≠ -1 ∧ fiR s b < nC s ∧ (s.1 24 (fiR s b)).toInt = b := by
  obtain ⟨k1, k2, k3, k4, k5, k6, k7, k8, k9⟩ := hK.at_ hB hQ hb
  have hd := (k8 (fiR s b) (Nat.le_refl _) k3).1
  have hj : fiR s b < nC s := by omega
  have h2 : ri (s.1 24) (fiR s b) = if dP s (fiR s b) ≠ -1 then (cbP (dP s) (cT s) (fiR s b + 1) : Int) - 1 else -1 := hK.2.2.1 _ hj
  rw [if_pos hd] at h2
  have h3 : ri (s.1 24) (fiR s b) = (s.1 24 (fiR s b)).toInt := rfl
  have a2 := cbP_t k5
  exact ⟨hd, hj, by omega⟩
/-- all blocks are come to by all edges -/
theorem AG.all {s : Sto} (hB : BM s) (hQ : QL s) (hK : BK s) (hE : ED s) (hM : EDM s) : ∀ b, b < nB s → AG (EVm s) J0f b := by
  intro b hb P p1 p2
  have edge : ∀ c (t : Int), (∃ e, e < nE s ∧ eF s e = (c : Nat) ∧ eT s e = t) → P c → P t.toNat := fun c t ⟨e, h1, h2, h3⟩ hc => by
    have ga : gA (EVm s) e = c := by
      show (s.1 27 e).toInt.toNat = c
      have : (s.1 27 e).toInt = (c : Int) := h2
      omega
    have gb : gB (EVm s) e = t.toNat := by
      show (s.1 28 e).toInt.toNat = t.toNat
      have : (s.1 28 e).toInt = t := h3
      omega
    have := p2 e ⟨h1, rfl⟩ (by rw [ga]; exact hc)
    rw [gb] at this
    exact this
  obtain ⟨hR1, hR2, hR3, hR4, hR5⟩ := hQ.2.2.2
  have lin : ∀ i, dP s i ≠ -1 → i < nC s := fun i hi => Classical.byContradiction fun z => hi (hR5 i (by omega))
  have key := hR2 (fun i => dP s i ≠ -1 ∧ P (s.1 24 i).toInt.toNat) ⟨by rw [hR3]; decide, by
    have h0 : 0 < nC s := by have := hQ.1; unfold nC; omega
    obtain ⟨c, c1, c2, c3, c4⟩ := hK.inb hB hQ h0 (by rw [hR3]; decide)
    have c0 : c = 0 := by
      obtain ⟨k1, k2, k3, k4, k5, k6, k7, k8, k9⟩ := hK.at_ hB hQ c1
      rw [show fiR s c = 0 by omega] at k6
      have : cbP (dP s) (cT s) 0 = 0 := rfl
      omega
    rw [c2, c0]
    exact p1⟩ (fun j k hj hk => by
    obtain ⟨dj, pj⟩ := hj
    obtain ⟨jn, hk⟩ := hk
    obtain ⟨o1, o2, o3, o4, o5⟩ := hR1 j jn dj
    have nn : 0 ≤ dP s j - ndI (sG s j) + gvI (sG s j) := by
      have : 0 ≤ gvI (sG s j) := by
        unfold gvI
        split <;> (try split) <;> omega
      omega
    obtain ⟨c, c1, c2, c3, c4⟩ := hK.inb hB hQ jn dj
    rw [c2] at pj
    have pj2 : P c := pj
    obtain ⟨k1, k2, k3, k4, k5, k6, k7, k8, k9⟩ := hK.at_ hB hQ c1
    obtain ⟨E1, E2, E3, E4, E5, E6⟩ := hE
    rcases hk with ⟨g, e⟩ | ⟨g, e⟩ | ⟨g, gh, e⟩
    · subst e
      have dk := (o3 g).2
      refine ⟨by omega, ?_⟩
      by_cases q : j < laR s c
      · -- within the block
        obtain ⟨c', d1, d2, d3, d4⟩ := hK.inb hB hQ (o3 g).1 (by omega)
        have : c' = c := BK.dsj hB hQ hK c' c (j + 1) d1 c1 d3 d4 (by omega) (by omega)
        rw [d2, this]
        exact pj2
      · have jl : j = laR s c := by omega
        refine edge c _ (E3 c _ c1 (Or.inl ⟨by rw [← jl]; exact g, ?_⟩)) pj2
        rw [← jl]
    · subst e
      have dk := o4 g
      refine ⟨by omega, ?_⟩
      have jl : j = laR s c := Classical.byContradiction fun z => ((k8 j c3 c4).2 (by omega)).1.2.1 g
      refine edge c _ (E3 c _ c1 (Or.inr ⟨by rw [← jl]; exact g, ?_⟩)) pj2
      rw [← jl]
    · subst e
      have dk := o5 g gh
      refine ⟨by omega, ?_⟩
      have ca := hM.2 c c1
      have same : ∀ i, fiR s c ≤ i → i ≤ laR s c → hoP (nH s) (fR s) (uP s) i = hoP (nH s) (fR s) (uP s) (fiR s c) := hoP_blk (n := nC s) (sg := sG s) (nm := nM s) (go := gO s) (d := dP s) (fun h hh => by
        have ga := gM_11 hB (3 * h + 0)
        have gb := gM_11 hB (3 * h + 1)
        have g1 : fR s h = (s.1 11 (3 * h + 0)).toInt := rfl
        have g2 : uP s h = (s.1 11 (3 * h + 1)).toInt := rfl
        omega) (fun i h1 h2 z => by
        have q := ((k8 i h1 (by omega)).2 h2).2
        exact bgP_f.mp q ⟨(k8 (i + 1) (by omega) (by omega)).1, Or.inl z⟩)
      rcases ca with ⟨_, z⟩ | ⟨i, i1_, i2, i3, i4⟩
      · exact absurd ⟨g, gh⟩ (z j c3 c4)
      · have eh : hoP (nH s) (fR s) (uP s) i = hoP (nH s) (fR s) (uP s) j := by rw [same i i1_ i2, same j c3 c4]
        rw [eh] at i4
        have ok := BK.of_ hB hQ hK (lin _ (by omega)) (show dP s (gO s (hoP (nH s) (fR s) (uP s) j)).toNat ≠ -1 by omega)
        have w : (s.1 25 c).toInt = (s.1 24 (gO s (hoP (nH s) (fR s) (uP s) j)).toNat).toInt := i4
        obtain ⟨e, e1, e2, e3, _⟩ := E4 c c1 (by omega)
        exact edge c _ ⟨e, e1, e2, by rw [e3, w]⟩ pj2) (fiR s b)
  obtain ⟨f1, f2, f3⟩ := hK.ob_fi hB hQ hb
  have r := (key f1).2
  rw [f3] at r
  exact r
