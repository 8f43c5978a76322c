/-- what is answered of a spelled line -/
def SPR (L : List Int32) (b r : Int32) : Prop := (b = -1 → r.toInt = (L.length : Int)) ∧ (b ≠ -1 → ((0 ≤ b.toInt ∧ b.toInt < (L.length : Int)) → L[b.toInt.toNat]? = some r) ∧ (¬ (0 ≤ b.toInt ∧ b.toInt < (L.length : Int)) → r.toInt = -1))
theorem SPR.uq {L : List Int32} {b r r2 : Int32} (h : SPR L b r) (g : SPR L b r2) : r = r2 := by
  obtain ⟨h1, h2⟩ := h
  obtain ⟨g1, g2⟩ := g
  by_cases c : b = -1
  · exact Int32.toInt_inj.mp ((h1 c).trans (g1 c).symm)
  · by_cases d : 0 ≤ b.toInt ∧ b.toInt < (L.length : Int)
    · exact Option.some.inj (((h2 c).1 d).symm.trans ((g2 c).1 d))
    · exact Int32.toInt_inj.mp (((h2 c).2 d).trans ((g2 c).2 d).symm)
theorem lsp_l {k : Int} {b : Int32} {c : List Int32} (h : c.length ≤ 260) : (lsp k b c).length ≤ 400 := by
  have b1 := blS_l (wd 0 6) b (wd 1 1)
  have b2 := blS_l (wd 2 7) b (wd 1 1)
  have b6 := blS_l (wd 6 7) b (wd 7 1)
  have b7 := blS_l (wd 8 10) b (wd 7 1)
  have b8 := blS_l (wd 9 6) b (wd 7 1)
  have b10 := blS_l (wd 11 8) b (wd 7 1)
  have b11 := blS_l (wd 12 1) b (wd 13 1)
  have a0 : (wd 0 6).length = 6 := by decide +kernel
  have a1 : (wd 1 1).length = 1 := by decide +kernel
  have a2 : (wd 2 7).length = 7 := by decide +kernel
  have a3 : (wd 3 3).length = 3 := by decide +kernel
  have a4 : (wd 4 5).length = 5 := by decide +kernel
  have a5 : (wd 5 1).length = 1 := by decide +kernel
  have a6 : (wd 6 7).length = 7 := by decide +kernel
  have a7 : (wd 7 1).length = 1 := by decide +kernel
  have a8 : (wd 8 10).length = 10 := by decide +kernel
  have a9 : (wd 9 6).length = 6 := by decide +kernel
  have a10 : (wd 10 4).length = 4 := by decide +kernel
  have a11 : (wd 11 8).length = 8 := by decide +kernel
  have a12 : (wd 12 1).length = 1 := by decide +kernel
  have a13 : (wd 13 1).length = 1 := by decide +kernel
  unfold lsp
  by_cases k0 : k = 0
  · rw [if_pos k0]; omega
  rw [if_neg k0]
  by_cases k1 : k = 1
  · rw [if_pos k1]; omega
  rw [if_neg k1]
  by_cases k2 : k = 2
  · rw [if_pos k2]; omega
  rw [if_neg k2]
  by_cases k3 : k = 3
  · rw [if_pos k3, List.length_append, List.length_append]; omega
  rw [if_neg k3]
  by_cases k4 : k = 4
  · rw [if_pos k4]; omega
  rw [if_neg k4]
  by_cases k5 : k = 5
  · rw [if_pos k5]; omega
  rw [if_neg k5]
  by_cases k6 : k = 6
  · rw [if_pos k6]; omega
  rw [if_neg k6]
  by_cases k7 : k = 7
  · rw [if_pos k7]; omega
  rw [if_neg k7]
  by_cases k8 : k = 8
  · rw [if_pos k8]; omega
  rw [if_neg k8]
  by_cases k9 : k = 9
  · rw [if_pos k9]; omega
  rw [if_neg k9]
  by_cases k10 : k = 10
  · rw [if_pos k10]; omega
  rw [if_neg k10]
  omega
theorem t_spellX {σ : Sto} {n : Nat} {tr : Nat → Term} {a b : Int32} {c : List Int32} (q : (σ.1 0 0).toInt ≠ 0 ∧ (σ.1 34 0).toInt = 0 ∧ 0 ≤ a.toInt ∧ a.toInt < (σ.1 68 0).toInt) (h : PLX σ n tr) (hc : c.length ≤ 260) (h0 : (σ.1 69 a.toNatClampNeg).toInt = 0 → ∃ o, EXV (σ.1 55 (σ.1 72 a.toNatClampNeg).toNatClampNeg) n tr o ∧ (∀ t, o = some t → tSz t ≤ 60) ∧ c = ssp (σ.1 53 (σ.1 72 a.toNatClampNeg).toNatClampNeg).toInt (σ.1 54 (σ.1 72 a.toNatClampNeg).toNatClampNeg) o) (h3 : (σ.1 69 a.toNatClampNeg).toInt = 3 → ∃ t, EXV (σ.1 57 (σ.1 70 a.toNatClampNeg).toNatClampNeg) n tr (some t) ∧ tSz t ≤ 60 ∧ c = spl t) : PC (f_X11_spell a b σ) (fun r => SPR (lsp (σ.1 69 a.toNatClampNeg).toInt (σ.1 70 a.toNatClampNeg) c) b r.1) := by
  unfold f_X11_spell
  refine pc_calp t_isLnX (fun v1 h1 => ?_)
  refine pc_ite (fun z => absurd q (h1.mp z)) (fun _ => ?_)
  refine pc_calv (w_line h h0 h3) (fun v3 s3 u => ?_)
  obtain ⟨u1, u2, u3⟩ := u
  (try dsimp only at u1 u2 u3)
  refine pc_ite (fun z => pc_ret ⟨fun _ => u3, fun y => absurd z y⟩) (fun z => ?_)
  exact pc_calp (t_signAt u2 (lsp_l hc)) (fun v5 h5 => pc_ret ⟨fun y => absurd y z, fun _ => h5⟩)
theorem t_spell0 {σ : Sto} {a b : Int32} (q : ¬ ((σ.1 0 0).toInt ≠ 0 ∧ (σ.1 34 0).toInt = 0 ∧ 0 ≤ a.toInt ∧ a.toInt < (σ.1 68 0).toInt)) : PC (f_X11_spell a b σ) (fun r => r.1 = -1) := by
  unfold f_X11_spell
  refine pc_calp t_isLnX (fun v1 h1 => ?_)
  exact pc_ite (fun _ => pc_ret rfl) (fun z => absurd (h1.mpr q) z)
theorem m_spellM {s : Sto} {n : Nat} {tr : Nat → Term} {a b : Int32} {c : List Int32} (hB : BM s) (q : (s.1 21 0).toInt ≠ 0 ∧ (s.1 36 0).toInt ≠ -1 ∧ 0 ≤ a.toInt ∧ a.toInt < (s.1 62 0).toInt) (h : PLM s n tr) (h0 : (s.1 58 a.toNatClampNeg).toInt = 0 → ∃ o, EXV (s.1 44 (s.1 61 a.toNatClampNeg).toNatClampNeg) n tr o ∧ (∀ t, o = some t → tN t) ∧ c = ssp (s.1 42 (s.1 61 a.toNatClampNeg).toNatClampNeg).toInt (s.1 43 (s.1 61 a.toNatClampNeg).toNatClampNeg) o) (h3 : (s.1 58 a.toNatClampNeg).toInt = 3 → ∃ t, EXV (s.1 46 (s.1 59 a.toNatClampNeg).toNatClampNeg) n tr (some t) ∧ tN t ∧ c = spl t) : PC (f_X12_spell a b s) (fun r => SPR (lsp (s.1 58 a.toNatClampNeg).toInt (s.1 59 a.toNatClampNeg) c) b r.1) := by
  unfold f_X12_spell
  refine pc_lt fun s1 e1 => ?_
  have fr : ∀ {k : Nat}, k ≠ 0 → s1.1 k = s.1 k := fun {k} hk => by rw [e1]; exact sti_o hk
  have k0_ : (0 : Int32).toInt = 0 := by decide +kernel
  have B1 : BM s1 := by rw [e1]; exact pM_0 hB (by omega)
  have P1 := h.cg (fun k hk => fr (k := k) (by omega))
  refine pc_calp (t_isLnM B1) (fun v2 h2 => ?_)
  rw [fr (show (21 : Nat) ≠ 0 by decide), fr (show (36 : Nat) ≠ 0 by decide), fr (show (62 : Nat) ≠ 0 by decide)] at h2
  refine pc_ite (fun z => absurd q (h2.mp z)) (fun _ => ?_)
  have V := v_line (s := s1) (x := a) (c := c) B1 P1 (by rw [fr (show (58 : Nat) ≠ 0 by decide), fr (show (44 : Nat) ≠ 0 by decide), fr (show (61 : Nat) ≠ 0 by decide), fr (show (42 : Nat) ≠ 0 by decide), fr (show (43 : Nat) ≠ 0 by decide)]; exact h0) (by rw [fr (show (58 : Nat) ≠ 0 by decide), fr (show (46 : Nat) ≠ 0 by decide), fr (show (59 : Nat) ≠ 0 by decide)]; exact h3)
  rw [fr (show (58 : Nat) ≠ 0 by decide), fr (show (59 : Nat) ≠ 0 by decide)] at V
  refine pc_cals V (fun s4 u => ?_)
  exact pc_calp (m_told u) (fun v5 h5 => pc_ret h5)
theorem m_spell0 {s : Sto} {a b : Int32} (hB : BM s) (q : ¬ ((s.1 21 0).toInt ≠ 0 ∧ (s.1 36 0).toInt ≠ -1 ∧ 0 ≤ a.toInt ∧ a.toInt < (s.1 62 0).toInt)) : PC (f_X12_spell a b s) (fun r => r.1 = -1) := by
  unfold f_X12_spell
  refine pc_lt fun s1 e1 => ?_
  have fr : ∀ {k : Nat}, k ≠ 0 → s1.1 k = s.1 k := fun {k} hk => by rw [e1]; exact sti_o hk
  have k0_ : (0 : Int32).toInt = 0 := by decide +kernel
  have B1 : BM s1 := by rw [e1]; exact pM_0 hB (by omega)
  refine pc_calp (t_isLnM B1) (fun v2 h2 => ?_)
  rw [fr (show (21 : Nat) ≠ 0 by decide), fr (show (36 : Nat) ≠ 0 by decide), fr (show (62 : Nat) ≠ 0 by decide)] at h2
  exact pc_ite (fun _ => pc_ret rfl) (fun z => absurd (h2.mpr q) z)
/-- what the reference's lines keep to -/
theorem JT4.lok {σ s : Sto} (h : JT4 σ s) (hl : (σ.1 0 0).toInt ≠ 0) (hj : (s.1 36 0).toInt ≠ -1) : ∀ i, i < nL s → LOK s (lnA s i) := by
  obtain ⟨A, L, D, K, hl2⟩ := h.laid hl
  obtain ⟨l, t1, n2, r2⟩ := L.lns (fun z => D.lnw z) hj
  have W := D.lnw hj
  have hb1 := W.2.2.2.2.2.2.2.2
  intro i hi
  have nn : nL s = fb_ct (kpl l) l.length := n2
  rw [nn] at hi
  obtain ⟨j, j1, j2, j3⟩ := fb_ct_kth hi
  have hx : l[j]? = some l[j] := List.getElem?_eq_getElem j1
  have c1 := (r2 j _ hx j2).1
  rw [j3] at c1
  rw [c1]
  exact TEL.ok W _ _ _ _ _ (by omega) t1 _ (List.mem_of_getElem? hx)
theorem R_spell {σ s : Sto} (h : JT4 σ s) (a b : Int32) : ∃ v σ2 s2, f_X11_spell a b σ = some (v, σ2) ∧ f_X12_spell a b s = some (v, s2) ∧ JT4 σ2 s2 := by
  obtain ⟨v, σ2, w, s2, x, y, z⟩ := Q_spell h a b
  refine ⟨v, σ2, s2, x, ?_, z⟩
  have e : v = w := by
    have B := h.1.1.2.1.1
    rcases h.ld with ⟨l1, l2⟩ | ⟨l1, l2⟩
    · exact (t_spell0 (fun q => q.1 l1) _ x).trans (m_spell0 B (fun q => q.1 l2) _ y).symm
    · obtain ⟨t1, t2⟩ := h.lnq l1
      by_cases c : (σ.1 0 0).toInt ≠ 0 ∧ (σ.1 34 0).toInt = 0 ∧ 0 ≤ a.toInt ∧ a.toInt < (σ.1 68 0).toInt
      · obtain ⟨c1, c2, c3, c4⟩ := id c
        have hj := t1.mp c2
        obtain ⟨n1, r1⟩ := t2 hj
        have ca := clamp_I c3
        have hi : a.toNatClampNeg < nL s := by unfold nL; omega
        obtain ⟨k1, k2, _, k4⟩ := r1 _ hi
        obtain ⟨o1, o2⟩ := h.lok l1 hj _ hi
        obtain ⟨At, LX, LM, nx, mono⟩ := h.sts l1
        have ts := LX.ts
        have tr_ := LX.tr
        obtain ⟨A, L, D, K, hl2⟩ := h.laid l1
        have st := D.2.2.2.2.2.2.2.2.2.1
        obtain ⟨n, tr, p1, p2, p3, p4, p5, p6, p7, p8⟩ := LX
        obtain ⟨n', tr', m1, m2, m3, m4, m5, m6⟩ := LM
        have nb := nB_le B
        have eb : σ.1 70 a.toNatClampNeg = s.1 59 a.toNatClampNeg := Int32.toInt_inj.mp k2
        have cd : (s.1 21 0).toInt ≠ 0 ∧ (s.1 36 0).toInt ≠ -1 ∧ 0 ≤ a.toInt ∧ a.toInt < (s.1 62 0).toInt := ⟨l2, hj, c3, by omega⟩
        have kk : kA s a.toNatClampNeg = (s.1 58 a.toNatClampNeg).toInt := rfl
        -- what else the line says
        have key : ∃ cc : List Int32, cc.length ≤ 260 ∧ ((σ.1 69 a.toNatClampNeg).toInt = 0 → ∃ o, EXV (σ.1 55 (σ.1 72 a.toNatClampNeg).toNatClampNeg) n tr o ∧ (∀ t, o = some t → tSz t ≤ 60) ∧ cc = ssp (σ.1 53 (σ.1 72 a.toNatClampNeg).toNatClampNeg).toInt (σ.1 54 (σ.1 72 a.toNatClampNeg).toNatClampNeg) o) ∧ ((σ.1 69 a.toNatClampNeg).toInt = 3 → ∃ t, EXV (σ.1 57 (σ.1 70 a.toNatClampNeg).toNatClampNeg) n tr (some t) ∧ tSz t ≤ 60 ∧ cc = spl t) ∧ ((s.1 58 a.toNatClampNeg).toInt = 0 → ∃ o, EXV (s.1 44 (s.1 61 a.toNatClampNeg).toNatClampNeg) n' tr' o ∧ (∀ t, o = some t → tN t) ∧ cc = ssp (s.1 42 (s.1 61 a.toNatClampNeg).toNatClampNeg).toInt (s.1 43 (s.1 61 a.toNatClampNeg).toNatClampNeg) o) ∧ ((s.1 58 a.toNatClampNeg).toInt = 3 → ∃ t, EXV (s.1 46 (s.1 59 a.toNatClampNeg).toNatClampNeg) n' tr' (some t) ∧ tN t ∧ cc = spl t) := by
          by_cases z0 : (s.1 58 a.toNatClampNeg).toInt = 0
          · have z0' : (lnA s a.toNatClampNeg).1 = 0 := z0
            obtain ⟨j0, j1⟩ := o1 z0'
            have j0' : 0 ≤ (s.1 61 a.toNatClampNeg).toInt := j0
            have j1' : (s.1 61 a.toNatClampNeg).toInt < (s.1 47 0).toInt := j1
            have e72 : σ.1 72 a.toNatClampNeg = s.1 61 a.toNatClampNeg := Int32.toInt_inj.mp (k4 z0)
            have cj := clamp_I j0'
            have jn : (s.1 61 a.toNatClampNeg).toNatClampNeg < pNn (At (nB s)) := by omega
            obtain ⟨x1, x2, x3⟩ := p4 _ jn
            obtain ⟨y1, y2, y3⟩ := m4 _ jn
            have tt := fun t ht => tr_ _ t ht jn
            have e1 : (σ.1 53 (s.1 61 a.toNatClampNeg).toNatClampNeg).toInt = (s.1 42 (s.1 61 a.toNatClampNeg).toNatClampNeg).toInt := by rw [x1, y1]
            have e2 : σ.1 54 (s.1 61 a.toNatClampNeg).toNatClampNeg = s.1 43 (s.1 61 a.toNatClampNeg).toNatClampNeg := Int32.toInt_inj.mp (by rw [x2, y2])
            refine ⟨ssp (s.1 42 (s.1 61 a.toNatClampNeg).toNatClampNeg).toInt (s.1 43 (s.1 61 a.toNatClampNeg).toNatClampNeg) (pSm (At (nB s)) (s.1 61 a.toNatClampNeg).toNatClampNeg).2.2, ?_, fun _ => ⟨_, by rw [e72]; exact x3, fun t ht => (tt t ht).2, by rw [e72, e1, e2]⟩, fun w => by omega, fun _ => ⟨_, y3, fun t ht => (tt t ht).1, rfl⟩, fun w => by omega⟩
            have h10 := ssH_l (s.1 42 (s.1 61 a.toNatClampNeg).toNatClampNeg).toInt (s.1 43 (s.1 61 a.toNatClampNeg).toNatClampNeg)
            have w7 : (wd 7 1).length = 1 := by decide +kernel
            have lo : (opS (pSm (At (nB s)) (s.1 61 a.toNatClampNeg).toNatClampNeg).2.2).length ≤ 240 := by
              generalize (pSm (At (nB s)) (s.1 61 a.toNatClampNeg).toNatClampNeg).2.2 = o at tt
              cases o with
              | none => exact Nat.zero_le _
              | some t =>
                have u1 := spl_l t
                have u2 := (tt t rfl).2
                show (spl t).length ≤ 240
                omega
            unfold ssp
            rw [List.length_append, List.length_append]
            omega
          · by_cases z3 : (s.1 58 a.toNatClampNeg).toInt = 3
            · have z3' : (lnA s a.toNatClampNeg).1 = 3 := z3
              obtain ⟨bb, b1, b2, b3⟩ := o2 z3'
              have b1' : (s.1 59 a.toNatClampNeg).toInt = (bb : Int) := b1
              have cb : (s.1 59 a.toNatClampNeg).toNatClampNeg = bb := by have := clamp_I (x := s.1 59 a.toNatClampNeg) (by omega); omega
              have nm := st.2.2.2.2.2 bb b2 b3
              have y6 := m6 bb b2
              have x6 := p6 bb b2
              have tt := fun t ht => ts bb t b2 ht
              generalize pTs (At (bb + 1)) = o at tt x6 y6
              cases o with
              | none => exact absurd y6.no nm
              | some t =>
                refine ⟨spl t, ?_, fun w => by omega, fun _ => ⟨t, by rw [eb, cb]; exact x6, (tt t rfl).2, rfl⟩, fun w => by omega, fun _ => ⟨t, by rw [cb]; exact y6, (tt t rfl).1, rfl⟩⟩
                have u1 := spl_l t
                have u2 := (tt t rfl).2
                omega
            · exact ⟨[], Nat.zero_le _, fun w => by omega, fun w => by omega, fun w => absurd w z0, fun w => absurd w z3⟩
        obtain ⟨cc, q1, q2, q3, q4, q5⟩ := key
        have X := t_spellX (b := b) c p1 q1 q2 q3 _ x
        have M := m_spellM (b := b) B cd m1 q4 q5 _ y
        (try dsimp only at X M)
        rw [k1, eb] at X
        exact X.uq M
      · refine (t_spell0 c _ x).trans (m_spell0 B (fun z => c ?_) _ y).symm
        obtain ⟨_, d2, d3, d4⟩ := z
        have q := (t2 d2).1
        exact ⟨l1, t1.mpr d2, d3, by omega⟩
  rw [e]; exact y
