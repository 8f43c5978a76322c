theorem t_codeX {σ : Sto} (h : JI σ) : OK (f_X11_code σ) (fun r => COa (σ.1 2 0).toInt.toNat (cb (σ.1 1)) r.1.toInt) := by
  obtain ⟨hB, h1, h2, h3, h4, h5, h6, h7, h8, h9, h10, h11⟩ := h
  have k_0 : (0 : Int32).toInt = 0 := by decide +kernel
  have k_m : ((-1) : Int32).toInt = -1 := by decide +kernel
  unfold f_X11_code
  refine ok_calv (s_X9_read_draft (σ := σ) hB) (fun v1 s1 q => ?_)
  obtain ⟨b1, B1, F1, D1, x1, x2⟩ := q
  (try dsimp only at b1 B1 F1 D1 x1 x2)
  have tv : v1.toInt = (paT (σ.1 2 0).toInt.toNat (cb (σ.1 1))).1 := congrArg Prod.fst x1
  refine ok_ite (fun c1 => ?_) (fun c1 => ?_)
  · rw [fa_eq, k_0] at c1
    exact ok_ret ⟨fun _ => k_m, fun t => by omega⟩
  rw [fa_eq, k_0] at c1
  obtain ⟨n1, eq_, er_⟩ := x2 (by omega)
  refine ok_calv (s_X3_judge_draft (σ := s1) B1 n1) (fun v3 s3 r => ?_)
  obtain ⟨r1, r2, r3, r4, r5⟩ := r
  (try dsimp only at r1 r2 r3 r4 r5)
  have g12 := gX_12 B1 0
  have g13 := gX_13 B1 0
  refine ok_ite (fun c2 => ?_) (fun c2 => ?_)
  · rw [fa_eq, k_0] at c2
    refine ok_lt fun s5 e5 => ?_
    have B5 : BX s5 := by rw [e5]; exact pX_2 r2 (by omega)
    have F5 : FR [2, 3, 12, 13, 14, 15, 16, 17, 18, 19] [] σ s5 := by
      rw [e5]; refine FR.st ?_ (by decide)
      exact FR.cal (FR.cal FR.rf F1 rfl rfl) r3 rfl rfl
    have DV3 : DV s3 := DV.of (σ := s1) (v := v3.toInt) n1 D1 B1 (by omega) ⟨r4, r5⟩ (fun k h1 h2 h3 => r3.1 k (by simp; omega))
    have DV5 : DV s5 := by rw [e5]; exact DV.st1 (by decide) DV3
    refine ok_cals (t_X11_adoptDraft (σ := s5) B5 DV5 (PI.fr F5 (by decide) h1) (SI.fr F5 (by decide) h2) (LI.fr F5 (by decide) h3) (FE.fr F5 (by decide) h5) (BV.fr F5 (by decide) h6)) (fun s6 u => ?_)
    obtain ⟨B6, _, _, _, _, _, _, _, _, _, _, _, _, ub, uc⟩ := u
    have o : ∀ k, k ≠ 2 → k ≠ 16 → s5.1 k = s1.1 k := fun k y1 y2 => by rw [e5, sti_o y1, r3.1 k (by simp; exact y2)]
    have o16 : s5.1 16 = s3.1 16 := by rw [e5, sti_o (by decide)]
    obtain ⟨d1, d2, d3, d4⟩ := uc
    rw [o 12 (by decide) (by decide)] at d1
    rw [o 13 (by decide) (by decide)] at d2
    rw [o 14 (by decide) (by decide), o 15 (by decide) (by decide), o16] at d3
    rw [o 17 (by decide) (by decide), o 18 (by decide) (by decide), o 19 (by decide) (by decide)] at d4
    have hd : mk (s1.1 12 0).toInt.toNat (s6.1 8) = mk (s1.1 12 0).toInt.toNat (s3.1 16) := mk_cp (fun i hi => (d3 i (by omega)).2.2)
    have ha : ∀ i, i < (s1.1 12 0).toInt.toNat → ri (s6.1 6) i = ri (s1.1 14) i ∧ ri (s6.1 7) i = ri (s1.1 15) i := fun i hi => by
      have := d3 i (by omega)
      unfold ri
      rw [this.1, this.2.1]
      exact ⟨rfl, rfl⟩
    have hb : ∀ h, h < (s1.1 13 0).toInt.toNat → ri (s6.1 9) h = ri (s1.1 17) h ∧ ri (s6.1 10) h = ri (s1.1 18) h ∧ ri (s6.1 11) h = ri (s1.1 19) h := fun i hi => by
      have := d4 i (by omega)
      unfold ri
      rw [this.1, this.2.1, this.2.2]
      exact ⟨rfl, rfl, rfl⟩
    have nb := ub.1
    rw [d1, d2, hd, cbP_cg (fun i _ => rfl) (fun i _ => CUTC.cp ha hb)] at nb
    have g20 := gX_20 B6 0
    refine ok_ret (COa.of (by omega) eq_ er_ (fun i _ => ⟨rfl, rfl⟩) (fun i _ => ⟨rfl, rfl, rfl⟩) r4 r5 (fun y => absurd c2 y) (fun _ => ?_))
    have e9 : (s6.1 20 0).toInt = ((s6.1 20 0).toInt.toNat : Int) := by
      have g : 0 ≤ (s6.1 20 0).toInt := g20.1
      omega
    exact e9.trans (congrArg (fun q : Nat => (q : Int)) nb)
  · rw [fa_eq, k_0] at c2
    exact ok_ret (COa.of (by omega) eq_ er_ (fun i _ => ⟨rfl, rfl⟩) (fun i _ => ⟨rfl, rfl, rfl⟩) r4 r5 (fun _ => rfl) (fun y => absurd y c2))
theorem t_codeM {σ τ : Sto} (h : GR τ σ) : OK (f_X12_code σ) (fun r => COa (σ.1 2 0).toInt.toNat (cb (σ.1 1)) r.1.toInt) := by
  have k_0 : (0 : Int32).toInt = 0 := by decide +kernel
  have k_m : ((-1) : Int32).toInt = -1 := by decide +kernel
  unfold f_X12_code
  refine ok_lt fun s1 e1 => ?_
  have B1 : BM s1 := by rw [e1]; exact pM_0 h.1 (by omega)
  have f1 : FR [0, 3, 4, 5, 6, 7, 8, 12, 13, 14, 17, 18, 19] [] σ s1 := by rw [e1]; exact FR.st FR.rf (by decide)
  refine ok_calv (s_X12_isText B1) (fun v2 s2 q => ?_)
  obtain ⟨q1, q2, q3, q4, q5, q6, q7⟩ := q
  (try dsimp only at q1 q2 q3 q4 q5 q6 q7)
  rw [f1.1 1 (by decide), f1.1 2 (by decide)] at q5 q6
  have tv : v2.toInt = (paT (σ.1 2 0).toInt.toNat (cb (σ.1 1))).1 := congrArg Prod.fst q5
  refine ok_ite (fun c1 => ?_) (fun c1 => ?_)
  · rw [fa_eq, k_0] at c1
    exact ok_ret ⟨fun _ => k_m, fun t => by omega⟩
  rw [fa_eq, k_0] at c1
  obtain ⟨n1, eq_, er_⟩ := q6 (by omega)
  have g7 := gM_7 q2 0
  have g8 := gM_8 q2 0
  refine ok_cals (s_X12_tries_signRead_numberRead_handlerRead (x3 := s2.1 7 0) (x5 := s2.1 8 0) q2 (by omega) (by omega)) (fun s4 r => ?_)
  obtain ⟨r1, r2, r3, r4, r5, r6⟩ := r
  have g17 := gM_17 r1 0
  have g18 := gM_18 r1 0
  refine ok_calv (ok_and (s_wrongQ r1 (by omega) (fun i hi => ?_)) (s_X12_wrong r1 (by omega))) (fun v5 s5 t => ?_)
  · rw [r3] at hi
    have := q4 i (by omega)
    unfold ri
    rw [(r5 i (by omega)).1, (r5 i (by omega)).2]
    exact this
  · obtain ⟨⟨t1, t2, t3, t4⟩, _, _, _, t5, t6⟩ := t
    (try dsimp only at t1 t2 t3 t4 t5 t6)
    have zz : (s4.1 17 0).toInt.toNat = (s2.1 7 0).toInt.toNat := by rw [r3]
    have ww : (s4.1 18 0).toInt.toNat = (s2.1 8 0).toInt.toNat := by rw [r4]
    rw [zz, ww] at t5 t6
    refine ok_ite (fun c2 => ?_) (fun c2 => ?_)
    · rw [fa_le, k_0] at c2
      refine ok_lt fun s7 e7 => ?_
      have Q := t4 c2
      have o5 : ∀ k, k ≠ 2 → s7.1 k = s5.1 k := fun k hk => by rw [e7, sti_o hk]
      have Q7 : QLc s7 := by
        unfold QLc at Q ⊢
        rw [o5 12 (by decide), o5 13 (by decide), o5 14 (by decide), o5 17 (by decide), o5 18 (by decide), o5 19 (by decide)]
        exact Q
      refine ok_calv (t_takes (by rw [e7]; exact pM_2 t2 (by omega)) Q7) (fun v8 s8 u => ?_)
      obtain ⟨u1, u2, u3, u4, u5⟩ := u
      (try dsimp only at u1 u2 u3 u4 u5)
      obtain ⟨d1, d2, d3, d4⟩ := u5
      rw [o5 17 (by decide), t3.1 17 (by decide)] at d1
      rw [o5 18 (by decide), t3.1 18 (by decide)] at d2
      rw [o5 12 (by decide), t3.1 12 (by decide), o5 13 (by decide), t3.1 13 (by decide), o5 19 (by decide)] at d3
      rw [o5 14 (by decide), t3.1 14 (by decide)] at d4
      have hn : nC s8 = (s2.1 7 0).toInt.toNat := by rw [← zz]; show (s8.1 15 0).toInt.toNat = _; rw [d1]
      have hh : nH s8 = (s2.1 8 0).toInt.toNat := by rw [← ww]; show (s8.1 16 0).toInt.toNat = _; rw [d2]
      have hd : mk (s2.1 7 0).toInt.toNat (s8.1 20) = mk (s2.1 7 0).toInt.toNat (s5.1 19) := mk_cp (fun i hi => (d3 i (by omega)).2.2)
      have ha : ∀ i, i < (s2.1 7 0).toInt.toNat → sG s8 i = ri (s4.1 12) i ∧ nM s8 i = ri (s4.1 13) i := fun i hi => by
        have := d3 i (by omega)
        unfold sG nM ri
        rw [this.1, this.2.1]
        exact ⟨rfl, rfl⟩
      have hb : ∀ h, h < (s2.1 8 0).toInt.toNat → fR s8 h = ri (h3 (s4.1 14) 0) h ∧ uP s8 h = ri (h3 (s4.1 14) 1) h ∧ gO s8 h = ri (h3 (s4.1 14) 2) h := fun h hl => by
        unfold fR uP gO ri h3
        rw [d4 _ (by omega), d4 _ (by omega), d4 _ (by omega)]
        exact ⟨rfl, rfl, rfl⟩
      have nb : nB s8 = cbP (mk (nC s8) (s8.1 20)) (CUTC (nC s8) (nH s8) (sG s8) (nM s8) (fR s8) (uP s8) (gO s8) (mk (nC s8) (s8.1 20))) (nC s8) := u2.2.2.1.1
      rw [hn, hh, hd, cbP_cg (fun i _ => rfl) (fun i _ => CUTC.cp ha hb)] at nb
      refine ok_ret (COa.of (by omega) eq_ er_ (fun i hi => r5 i (by omega)) (fun i hi => ⟨r6 _ (by omega), r6 _ (by omega), r6 _ (by omega)⟩) t5 t6 (fun y => absurd (show v5.toInt = 0 by omega) y) (fun _ => ?_))
      (try dsimp only)
      rw [u3, nb]
      rfl
    · rw [fa_le, k_0] at c2
      exact ok_ret (COa.of (by omega) eq_ er_ (fun i hi => r5 i (by omega)) (fun i hi => ⟨r6 _ (by omega), r6 _ (by omega), r6 _ (by omega)⟩) t5 t6 (fun _ => rfl) (fun y => absurd y (by omega)))
/-- code on both sides: the same answer -/
theorem J_code2 {σ s : Sto} (h : JT σ s) : ∃ v σ2 s2, f_X11_code σ = some (v, σ2) ∧ f_X12_code s = some (v, s2) ∧ JT σ2 s2 := by
  obtain ⟨⟨v, σ2⟩, x1, x3⟩ := t_codeX h.1
  obtain ⟨⟨w, s2⟩, y1, y3⟩ := t_codeM h.2.1
  obtain ⟨v', σ2', w', s2', z1, z2, z3⟩ := J_code h
  have t1 : σ.1 1 = s.1 1 := congrArg Prod.fst h.2.2
  have t2 : σ.1 2 0 = s.1 2 0 := congrArg Prod.snd h.2.2
  have e : v = w := by
    have x3 : COa (σ.1 2 0).toInt.toNat (cb (σ.1 1)) v.toInt := x3
    have y3 : COa (s.1 2 0).toInt.toNat (cb (s.1 1)) w.toInt := y3
    rw [t1, t2] at x3
    have q := s_X12_isText (σ := s) h.2.1.1
    obtain ⟨⟨a, b⟩, _, q1, _, _, _, q5, _⟩ := q
    have tv : a.toInt = (paT (s.1 2 0).toInt.toNat (cb (s.1 1))).1 := congrArg Prod.fst q5
    (try dsimp only at q1)
    exact Int32.toInt_inj.mp (COa.uq (by omega) x3 y3)
  subst e
  have a := Option.some.inj (x1.symm.trans z1)
  have b := Option.some.inj (y1.symm.trans z2)
  injection a with a1 a2
  injection b with b1 b2
  subst a2; subst b2
  exact ⟨v, σ2, s2, x1, y1, z3⟩
