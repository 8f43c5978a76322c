theorem nI_b {v : Int32} {b : Nat} (h : v.toInt = b) : v.toNatClampNeg = b := by
  have := clamp_I (x := v) (by omega)
  omega
noncomputable def RCm (σ s : Sto) (x : Int32) : Nat := if (s.1 74 0).toInt = -1 then (201 - (s.1 73 0).toInt).toNat * 100 + (if bgP (dP σ) (cT σ) x.toNatClampNeg = true then 0 else 42 - x.toInt.toNat) else 0
theorem s_runsCode {σ s : Sto} (hB : BM s) (hF : FR (73 :: 77 :: RCN) [] σ s) (h71 : (s.1 71 0).toInt = 0) (h73 : (s.1 73 0).toInt = 0) (L : LAID σ) : OK (f_X12_runsCode s) (fun t => BM t ∧ FR (73 :: RCN) [] s t) := by
  have k_0 : (0 : Int32).toInt = 0 := by decide +kernel
  have k_m1 : ((-1) : Int32).toInt = -1 := by decide +kernel
  have z0 : (0 : Int32).toNatClampNeg = 0 := by have := clamp_I (x := 0) (by omega); omega
  have hs := L.1
  have hQ := L.2.1
  have hK := L.2.2.1
  have nc := nC_le hs
  have c1 : 1 ≤ nC σ := by have := hQ.1; omega
  have g77 := gM_77 hB 0
  unfold f_X12_runsCode
  refine ok_lt fun s1 e1 => ?_
  have b1 : BM s1 := by rw [e1]; exact pM_81 hB (by omega)
  refine ok_lt fun s2 e2 => ?_
  have b2 : BM s2 := by rw [e2]; exact pM_78 b1 (by omega)
  have f2 : FR (73 :: RCN) [] s s2 := by
    rw [e2]; refine FR.st ?_ (by decide)
    rw [e1]; exact FR.st FR.rf (by decide)
  have F2 : FR (73 :: 77 :: RCN) [] σ s2 := FR.cal hF f2 rfl rfl
  have d0 := hQ.d0
  have bg0 : bgP (dP σ) (cT σ) 0 = true := bgP_t.mpr ⟨by rw [d0]; decide, Or.inr rfl⟩
  refine ok_itr2 (fun n x u => n = RCm σ u x ∧ BM u ∧ FR (73 :: RCN) [] s u ∧ (u.1 73 0).toInt ≤ (u.1 77 0).toInt ∧ ((u.1 74 0).toInt = -1 → 0 ≤ x.toInt ∧ x.toNatClampNeg < nC σ ∧ dP σ x.toNatClampNeg ≠ -1 ∧ (u.1 81 0).toInt = dP σ x.toNatClampNeg ∧ (u.1 78 0).toInt = 0 ∧ ((bgP (dP σ) (cT σ) x.toNatClampNeg = true ∧ (u.1 71 0).toInt ≤ 40 * (u.1 73 0).toInt) ∨ (bgP (dP σ) (cT σ) x.toNatClampNeg = false ∧ (u.1 71 0).toInt + 40 + (σ.1 22 (σ.1 24 x.toNatClampNeg).toNatClampNeg).toInt ≤ 40 * (u.1 73 0).toInt + x.toInt)))) ?_ (n := RCm σ s2 0) ⟨rfl, b2, f2, ?_, fun _ => ⟨by omega, by omega, by rw [z0, d0]; decide, by rw [z0, d0, e2, sti_o (by decide), e1, sti_if, if_pos rfl]; exact k_0, by rw [e2, sti_if, if_pos rfl]; exact k_0, Or.inl ⟨by rw [z0]; exact bg0, ?_⟩⟩⟩ ?_
  rotate_left
  · rw [e2, sti_o (by decide), sti_o (by decide), e1, sti_o (by decide), sti_o (by decide), h73]; omega
  · rw [e2, sti_o (by decide), sti_o (by decide), e1, sti_o (by decide), sti_o (by decide), h73, h71]; decide
  · have e73 : (s2.1 73 0).toInt = 0 := by rw [e2, sti_o (by decide), e1, sti_o (by decide)]; exact h73
    unfold RCm
    rw [e73]
    by_cases q : (s2.1 74 0).toInt = -1
    · rw [if_pos q]
      by_cases r : bgP (dP σ) (cT σ) (0 : Int32).toNatClampNeg = true
      · rw [if_pos r]; decide
      · rw [if_neg r]; unfold LF; omega
    · rw [if_neg q]; decide
  · intro ag n x u I ih
    obtain ⟨hn, u1, u2, u3, u4⟩ := I
    refine ok_ite (fun c => ?_) (fun c => ok_ret ⟨u1, u2⟩)
    rw [fa_eq, k_m1] at c
    obtain ⟨x0, xn, xd, x81, x78, xo⟩ := u4 c
    have cx := clamp_I x0
    have xi : 0 ≤ x.toInt ∧ x.toInt < 40 := by omega
    have Fu : FR (73 :: 77 :: RCN) [] σ u := FR.cal hF u2 rfl rfl
    obtain ⟨b, p1, p2, p3, p4⟩ := of_bg hs hQ hK xn xd
    have nb := nB_le hs
    have g22 := gM_22 hs b
    have cb : (σ.1 24 x.toNatClampNeg).toNatClampNeg = b := nI_b p2
    have fle : (σ.1 22 b).toInt ≤ x.toInt := by unfold fiR at p3; omega
    rw [cb] at xo
    refine ok_ix xi ?_
    rw [Fu.1 24 (by decide)]
    refine ok_lt fun v5 e5 => ?_
    refine ok_ix (by rw [e5]; omega) ?_
    rw [Fu.1 22 (by decide)]
    refine ok_lt fun v6 e6 => ?_
    rw [e5, cb] at e6
    have g73 := gM_73 u1 0
    have g77u := gM_77 u1 0
    -- behind the entering
    have npos : 100 ≤ n := by
      rw [hn]; unfold RCm
      rw [if_pos c]
      omega
    have bgx : (σ.1 22 b).toInt = x.toInt ↔ bgP (dP σ) (cT σ) x.toNatClampNeg = true := by rw [p4, cx]
    refine ok_jnI1 (fun w => BM w ∧ FR (73 :: RCN) [] s w ∧ (w.1 73 0).toInt ≤ (w.1 77 0).toInt ∧ ((w.1 74 0).toInt ≠ -1 ∨ (w.1 81 = u.1 81 ∧ w.1 78 = u.1 78 ∧ (w.1 71 0).toInt + 40 + (σ.1 22 b).toInt ≤ 40 * (w.1 73 0).toInt + x.toInt ∧ ((bgP (dP σ) (cT σ) x.toNatClampNeg = true ∧ (w.1 73 0).toInt = (u.1 73 0).toInt + 1) ∨ (bgP (dP σ) (cT σ) x.toNatClampNeg = false ∧ (w.1 73 0).toInt = (u.1 73 0).toInt))))) (fun w hw => ?_) (fun k hk => ?_)
    · obtain ⟨w1, w2, w3, w4⟩ := hw
      have w73 := gM_73 w1 0
      have w77 := gM_77 w1 0
      refine ok_ite (fun c2 => ?_) (fun c2 => ?_)
      · rw [fa_eq, k_m1] at c2
        obtain ⟨w5, w6, w7, w8⟩ := w4.resolve_left (fun z => z c2)
        have Fw : FR (73 :: 77 :: RCN) [] σ w := FR.cal hF w2 rfl rfl
        refine ok_calv (s_next w1 Fw hs hQ x0 xn xd (by rw [w5]; exact x81) (by rw [w6]; exact x78) c2 (by omega)) (fun v9 s9 q => ?_)
        obtain ⟨q1, q2, q3, q4⟩ := q
        (try dsimp only at q1 q2 q3 q4)
        have e73 : s9.1 73 = w.1 73 := q2.1 73 (by decide)
        have e77 : s9.1 77 = w.1 77 := q2.1 77 (by decide)
        have F9 : FR (73 :: RCN) [] s s9 := FR.cal w2 q2 rfl rfl
        rcases q4 with z | ⟨z1, z2, z3, z4⟩
        · exact ih 0 v9 s9 (by omega) ⟨by unfold RCm; rw [if_neg z], q1, F9, by rw [e73, e77]; exact w3, fun y => absurd y z⟩
        · obtain ⟨t0, tn, td, tc⟩ := z3
          have ct := clamp_I t0
          have tdn : dP σ v9.toNatClampNeg ≠ -1 := by rw [td]; omega
          have tt : bgP (dP σ) (cT σ) v9.toNatClampNeg ≠ true → v9.toNatClampNeg = x.toNatClampNeg + 1 := fun r => by
            rcases tc with y | y
            · exact absurd (bgP_t.mpr ⟨tdn, Or.inl y⟩) r
            · exact y
          refine ih (RCm σ s9 v9) v9 s9 ?_ ⟨rfl, q1, F9, by rw [e73, e77]; exact w3, fun _ => ⟨t0, tn, tdn, td.symm, z2, ?_⟩⟩
          · rw [hn]; unfold RCm
            rw [if_pos z1, if_pos c, e73]
            rcases w8 with ⟨r2, y⟩ | ⟨r2, y⟩
            · rw [if_pos r2]
              by_cases r : bgP (dP σ) (cT σ) v9.toNatClampNeg = true
              · rw [if_pos r]; omega
              · rw [if_neg r]; omega
            · have r3 : ¬ bgP (dP σ) (cT σ) x.toNatClampNeg = true := by rw [r2]; decide
              rw [if_neg r3, y]
              by_cases r : bgP (dP σ) (cT σ) v9.toNatClampNeg = true
              · rw [if_pos r]; omega
              · have := tt r
                rw [if_neg r]; omega
          · by_cases r : bgP (dP σ) (cT σ) v9.toNatClampNeg = true
            · exact Or.inl ⟨r, by rw [e73]; omega⟩
            · have rf : bgP (dP σ) (cT σ) v9.toNatClampNeg = false := bf r
              have nc9 := tt r
              rw [nc9] at rf tn tdn ⊢
              have nx := of_nx hK tn xd tdn rf
              have : (σ.1 24 (x.toNatClampNeg + 1)).toNatClampNeg = b := nI_b (by rw [nx]; exact p2)
              rw [this]
              exact Or.inr ⟨rf, by rw [e73]; omega⟩
      · rw [fa_eq, k_m1] at c2
        exact ih 0 x w (by omega) ⟨by unfold RCm; rw [if_neg c2], w1, w2, w3, fun y => absurd y c2⟩
    · refine ok_ite (fun c3 => ?_) (fun c3 => ?_)
      · rw [fa_eq, e6, bgx] at c3
        have fx := bgx.mpr c3
        refine ok_cals (s_enters u1 u3) (fun s11 q => ?_)
        obtain ⟨q1, q2, q3⟩ := q
        have F11 : FR (73 :: RCN) [] s s11 := FR.cal u2 q2 rfl rfl
        have e77 : s11.1 77 = u.1 77 := q2.1 77 (by decide)
        refine hk s11 ⟨q1, F11, ?_, ?_⟩
        · rcases q3 with ⟨_, z⟩ | ⟨_, _, z⟩
          · rw [e77, z]; exact u3
          · rw [e77]; exact z
        · rcases q3 with ⟨z, _⟩ | ⟨_, z, _⟩
          · exact Or.inl (by omega)
          · refine Or.inr ⟨q2.1 81 (by decide), q2.1 78 (by decide), ?_, Or.inl ⟨c3, z⟩⟩
            rw [q2.1 71 (by decide)]
            rcases xo with ⟨_, y⟩ | ⟨y, _⟩
            · omega
            · rw [c3] at y; exact absurd y (by decide)
      · rw [fa_eq, e6, bgx] at c3
        refine hk u ⟨u1, u2, u3, Or.inr ⟨rfl, rfl, ?_, Or.inr ⟨bf c3, rfl⟩⟩⟩
        rcases xo with ⟨y, _⟩ | ⟨_, y⟩
        · exact absurd y c3
        · exact y
theorem sd_valueOf : ∀ (d z : Nat) (e : Int32) (s : Sto), BM s → 0 ≤ e.toInt → TZ (s.1 38) (s.1 39) (s.1 40) (s.1 41 0).toInt d z e.toNatClampNeg → OK (f_X12_valueOf d e s) (fun r => BM r.2 ∧ FR [72, 76, 78, 79] [] s r.2) := by
  intro d
  induction d with
  | zero => intro z e s _ _ h; exact absurd h (fun z => z)
  | succ d ih =>
    intro z e s hB e0 h
    have g41 := gM_41 hB 0
    have hl := h.lt
    have ce := clamp_I e0
    have ei : 0 ≤ e.toInt ∧ e.toInt < 6000 := ⟨e0, by omega⟩
    obtain ⟨-, z1, h3⟩ := h
    have a1 := gM_39 hB e.toNatClampNeg
    have a2 := gM_40 hB e.toNatClampNeg
    have a3 := gM_38 hB e.toNatClampNeg
    have leaf : (s.1 38 e.toNatClampNeg).toInt ≤ 4 → LFB (s.1 38 e.toNatClampNeg).toInt (s.1 39 e.toNatClampNeg).toInt := fun c => by
      rcases h3 with ⟨-, h3⟩ | ⟨h3, -⟩ | ⟨h3, -⟩
      · exact h3
      · omega
      · omega
    have D : ∀ v : Int32, OK (some (v, s)) (fun r => BM r.2 ∧ FR [72, 76, 78, 79] [] s r.2) := fun v => ok_ret ⟨hB, FR.rf⟩
    show OK (b_X12_valueOf (f_X12_valueOf d) e s) _
    unfold b_X12_valueOf
    refine ok_ix ei ?_
    refine ok_lt fun v1 e1 => ?_
    subst e1
    refine ok_ite (fun c => ok_ix ei (ok_lt fun v3 _ => D _)) (fun c0 => ?_)
    refine ok_ite (fun c => ?_) (fun c1 => ?_)
    · have := (leaf (by omega)).2.1 c
      refine ok_ix ei (ok_lt fun v4 e4 => ?_)
      exact ok_ix (by rw [e4]; omega) (ok_lt fun v5 _ => D _)
    refine ok_ite (fun c => ?_) (fun c2 => ?_)
    · have := (leaf (by omega)).2.2.1 c
      refine ok_ix ei (ok_lt fun v4 e4 => ?_)
      exact ok_ix (by rw [e4]; omega) (ok_lt fun v5 _ => D _)
    refine ok_ite (fun c => ?_) (fun c3 => ?_)
    · have := (leaf (by omega)).2.2.2 c
      refine ok_ix ei (ok_lt fun v4 e4 => ?_)
      exact ok_ix (by rw [e4]; omega) (ok_lt fun v5 _ => D _)
    refine ok_ite (fun c => ?_) (fun c4 => ?_)
    · exact ok_calv (s_input hB) (fun v10 s10 q => ok_ret ⟨q.1, FR.cal FR.rf q.2 rfl rfl⟩)
    have one : ((s.1 38 e.toNatClampNeg).toInt = 5 ∨ (s.1 38 e.toNatClampNeg).toInt = 6) → OK (f_X12_valueOf d (s.1 39 e.toNatClampNeg) s) (fun r => BM r.2 ∧ FR [72, 76, 78, 79] [] s r.2) := fun c => by
      rcases h3 with ⟨h3, -⟩ | ⟨-, h4⟩ | ⟨h3, -⟩
      · omega
      · exact ih (z - 1) _ s hB a1.1 h4
      · omega
    refine ok_ite (fun c => ?_) (fun c5 => ?_)
    · refine ok_ix ei (ok_lt fun v11 e11 => ?_)
      subst e11
      refine ok_calv (one (Or.inl c)) (fun v12 s12 q => ?_)
      exact ok_ite (fun _ => ok_ret q) (fun _ => ok_ret q)
    refine ok_ite (fun c => ?_) (fun c6 => ?_)
    · refine ok_ix ei (ok_lt fun v11 e11 => ?_)
      subst e11
      exact ok_calv (one (Or.inr c)) (fun v12 s12 q => ok_ret q)
    rcases h3 with ⟨h3, -⟩ | ⟨h3, -⟩ | ⟨h3, p, q, hz, h4, h5⟩
    · omega
    · omega
    · refine ok_ix ei (ok_lt fun v16 e16 => ?_)
      subst e16
      refine ok_calv (ih p _ s hB a1.1 h4) (fun v17 s17 q17 => ?_)
      obtain ⟨u1, u2⟩ := q17
      (try dsimp only at u1 u2)
      refine ok_ite (fun _ => ?_) (fun _ => ok_ret ⟨u1, u2⟩)
      refine ok_ix ei ?_
      rw [u2.1 40 (by decide)]
      refine ok_lt fun v19 e19 => ?_
      subst e19
      refine ok_calv (ih q _ s17 u1 a2.1 (by rw [u2.1 38 (by decide), u2.1 39 (by decide), u2.1 40 (by decide), u2.1 41 (by decide)]; exact h5)) (fun v20 s20 q20 => ?_)
      obtain ⟨w1, w2⟩ := q20
      (try dsimp only at w1 w2)
      have f20 := FR.cal (ms := [72, 76, 78, 79]) u2 w2 rfl rfl
      refine ok_ite (fun _ => ?_) (fun _ => ok_ret ⟨w1, f20⟩)
      refine ok_ix ei (ok_lt fun v22 _ => ?_)
      exact ok_calv (s_result w1) (fun v23 s23 q23 => ok_ret ⟨q23.1, FR.cal f20 q23.2.1 rfl rfl⟩)
theorem s_endOf {s : Sto} {x1 x2 : Int32} (hB : BM s) (h : ∃ j, EN s x1.toInt x2.toInt j) : OK (f_X12_endOf x1 x2 s) (fun v => 0 ≤ v.toInt ∧ v.toInt < 1400 ∧ EN s x1.toInt x2.toInt v.toNatClampNeg) := by
  have k_0 : (0 : Int32).toInt = 0 := by decide +kernel
  have k_5 : (5 : Int32).toInt = 5 := by decide +kernel
  have hl := nL_le hB
  have g62 := gM_62 hB 0
  obtain ⟨j, h1, h2, h3, h4⟩ := h
  unfold f_X12_endOf
  refine ok_itr1 (fun n i => n = (1401 - i.toInt).toNat ∧ 0 ≤ i.toInt ∧ i.toInt ≤ (j : Int)) ?_ (n := (1401 - (0 : Int32).toInt).toNat) ⟨rfl, by omega, by omega⟩ (by rw [k_0]; decide)
  intro ag n i I ih
  obtain ⟨hn, i0, ij⟩ := I
  have ci := clamp_I i0
  have ii : 0 ≤ i.toInt ∧ i.toInt < 1400 := by omega
  have skip : ¬ EN s x1.toInt x2.toInt i.toNatClampNeg → OK (lt (i + 1) fun x3_4 => ag x3_4) _ := fun q => ok_lt fun x4 e4 => by
    have e : x4.toInt = i.toInt + 1 := by rw [e4]; exact i1 (by omega)
    have ne : i.toNatClampNeg ≠ j := fun z => q (by rw [z]; exact ⟨h1, h2, h3, h4⟩)
    exact ih (1401 - x4.toInt).toNat x4 (by omega) ⟨rfl, by omega, by omega⟩
  refine ok_ix ii (ok_lt fun v2 e2 => ?_)
  refine ok_jn ?_
  refine ok_ite (fun c1 => ?_) (fun c1 => skip (fun q => c1 (by rw [fa_eq, k_5, e2]; exact q.2.1)))
  rw [fa_eq, k_5, e2] at c1
  refine ok_ix ii (ok_lt fun v6 e6 => ?_)
  refine ok_ite (fun c2 => ?_) (fun c2 => skip (fun q => c2 (by rw [fa_eq, e6]; exact q.2.2.1)))
  rw [fa_eq, e6] at c2
  refine ok_ix ii (ok_lt fun v8 e8 => ?_)
  refine ok_ite (fun c3 => ?_) (fun c3 => skip (fun q => c3 (by rw [fa_eq, e8]; exact q.2.2.2)))
  rw [fa_eq, e8] at c3
  exact ok_ret ⟨i0, ii.2, by omega, c1, c2, c3⟩
theorem s_lineWith {s : Sto} {x1 x2 : Int32} (hB : BM s) (h : ∃ j, LWj s x1.toInt x2.toInt j) : OK (f_X12_lineWith x1 x2 s) (fun v => 0 ≤ v.toInt ∧ v.toInt < 1400 ∧ LWj s x1.toInt x2.toInt v.toNatClampNeg) := by
  have k_0 : (0 : Int32).toInt = 0 := by decide +kernel
  have hl := nL_le hB
  have g62 := gM_62 hB 0
  obtain ⟨j, h1, h2, h3⟩ := h
  unfold f_X12_lineWith
  refine ok_itr1 (fun n i => n = (1401 - i.toInt).toNat ∧ 0 ≤ i.toInt ∧ i.toInt ≤ (j : Int)) ?_ (n := (1401 - (0 : Int32).toInt).toNat) ⟨rfl, by omega, by omega⟩ (by rw [k_0]; decide)
  intro ag n i I ih
  obtain ⟨hn, i0, ij⟩ := I
  have ci := clamp_I i0
  have ii : 0 ≤ i.toInt ∧ i.toInt < 1400 := by omega
  have skip : ¬ LWj s x1.toInt x2.toInt i.toNatClampNeg → OK (lt (i + 1) fun x3_4 => ag x3_4) _ := fun q => ok_lt fun x4 e4 => by
    have e : x4.toInt = i.toInt + 1 := by rw [e4]; exact i1 (by omega)
    have ne : i.toNatClampNeg ≠ j := fun z => q (by rw [z]; exact ⟨h1, h2, h3⟩)
    exact ih (1401 - x4.toInt).toNat x4 (by omega) ⟨rfl, by omega, by omega⟩
  refine ok_ix ii (ok_lt fun v2 e2 => ?_)
  refine ok_jn ?_
  refine ok_ite (fun c1 => ?_) (fun c1 => skip (fun q => c1 (by rw [fa_eq, e2]; exact q.2.1)))
  rw [fa_eq, e2] at c1
  refine ok_ix ii (ok_lt fun v6 e6 => ?_)
  refine ok_ite (fun c2 => ?_) (fun c2 => skip (fun q => c2 (by rw [fa_eq, e6]; exact q.2.2)))
  rw [fa_eq, e6] at c2
  exact ok_ret ⟨i0, ii.2, by omega, c1, c2⟩
/-- behind the first ELSE or END of a choice -/
theorem s_otherwiseOf {s : Sto} {x : Int32} {j : Nat} (hB : BM s) (h0 : ∃ q, LWj s 3 x.toInt q) (h1 : ∀ q, LWj s 3 x.toInt q → q < j ∧ ∀ i, q < i → i < j → ¬ (LWj s 4 x.toInt i ∨ EN s 3 x.toInt i)) (h2 : LWj s 4 x.toInt j ∨ EN s 3 x.toInt j) : OK (f_X12_otherwiseOf x s) (fun v => v.toInt = (j : Int) + 1) := by
  have k_3 : (3 : Int32).toInt = 3 := by decide +kernel
  have k_4 : (4 : Int32).toInt = 4 := by decide +kernel
  have k_5 : (5 : Int32).toInt = 5 := by decide +kernel
  have hl := nL_le hB
  have g62 := gM_62 hB 0
  have jl : j < nL s := by
    rcases h2 with z | z
    · exact z.1
    · exact z.1
  unfold f_X12_otherwiseOf
  refine ok_calp (s_lineWith (x1 := 3) (x2 := x) hB (by rw [k_3]; exact h0)) (fun v1 q => ?_)
  rw [k_3] at q
  obtain ⟨q0, q1, q2⟩ := q
  obtain ⟨p1, p2⟩ := h1 _ q2
  have cv := clamp_I q0
  refine ok_lt fun x2 e2 => ?_
  have ex2 : x2.toInt = v1.toInt + 1 := by rw [e2]; exact i1 (by omega)
  refine ok_itr1 (fun n i => n = (1401 - i.toInt).toNat ∧ v1.toInt < i.toInt ∧ i.toInt ≤ (j : Int)) ?_ (n := (1401 - x2.toInt).toNat) ⟨rfl, by omega, by omega⟩ (by unfold LF; omega)
  intro ag n i I ih
  obtain ⟨hn, i0, ij⟩ := I
  have ci := clamp_I (x := i) (by omega)
  have ii : 0 ≤ i.toInt ∧ i.toInt < 1400 := by omega
  have skip : ¬ (LWj s 4 x.toInt i.toNatClampNeg ∨ EN s 3 x.toInt i.toNatClampNeg) → OK (lt (i + 1) fun x3_4 => ag x3_4) (fun v => v.toInt = (j : Int) + 1) := fun q => ok_lt fun x4 e4 => by
    have e : x4.toInt = i.toInt + 1 := by rw [e4]; exact i1 (by omega)
    have ne : i.toNatClampNeg ≠ j := fun z => q (by rw [z]; exact h2)
    exact ih (1401 - x4.toInt).toNat x4 (by omega) ⟨rfl, by omega, by omega⟩
  have found : (LWj s 4 x.toInt i.toNatClampNeg ∨ EN s 3 x.toInt i.toNatClampNeg) → OK (some (i + 1)) (fun v => v.toInt = (j : Int) + 1) := fun q => by
    have ne : ¬ i.toNatClampNeg < j := fun z => p2 _ (by omega) z q
    have e : (i + 1).toInt = i.toInt + 1 := i1 (by omega)
    exact ok_ret (by omega)
  refine ok_ix ii (ok_lt fun v4 e4 => ?_)
  refine ok_jnI0 (LWj s 4 x.toInt i.toNatClampNeg ∨ EN s 3 x.toInt i.toNatClampNeg) found (fun k1 hk1 => ?_)
  refine ok_jnI0 (¬ LWj s 4 x.toInt i.toNatClampNeg) (fun hn4 => ?_) (fun k2 hk2 => ?_)
  · refine ok_ix ii (ok_lt fun v7 e7 => ?_)
    refine ok_jnI0 (¬ EN s 3 x.toInt i.toNatClampNeg) (fun hn5 => skip (fun z => z.elim hn4 hn5)) (fun k3 hk3 => ?_)
    refine ok_ite (fun c1 => ?_) (fun c1 => hk3 (fun z => c1 (by rw [fa_eq, k_5, e7]; exact z.2.1)))
    rw [fa_eq, k_5, e7] at c1
    refine ok_ix ii (ok_lt fun v11 e11 => ?_)
    refine ok_ite (fun c2 => ?_) (fun c2 => hk3 (fun z => c2 (by rw [fa_eq, k_3, e11]; exact z.2.2.1)))
    rw [fa_eq, k_3, e11] at c2
    refine ok_ix ii (ok_lt fun v13 e13 => ?_)
    refine ok_ite (fun c3 => ?_) (fun c3 => hk3 (fun z => c3 (by rw [fa_eq, e13]; exact z.2.2.2)))
    rw [fa_eq, e13] at c3
    exact hk1 (Or.inr ⟨by omega, c1, c2, c3⟩)
  · refine ok_ite (fun c1 => ?_) (fun c1 => hk2 (fun z => c1 (by rw [fa_eq, k_4, e4]; exact z.2.1)))
    rw [fa_eq, k_4, e4] at c1
    refine ok_ix ii (ok_lt fun v16 e16 => ?_)
    refine ok_ite (fun c2 => ?_) (fun c2 => hk2 (fun z => c2 (by rw [fa_eq, e16]; exact z.2.2)))
    rw [fa_eq, e16] at c2
    exact hk1 (Or.inl ⟨by omega, c1, c2⟩)
