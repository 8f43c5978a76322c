/-- the class spells a statement -/
theorem w_stat {σ : Sto} {n : Nat} {tr : Nat → Term} {x : Int32} {o : Option Term} (h : PLX σ n tr) (he : EXV (σ.1 55 x.toNatClampNeg) n tr o) (hs : ∀ t, o = some t → tSz t ≤ 60) (hw : WRX σ []) : PC (f_X6_writeStatement x σ) (fun s => FR [93, 94] [] σ s ∧ WRX s (ssp (σ.1 53 x.toNatClampNeg).toInt (σ.1 54 x.toNatClampNeg) o)) := by
  have k_m1 : ((-1) : Int32).toInt = -1 := by decide +kernel
  have k_0 : (0 : Int32).toInt = 0 := by decide +kernel
  unfold f_X6_writeStatement
  refine pc_ix (fun _ => ?_)
  refine pc_lt fun v1 e1 => ?_
  refine pc_ix (fun _ => ?_)
  refine pc_lt fun v2 e2 => ?_
  rw [← e1, ← e2]
  have hl := ssH_l v2.toInt v1
  have w14 : (wd 14 1).length = 1 := by decide +kernel
  have dl := dgs_l v1
  refine pc_jnI1 (fun u => FR [93, 94] [] σ u ∧ WRX u (ssH v2.toInt v1)) (fun u hu => ?_) (fun k hk => ?_)
  · obtain ⟨f, w⟩ := hu
    refine pc_ix (fun _ => ?_)
    rw [f.1 55 (by decide)]
    refine pc_lt fun v4 e4 => ?_
    have P := h.cg (fun k hk => f.1 k (by simp; omega))
    rw [← e4] at he
    refine pc_jnI1 (fun u2 => FR [93, 94] [] σ u2 ∧ WRX u2 (ssH v2.toInt v1 ++ opS o)) (fun u2 h2 => ?_) (fun k hk => ?_)
    · have lo : (opS o).length ≤ 240 := by
        cases o with
        | none => exact Nat.zero_le _
        | some t =>
          have a := spl_l t
          have b := hs t rfl
          show (spl t).length ≤ 240
          omega
      refine pc_cals (w_w7 h2.2 (by rw [List.length_append]; omega)) (fun s6 a6 => pc_ret ⟨FR.cal h2.1 a6.1 rfl rfl, ?_⟩)
      have q := a6.2
      rw [List.append_assoc] at q
      exact q
    · cases o with
      | none =>
        refine pc_ite (fun _ => hk u ⟨f, ?_⟩) (fun y => absurd (by rw [fa_eq, k_m1]; exact he.no) y)
        show WRX u (ssH v2.toInt v1 ++ [])
        rw [List.append_nil]
        exact w
      | some t =>
        have a := spl_l t
        have b := hs t rfl
        refine pc_ite (fun y => absurd y he.nm1) (fun _ => ?_)
        refine pc_ix (fun _ => ?_)
        rw [← e4]
        refine pc_lt fun v8 e8 => ?_
        subst e8
        exact pc_cals (w_exp 250 v8 0 u t (ssH v2.toInt v1) P he w (by omega) (by rw [k_0]; omega) (by omega)) (fun s9 a9 => hk s9 ⟨FR.cal f a9.1 rfl rfl, a9.2⟩)
  · refine pc_ite (fun c0 => ?_) (fun c0 => ?_)
    · refine pc_cals (w_sign hw (by simp)) (fun s11 a11 => ?_)
      refine pc_cals (w_w14 a11.2 (by simp)) (fun s12 a12 => hk s12 ⟨FR.cal a11.1 a12.1 rfl rfl, ?_⟩)
      unfold ssH
      rw [if_pos c0]
      exact a12.2
    refine pc_ite (fun c1 => ?_) (fun c1 => ?_)
    · refine pc_cals (w_name hw (by simp only [List.length_nil]; omega)) (fun s13 a13 => ?_)
      refine pc_cals (w_w14 a13.2 (by simp only [List.nil_append, List.length_cons]; omega)) (fun s14 a14 => hk s14 ⟨FR.cal a13.1 a14.1 rfl rfl, ?_⟩)
      unfold ssH
      rw [if_neg c0, if_pos c1]
      exact a14.2
    refine pc_ite (fun c2 => ?_) (fun c2 => ?_)
    · refine pc_cals (w_name hw (by simp only [List.length_nil]; omega)) (fun s15 a15 => ?_)
      refine pc_cals (w_w14 a15.2 (by simp only [List.nil_append, List.length_cons]; omega)) (fun s16 a16 => hk s16 ⟨FR.cal a15.1 a16.1 rfl rfl, ?_⟩)
      unfold ssH
      rw [if_neg c0, if_neg c1, if_pos c2]
      exact a16.2
    refine pc_ite (fun c3 => ?_) (fun c3 => ?_)
    · refine pc_cals (w_w15 hw (by simp)) (fun s17 a17 => hk s17 ⟨a17.1, ?_⟩)
      unfold ssH
      rw [if_neg c0, if_neg c1, if_neg c2, if_pos c3]
      exact a17.2
    refine pc_ite (fun c5 => ?_) (fun c5 => ?_)
    · refine pc_cals (w_w16 hw (by simp)) (fun s17 a17 => hk s17 ⟨a17.1, ?_⟩)
      unfold ssH
      rw [if_neg c0, if_neg c1, if_neg c2, if_neg c3, if_pos c5]
      exact a17.2
    refine pc_ite (fun c6 => ?_) (fun c6 => ?_)
    · refine pc_cals (w_w17 hw (by simp)) (fun s17 a17 => hk s17 ⟨a17.1, ?_⟩)
      unfold ssH
      rw [if_neg c0, if_neg c1, if_neg c2, if_neg c3, if_neg c5, if_pos c6]
      exact a17.2
    · refine hk σ ⟨FR.rf, ?_⟩
      unfold ssH
      rw [if_neg c0, if_neg c1, if_neg c2, if_neg c3, if_neg c5, if_neg c6]
      exact hw
/-- the class spells a line -/
theorem w_line {σ : Sto} {n : Nat} {tr : Nat → Term} {x : Int32} {c : List Int32} (h : PLX σ n tr) (h0 : (σ.1 69 x.toNatClampNeg).toInt = 0 → ∃ o, EXV (σ.1 55 (σ.1 72 x.toNatClampNeg).toNatClampNeg) n tr o ∧ (∀ t, o = some t → tSz t ≤ 60) ∧ c = ssp (σ.1 53 (σ.1 72 x.toNatClampNeg).toNatClampNeg).toInt (σ.1 54 (σ.1 72 x.toNatClampNeg).toNatClampNeg) o) (h3 : (σ.1 69 x.toNatClampNeg).toInt = 3 → ∃ t, EXV (σ.1 57 (σ.1 70 x.toNatClampNeg).toNatClampNeg) n tr (some t) ∧ tSz t ≤ 60 ∧ c = spl t) : PC (f_X6_widthOfLine x σ) (fun r => FR [93, 94] [] σ r.2 ∧ WRX r.2 (lsp (σ.1 69 x.toNatClampNeg).toInt (σ.1 70 x.toNatClampNeg) c) ∧ r.1.toInt = ((lsp (σ.1 69 x.toNatClampNeg).toInt (σ.1 70 x.toNatClampNeg) c).length : Int)) := by
  have k_0 : (0 : Int32).toInt = 0 := by decide +kernel
  unfold f_X6_widthOfLine
  refine pc_lt fun s1 e1 => ?_
  have f1 : FR [93, 94] [] σ s1 := by rw [e1]; exact FR.st FR.rf (by decide)
  have w1 : WRX s1 [] := ⟨by rw [e1, sti_s]; exact k_0, fun i hi => absurd hi (Nat.not_lt_zero _)⟩
  have P := h.cg (fun k hk => f1.1 k (by simp; omega))
  refine pc_ix (fun _ => ?_)
  rw [f1.1 70 (by decide)]
  refine pc_lt fun v2 e2 => ?_
  refine pc_ix (fun _ => ?_)
  rw [f1.1 69 (by decide)]
  refine pc_lt fun v3 e3 => ?_
  rw [← e2] at h3 ⊢
  rw [← e3] at h0 h3 ⊢
  refine pc_jnI1 (fun u => FR [93, 94] [] σ u ∧ WRX u (lsp v3.toInt v2 c)) (fun u hu => pc_ret ⟨hu.1, hu.2, hu.2.1⟩) (fun k hk => ?_)
  refine pc_ite (fun c0 => ?_) (fun c0 => ?_)
  · obtain ⟨o, q1, q2, q3⟩ := h0 c0
    refine pc_ix (fun _ => ?_)
    rw [f1.1 72 (by decide)]
    refine pc_lt fun v6 e6 => ?_
    rw [← e6] at q1 q3
    refine pc_cals (w_stat P (by rw [f1.1 55 (by decide)]; exact q1) q2 w1) (fun s7 a7 => hk s7 ⟨FR.cal f1 a7.1 rfl rfl, ?_⟩)
    unfold lsp
    rw [if_pos c0, q3]
    have q := a7.2
    rw [f1.1 53 (by decide), f1.1 54 (by decide)] at q
    exact q
  refine pc_ite (fun c1 => ?_) (fun c1 => ?_)
  · refine pc_cals (w_b1 w1 (by simp)) (fun s8 a8 => hk s8 ⟨FR.cal f1 a8.1 rfl rfl, ?_⟩)
    unfold lsp
    rw [if_neg c0, if_pos c1]
    exact a8.2
  refine pc_ite (fun c2 => ?_) (fun c2 => ?_)
  · refine pc_cals (w_b2 w1 (by simp)) (fun s8 a8 => hk s8 ⟨FR.cal f1 a8.1 rfl rfl, ?_⟩)
    unfold lsp
    rw [if_neg c0, if_neg c1, if_pos c2]
    exact a8.2
  refine pc_ite (fun c3 => ?_) (fun c3 => ?_)
  · obtain ⟨t, q1, q2, q3⟩ := h3 c3
    have sl := spl_l t
    have wl : (wd 3 3).length = 3 := by decide +kernel
    refine pc_cals (w_w3 w1 (by simp)) (fun s10 a10 => ?_)
    have f10 : FR [93, 94] [] σ s10 := FR.cal f1 a10.1 rfl rfl
    refine pc_ix (fun _ => ?_)
    rw [f10.1 57 (by decide)]
    refine pc_lt fun v11 e11 => ?_
    rw [← e11] at q1
    have P10 := h.cg (fun k hk => f10.1 k (by simp; omega))
    refine pc_cals (w_exp 250 v11 0 s10 t _ P10 q1 a10.2 (by omega) (by rw [k_0]; omega) (by rw [List.nil_append]; omega)) (fun s12 a12 => ?_)
    refine pc_cals (w_w1 a12.2 (by rw [List.nil_append, List.length_append]; omega)) (fun s13 a13 => hk s13 ⟨FR.cal (FR.cal f10 a12.1 rfl rfl) a13.1 rfl rfl, ?_⟩)
    unfold lsp
    rw [if_neg c0, if_neg c1, if_neg c2, if_pos c3, q3]
    have q := a13.2
    rw [List.append_assoc] at q
    exact q
  refine pc_ite (fun c4 => ?_) (fun c4 => ?_)
  · refine pc_cals (w_w4 w1 (by simp)) (fun s8 a8 => hk s8 ⟨FR.cal f1 a8.1 rfl rfl, ?_⟩)
    unfold lsp
    rw [if_neg c0, if_neg c1, if_neg c2, if_neg c3, if_pos c4]
    exact a8.2
  refine pc_ite (fun c5 => ?_) (fun c5 => ?_)
  · refine pc_cals (w_w5 w1 (by simp)) (fun s8 a8 => hk s8 ⟨FR.cal f1 a8.1 rfl rfl, ?_⟩)
    unfold lsp
    rw [if_neg c0, if_neg c1, if_neg c2, if_neg c3, if_neg c4, if_pos c5]
    exact a8.2
  refine pc_ite (fun c6 => ?_) (fun c6 => ?_)
  · refine pc_cals (w_b6 w1 (by simp)) (fun s8 a8 => hk s8 ⟨FR.cal f1 a8.1 rfl rfl, ?_⟩)
    unfold lsp
    rw [if_neg c0, if_neg c1, if_neg c2, if_neg c3, if_neg c4, if_neg c5, if_pos c6]
    exact a8.2
  refine pc_ite (fun c7 => ?_) (fun c7 => ?_)
  · refine pc_cals (w_b7 w1 (by simp)) (fun s8 a8 => hk s8 ⟨FR.cal f1 a8.1 rfl rfl, ?_⟩)
    unfold lsp
    rw [if_neg c0, if_neg c1, if_neg c2, if_neg c3, if_neg c4, if_neg c5, if_neg c6, if_pos c7]
    exact a8.2
  refine pc_ite (fun c8 => ?_) (fun c8 => ?_)
  · refine pc_cals (w_b8 w1 (by simp)) (fun s8 a8 => hk s8 ⟨FR.cal f1 a8.1 rfl rfl, ?_⟩)
    unfold lsp
    rw [if_neg c0, if_neg c1, if_neg c2, if_neg c3, if_neg c4, if_neg c5, if_neg c6, if_neg c7, if_pos c8]
    exact a8.2
  refine pc_ite (fun c9 => ?_) (fun c9 => ?_)
  · refine pc_cals (w_w10 w1 (by simp)) (fun s8 a8 => hk s8 ⟨FR.cal f1 a8.1 rfl rfl, ?_⟩)
    unfold lsp
    rw [if_neg c0, if_neg c1, if_neg c2, if_neg c3, if_neg c4, if_neg c5, if_neg c6, if_neg c7, if_neg c8, if_pos c9]
    exact a8.2
  refine pc_ite (fun c10 => ?_) (fun c10 => ?_)
  · refine pc_cals (w_b10 w1 (by simp)) (fun s8 a8 => hk s8 ⟨FR.cal f1 a8.1 rfl rfl, ?_⟩)
    unfold lsp
    rw [if_neg c0, if_neg c1, if_neg c2, if_neg c3, if_neg c4, if_neg c5, if_neg c6, if_neg c7, if_neg c8, if_neg c9, if_pos c10]
    exact a8.2
  · refine pc_cals (w_b11 w1 (by simp)) (fun s8 a8 => hk s8 ⟨FR.cal f1 a8.1 rfl rfl, ?_⟩)
    unfold lsp
    rw [if_neg c0, if_neg c1, if_neg c2, if_neg c3, if_neg c4, if_neg c5, if_neg c6, if_neg c7, if_neg c8, if_neg c9, if_neg c10]
    exact a8.2
