/-- the reference spells a statement -/
theorem v_stat {s : Sto} {n : Nat} {tr : Nat → Term} {x : Int32} {o : Option Term} (hB : BM s) (h : PLM s n tr) (he : EXV (s.1 44 x.toNatClampNeg) n tr o) (hs : ∀ t, o = some t → tN t) (hw : WRM s []) : PC (f_X12_spellsStatement x s) (fun u => FR [65, 66] [] s u ∧ WRM u (ssp (s.1 42 x.toNatClampNeg).toInt (s.1 43 x.toNatClampNeg) o)) := by
  have k_m1 : ((-1) : Int32).toInt = -1 := by decide +kernel
  have k_3 : (3 : Int32).toInt = 3 := by decide +kernel
  have e7 : wd 7 1 = [59] := by decide +kernel
  have e14 : wd 14 1 = [61] := by decide +kernel
  have e15 : wd 15 4 = wd 111 4 := by decide +kernel
  have e16 : wd 16 6 = wd 112 6 := by decide +kernel
  have e17 : wd 17 6 = wd 113 6 := by decide +kernel
  have g42 := gM_42 hB x.toNatClampNeg
  have g43 := gM_43 hB x.toNatClampNeg
  unfold f_X12_spellsStatement
  refine pc_ix (fun _ => ?_)
  refine pc_lt fun v1 e1 => ?_
  rw [← e1] at g42 ⊢
  -- what stands ahead of the sign =
  refine pc_jnI1 (fun u => FR [65, 66] [] s u ∧ ((v1.toInt < 3 → ∃ l, WRM u l ∧ ssH v1.toInt (s.1 43 x.toNatClampNeg) = l ++ [61]) ∧ (3 ≤ v1.toInt → WRM u (ssH v1.toInt (s.1 43 x.toNatClampNeg))))) (fun u hu => ?_) (fun k hk => ?_)
  · obtain ⟨f, a1, a2⟩ := hu
    refine pc_ix (fun _ => ?_)
    rw [f.1 42 (by decide), ← e1]
    refine pc_lt fun v3 e3 => ?_
    subst e3
    refine pc_jnI1 (fun u => FR [65, 66] [] s u ∧ WRM u (ssH v3.toInt (s.1 43 x.toNatClampNeg))) (fun u4 hu4 => ?_) (fun k hk => ?_)
    · obtain ⟨f4, w4⟩ := hu4
      refine pc_ix (fun _ => ?_)
      rw [f4.1 44 (by decide)]
      refine pc_lt fun v5 e5 => ?_
      rw [← e5] at he
      have P := h.cg (fun k hk => f4.1 k (by simp; omega))
      refine pc_jnI1 (fun u => FR [65, 66] [] s u ∧ WRM u (ssH v3.toInt (s.1 43 x.toNatClampNeg) ++ opS o)) (fun u6 hu6 => ?_) (fun k hk => ?_)
      · refine pc_cals (v_sign hu6.2) (fun s7 a7 => pc_ret ⟨FR.cal hu6.1 a7.1 rfl rfl, ?_⟩)
        unfold ssp
        rw [e7, ← List.append_assoc]
        exact a7.2
      · cases o with
        | none =>
          refine pc_ite (fun _ => hk u4 ⟨f4, ?_⟩) (fun y => absurd (by rw [fa_eq, k_m1]; exact he.no) y)
          show WRM u4 (ssH v3.toInt (s.1 43 x.toNatClampNeg) ++ [])
          rw [List.append_nil]
          exact w4
        | some t =>
          refine pc_ite (fun y => absurd y he.nm1) (fun _ => ?_)
          refine pc_ix (fun _ => ?_)
          rw [← e5]
          refine pc_lt fun v9 e9 => ?_
          subst e9
          exact pc_cals (v_exp 250 v9 u4 t _ P he (hs t rfl) w4) (fun s10 a10 => hk s10 ⟨FR.cal f4 a10.1 rfl rfl, a10.2⟩)
    · refine pc_ite (fun c => hk u ⟨f, a2 (by rw [fa_le, k_3] at c; exact c)⟩) (fun c => ?_)
      rw [fa_le, k_3] at c
      obtain ⟨l, l1, l2⟩ := a1 (by omega)
      refine pc_cals (v_sign l1) (fun s12 a12 => hk s12 ⟨FR.cal f a12.1 rfl rfl, ?_⟩)
      rw [l2]
      exact a12.2
  · refine pc_ite (fun c0 => ?_) (fun c0 => ?_)
    · refine pc_ix (fun _ => ?_)
      refine pc_lt fun v14 e14_ => ?_
      rw [← e14_] at hk ⊢
      refine pc_cals (v_sign hw) (fun s15 a15 => hk s15 ⟨a15.1, fun _ => ⟨_, a15.2, ?_⟩, fun z => by omega⟩)
      unfold ssH
      rw [if_pos c0, e14]
      rfl
    refine pc_ite (fun c1 => ?_) (fun c1 => ?_)
    · refine pc_ix (fun _ => ?_)
      refine pc_lt fun v16 e16_ => ?_
      rw [← e16_] at hk g43 ⊢
      refine pc_cals (v_name2 hw (by omega)) (fun s17 a17 => hk s17 ⟨a17.1, fun _ => ⟨_, a17.2, ?_⟩, fun z => by omega⟩)
      unfold ssH
      rw [if_neg c0, if_pos c1, e14]
      rfl
    refine pc_ite (fun c2 => ?_) (fun c2 => ?_)
    · refine pc_ix (fun _ => ?_)
      refine pc_lt fun v18 e18_ => ?_
      rw [← e18_] at hk g43 ⊢
      refine pc_cals (v_name2 hw (by omega)) (fun s19 a19 => hk s19 ⟨a19.1, fun _ => ⟨_, a19.2, ?_⟩, fun z => by omega⟩)
      unfold ssH
      rw [if_neg c0, if_neg c1, if_pos c2, e14]
      rfl
    refine pc_ite (fun c3 => ?_) (fun c3 => ?_)
    · refine pc_cals (v_w111 hw) (fun s20 a20 => hk s20 ⟨a20.1, fun z => by omega, fun _ => ?_⟩)
      unfold ssH
      rw [if_neg c0, if_neg c1, if_neg c2, if_pos c3, e15]
      exact a20.2
    refine pc_ite (fun c5 => ?_) (fun c5 => ?_)
    · refine pc_cals (v_w112 hw) (fun s20 a20 => hk s20 ⟨a20.1, fun z => by omega, fun _ => ?_⟩)
      unfold ssH
      rw [if_neg c0, if_neg c1, if_neg c2, if_neg c3, if_pos c5, e16]
      exact a20.2
    refine pc_ite (fun c6 => ?_) (fun c6 => ?_)
    · refine pc_cals (v_w113 hw) (fun s20 a20 => hk s20 ⟨a20.1, fun z => by omega, fun _ => ?_⟩)
      unfold ssH
      rw [if_neg c0, if_neg c1, if_neg c2, if_neg c3, if_neg c5, if_pos c6, e17]
      exact a20.2
    · refine hk s ⟨FR.rf, fun z => by omega, fun _ => ?_⟩
      unfold ssH
      rw [if_neg c0, if_neg c1, if_neg c2, if_neg c3, if_neg c5, if_neg c6]
      exact hw
/-- the reference spells a line -/
theorem v_line {s : Sto} {n : Nat} {tr : Nat → Term} {x : Int32} {c : List Int32} (hB : BM s) (h : PLM s n tr) (h0 : (s.1 58 x.toNatClampNeg).toInt = 0 → ∃ o, EXV (s.1 44 (s.1 61 x.toNatClampNeg).toNatClampNeg) n tr o ∧ (∀ t, o = some t → tN t) ∧ c = ssp (s.1 42 (s.1 61 x.toNatClampNeg).toNatClampNeg).toInt (s.1 43 (s.1 61 x.toNatClampNeg).toNatClampNeg) o) (h3 : (s.1 58 x.toNatClampNeg).toInt = 3 → ∃ t, EXV (s.1 46 (s.1 59 x.toNatClampNeg).toNatClampNeg) n tr (some t) ∧ tN t ∧ c = spl t) : PC (f_X12_spellsLine x s) (fun u => WRM u (lsp (s.1 58 x.toNatClampNeg).toInt (s.1 59 x.toNatClampNeg) c)) := by
  have k_0 : (0 : Int32).toInt = 0 := by decide +kernel
  have e1_ : wd 1 1 = [123] := by decide +kernel
  have e3_ : wd 3 3 = wd 116 3 := by decide +kernel
  have e4_ : wd 4 5 = wd 117 5 := by decide +kernel
  have e5_ : wd 5 1 = [125] := by decide +kernel
  have e10_ : wd 10 4 = wd 121 4 := by decide +kernel
  have g59 := gM_59 hB x.toNatClampNeg
  unfold f_X12_spellsLine
  refine pc_lt fun s1 e1 => ?_
  have f1 : FR [65, 66] [] s s1 := by rw [e1]; exact FR.st FR.rf (by decide)
  have B1 : BM s1 := by rw [e1]; exact pM_66 hB (by omega)
  have w1 : WRM s1 [] := ⟨by rw [e1, sti_s]; exact k_0, fun i hi => absurd hi (Nat.not_lt_zero _)⟩
  have P := h.cg (fun k hk => f1.1 k (by simp; omega))
  refine pc_ix (fun _ => ?_)
  rw [f1.1 59 (by decide)]
  refine pc_lt fun v2 e2 => ?_
  refine pc_ix (fun _ => ?_)
  rw [f1.1 58 (by decide)]
  refine pc_lt fun v3 e3 => ?_
  rw [← e2] at h3 g59 ⊢
  rw [← e3] at h0 h3 ⊢
  refine pc_ite (fun c0 => ?_) (fun c0 => ?_)
  · obtain ⟨o, q1, q2, q3⟩ := h0 c0
    refine pc_ix (fun _ => ?_)
    rw [f1.1 61 (by decide)]
    refine pc_lt fun v5 e5 => ?_
    rw [← e5] at q1 q3
    refine pc_cals (v_stat B1 P (by rw [f1.1 44 (by decide)]; exact q1) q2 w1) (fun s6 a6 => pc_ret ?_)
    unfold lsp
    rw [if_pos c0, q3]
    have q := a6.2
    rw [f1.1 42 (by decide), f1.1 43 (by decide)] at q
    exact q
  refine pc_ite (fun c1 => ?_) (fun c1 => ?_)
  · refine pc_cals (v_b1 w1 (by omega)) (fun s8 a8 => pc_ret ?_)
    unfold lsp
    rw [if_neg c0, if_pos c1]
    exact a8.2
  refine pc_ite (fun c2 => ?_) (fun c2 => ?_)
  · refine pc_cals (v_b2 w1 (by omega)) (fun s8 a8 => pc_ret ?_)
    unfold lsp
    rw [if_neg c0, if_neg c1, if_pos c2]
    exact a8.2
  refine pc_ite (fun c3 => ?_) (fun c3 => ?_)
  · obtain ⟨t, q1, q2, q3⟩ := h3 c3
    refine pc_cals (v_w116 w1) (fun s9 a9 => ?_)
    have f9 : FR [65, 66] [] s s9 := FR.cal f1 a9.1 rfl rfl
    refine pc_ix (fun _ => ?_)
    rw [f9.1 46 (by decide)]
    refine pc_lt fun v10 e10 => ?_
    rw [← e10] at q1
    have P9 := h.cg (fun k hk => f9.1 k (by simp; omega))
    refine pc_cals (v_exp 250 v10 s9 t _ P9 q1 q2 a9.2) (fun s11 a11 => ?_)
    refine pc_cals (v_sign a11.2) (fun s12 a12 => pc_ret ?_)
    unfold lsp
    rw [if_neg c0, if_neg c1, if_neg c2, if_pos c3, q3, e1_, e3_, ← List.append_assoc]
    exact a12.2
  refine pc_ite (fun c4 => ?_) (fun c4 => ?_)
  · refine pc_cals (v_w117 w1) (fun s8 a8 => pc_ret ?_)
    unfold lsp
    rw [if_neg c0, if_neg c1, if_neg c2, if_neg c3, if_pos c4, e4_]
    exact a8.2
  refine pc_ite (fun c5 => ?_) (fun c5 => ?_)
  · refine pc_cals (v_sign w1) (fun s8 a8 => pc_ret ?_)
    unfold lsp
    rw [if_neg c0, if_neg c1, if_neg c2, if_neg c3, if_neg c4, if_pos c5, e5_]
    exact a8.2
  refine pc_ite (fun c6 => ?_) (fun c6 => ?_)
  · refine pc_cals (v_b6 w1 (by omega)) (fun s8 a8 => pc_ret ?_)
    unfold lsp
    rw [if_neg c0, if_neg c1, if_neg c2, if_neg c3, if_neg c4, if_neg c5, if_pos c6]
    exact a8.2
  refine pc_ite (fun c7 => ?_) (fun c7 => ?_)
  · refine pc_cals (v_b7 w1 (by omega)) (fun s8 a8 => pc_ret ?_)
    unfold lsp
    rw [if_neg c0, if_neg c1, if_neg c2, if_neg c3, if_neg c4, if_neg c5, if_neg c6, if_pos c7]
    exact a8.2
  refine pc_ite (fun c8 => ?_) (fun c8 => ?_)
  · refine pc_cals (v_b8 w1 (by omega)) (fun s8 a8 => pc_ret ?_)
    unfold lsp
    rw [if_neg c0, if_neg c1, if_neg c2, if_neg c3, if_neg c4, if_neg c5, if_neg c6, if_neg c7, if_pos c8]
    exact a8.2
  refine pc_ite (fun c9 => ?_) (fun c9 => ?_)
  · refine pc_cals (v_w121 w1) (fun s8 a8 => pc_ret ?_)
    unfold lsp
    rw [if_neg c0, if_neg c1, if_neg c2, if_neg c3, if_neg c4, if_neg c5, if_neg c6, if_neg c7, if_neg c8, if_pos c9, e10_]
    exact a8.2
  refine pc_ite (fun c10 => ?_) (fun c10 => ?_)
  · refine pc_cals (v_b10 w1 (by omega)) (fun s8 a8 => pc_ret ?_)
    unfold lsp
    rw [if_neg c0, if_neg c1, if_neg c2, if_neg c3, if_neg c4, if_neg c5, if_neg c6, if_neg c7, if_neg c8, if_neg c9, if_pos c10]
    exact a8.2
  · refine pc_cals (v_b11 w1 (by omega)) (fun s8 a8 => pc_ret ?_)
    unfold lsp
    rw [if_neg c0, if_neg c1, if_neg c2, if_neg c3, if_neg c4, if_neg c5, if_neg c6, if_neg c7, if_neg c8, if_neg c9, if_neg c10]
    exact a8.2
