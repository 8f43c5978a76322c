/-- what is answered of a statement -/
def stA (S : Int × Int × Option Term) (c : Int) : Int :=
  if c = 0 then S.1 else
  if c = 1 then S.2.1 else
  if c = 2 then (match S.2.2 with | none => 0 | some t => ((spl t).length : Int)) else
  if c = 3 then (match S.2.2 with | none => 0 | some t => if tEff t = true then 1 else 0) else
  if c = 4 then (match S.2.2 with | none => 0 | some t => (tSz t : Int)) else -1000000
section
variable {S : Int × Int × Option Term}
theorem stA_0 : stA S 0 = S.1 := rfl
theorem stA_1 : stA S 1 = S.2.1 := rfl
theorem stA_n {c : Int} (h : S.2.2 = none) (h2 : c = 2 ∨ c = 3 ∨ c = 4) : stA S c = 0 := by
  unfold stA
  rcases h2 with z | z | z
  · rw [if_neg (by omega), if_neg (by omega), if_pos z, h]
  · rw [if_neg (by omega), if_neg (by omega), if_neg (by omega), if_pos z, h]
  · rw [if_neg (by omega), if_neg (by omega), if_neg (by omega), if_neg (by omega), if_pos z, h]
theorem stA_2 {t : Term} (h : S.2.2 = some t) : stA S 2 = ((spl t).length : Int) := by
  unfold stA
  rw [if_neg (by omega), if_neg (by omega), if_pos rfl, h]
theorem stA_3 {t : Term} (h : S.2.2 = some t) : stA S 3 = if tEff t = true then 1 else 0 := by
  unfold stA
  rw [if_neg (by omega), if_neg (by omega), if_neg (by omega), if_pos rfl, h]
theorem stA_4 {t : Term} (h : S.2.2 = some t) : stA S 4 = (tSz t : Int) := by
  unfold stA
  rw [if_neg (by omega), if_neg (by omega), if_neg (by omega), if_neg (by omega), if_pos rfl, h]
theorem stA_x {c : Int} (h : c ≠ 0) (h1 : c ≠ 1) (h2 : c ≠ 2) (h3 : c ≠ 3) (h4 : c ≠ 4) : stA S c = -1000000 := by
  unfold stA
  rw [if_neg h, if_neg h1, if_neg h2, if_neg h3, if_neg h4]
end
/-- which statement is asked for -/
def STQ (l : Prop) (nb : Nat) (A : Nat → PSt) (a b : Int) : Prop := l ∧ 0 ≤ a ∧ a < (nb : Int) ∧ 0 ≤ b ∧ b < (pNn (A (a.toNat + 1)) : Int) - (pNn (A a.toNat) : Int)
theorem t_statX {σ : Sto} {A : Nat → PSt} {nb : Nat} {a b c : Int32} (hn : (σ.1 20 0).toInt = (nb : Int)) (hb : nb ≤ 40) (L : LFTX nb A σ) (mono : ∀ b, b ≤ nb → pNn (A b) ≤ pNn (A nb)) : PC (f_X11_statement a b c σ) (fun r => (STQ ((σ.1 0 0).toInt ≠ 0) nb A a.toInt b.toInt → r.1.toInt = stA (pSm (A nb) (pNn (A a.toInt.toNat) + b.toInt.toNat)) c.toInt) ∧ (¬ STQ ((σ.1 0 0).toInt ≠ 0) nb A a.toInt b.toInt → r.1.toInt = -1000000)) := by
  have k_0 : (0 : Int32).toInt = 0 := by decide +kernel
  have k_1 : (1 : Int32).toInt = 1 := by decide +kernel
  have k_m1 : ((-1) : Int32).toInt = -1 := by decide +kernel
  have k_big : ((-1000000) : Int32).toInt = -1000000 := by decide +kernel
  obtain ⟨n, tr, q1, q2, q3, q4, q5, q6, q7, q8⟩ := L
  have no : ∀ {s : Sto}, ¬ STQ ((σ.1 0 0).toInt ≠ 0) nb A a.toInt b.toInt → PC (some (((-1000000) : Int32), s)) (fun r => (STQ ((σ.1 0 0).toInt ≠ 0) nb A a.toInt b.toInt → r.1.toInt = stA (pSm (A nb) (pNn (A a.toInt.toNat) + b.toInt.toNat)) c.toInt) ∧ (¬ STQ ((σ.1 0 0).toInt ≠ 0) nb A a.toInt b.toInt → r.1.toInt = -1000000)) := fun z => pc_ret ⟨fun y => absurd y z, fun _ => k_big⟩
  unfold f_X11_statement
  refine pc_calp t_isBlockX (fun v1 h1 => ?_)
  rw [hn] at h1
  refine pc_ite (fun z => no (fun y => ?_)) (fun z => ?_)
  · rw [fa_eq, k_0] at z
    exact h1.mpr ⟨y.1, y.2.1, y.2.2.1⟩ z
  rw [fa_eq, k_0] at z
  obtain ⟨l0, a0, an⟩ := h1.mp z
  have ca := clamp_I a0
  have ta : a.toInt.toNat = a.toNatClampNeg := rfl
  have ea : (a + 1).toInt = a.toInt + 1 := i1 (by omega)
  have ca1 : (a + 1).toNatClampNeg = a.toNatClampNeg + 1 := by have := clamp_I (x := a + 1) (by omega); omega
  have n1 := q5 a.toNatClampNeg (by omega)
  have n2 := q5 (a.toNatClampNeg + 1) (by omega)
  have m1 := mono (a.toNatClampNeg + 1) (by omega)
  have m0 := mono a.toNatClampNeg (by omega)
  refine pc_ite (fun z => no (fun y => ?_)) (fun z2 => ?_)
  · rw [fa_lt, k_0] at z
    have := y.2.2.2.1
    omega
  rw [fa_lt, k_0] at z2
  refine pc_ix (fun _ => ?_)
  rw [ca1]
  refine pc_lt fun v4 e4 => ?_
  refine pc_ix (fun _ => ?_)
  refine pc_lt fun v5 e5 => ?_
  have d4 : v4.toInt = (pNn (A (a.toNatClampNeg + 1)) : Int) := by rw [e4]; exact n2
  have d5 : v5.toInt = (pNn (A a.toNatClampNeg) : Int) := by rw [e5]; exact n1
  have d1 : (v4 - v5).toInt = v4.toInt - v5.toInt := fb_subI (by omega) (by omega)
  refine pc_ite (fun z3 => ?_) (fun z3 => no (fun y => ?_))
  rotate_left
  · rw [fa_lt, d1, d4, d5] at z3
    have := y.2.2.2.2
    rw [ta] at this
    omega
  rw [fa_lt, d1, d4, d5] at z3
  have Q : STQ ((σ.1 0 0).toInt ≠ 0) nb A a.toInt b.toInt := ⟨l0, a0, an, by omega, by rw [ta]; exact z3⟩
  have yes : ∀ {r : Int32 × Sto}, r.1.toInt = stA (pSm (A nb) (pNn (A a.toInt.toNat) + b.toInt.toNat)) c.toInt → PC (some r) (fun r => (STQ ((σ.1 0 0).toInt ≠ 0) nb A a.toInt b.toInt → r.1.toInt = stA (pSm (A nb) (pNn (A a.toInt.toNat) + b.toInt.toNat)) c.toInt) ∧ (¬ STQ ((σ.1 0 0).toInt ≠ 0) nb A a.toInt b.toInt → r.1.toInt = -1000000)) := fun e => pc_ret ⟨fun _ => e, fun y => absurd Q y⟩
  refine pc_ix (fun _ => ?_)
  refine pc_lt fun v7 e7 => ?_
  refine pc_lt fun x8 e8 => ?_
  have ev : x8.toInt = v7.toInt + b.toInt := by rw [e8]; exact fb_addI (by rw [e7, n1]; omega) (by rw [e7, n1]; omega)
  have c8 : x8.toNatClampNeg = pNn (A a.toInt.toNat) + b.toInt.toNat := by
    rw [ta]
    have := clamp_I (x := x8) (by rw [ev, e7, n1]; omega)
    rw [ev, e7, n1] at this
    omega
  have W := q4 (pNn (A a.toInt.toNat) + b.toInt.toNat) (by rw [ta]; omega)
  obtain ⟨w1, w2, w3⟩ := W
  generalize pSm (A nb) (pNn (A a.toInt.toNat) + b.toInt.toNat) = S at *
  refine pc_ix (fun _ => ?_)
  rw [c8]
  refine pc_lt fun v9 e9 => ?_
  rw [← e9] at w3
  refine pc_ite (fun c0 => ?_) (fun c0 => ?_)
  · refine pc_ix (fun _ => ?_)
    refine pc_lt fun v11 e11 => yes ?_
    rw [c0]
    show v11.toInt = S.1
    rw [e11]; exact w1
  refine pc_ite (fun c1 => ?_) (fun c1 => ?_)
  · refine pc_ix (fun _ => ?_)
    refine pc_lt fun v12 e12 => yes ?_
    rw [c1]
    show v12.toInt = S.2.1
    rw [e12]; exact w2
  refine pc_ite (fun c2 => ?_) (fun c2 => ?_)
  · refine pc_ite (fun z4 => yes ?_) (fun z4 => ?_)
    · rw [fa_eq, k_m1] at z4
      cases y : S.2.2 with
      | none => rw [stA_n y (Or.inl c2)]; exact k_0
      | some t =>
        rw [y] at w3
        obtain ⟨e, a1, _⟩ := w3.so
        omega
    · rw [fa_eq, k_m1] at z4
      cases y : S.2.2 with
      | none => rw [y] at w3; exact absurd w3.no z4
      | some t =>
        rw [y] at w3
        obtain ⟨e, a1, a2, a3, a4⟩ := w3.so
        have sz := (q1.2.2.1 e a2).2.2.2.2
        rw [a3] at sz
        refine pc_calv (t_width q1 w3 sz) (fun v14 s14 u => yes ?_)
        rw [c2, stA_2 y]
        exact u.2.2
  refine pc_ite (fun c3 => ?_) (fun c3 => ?_)
  · cases y : S.2.2 with
    | none =>
      have hv : v9.toInt = -1 := by rw [y] at w3; exact w3.no
      refine pc_jnI0 True (fun _ => yes ?_) (fun k hk => ?_)
      · rw [stA_n y (Or.inr (Or.inl c3))]; exact k_0
      · exact pc_ite (fun _ => hk trivial) (fun z4 => absurd (by rw [fa_eq, k_m1]; exact hv) z4)
    | some t =>
      rw [y] at w3
      refine pc_jnI0 (¬ tEff t = true) (fun z4 => yes ?_) (fun k hk => ?_)
      · rw [c3, stA_3 y, if_neg z4]; exact k_0
      · refine pc_ite (fun z4 => absurd z4 w3.nm1) (fun _ => ?_)
        refine pc_calp (t_hasEff q1 w3) (fun v17 h17 => ?_)
        refine pc_ite (fun z5 => hk (h17.mp z5)) (fun z5 => yes ?_)
        rw [c3, stA_3 y, if_pos (Classical.byContradiction fun z6 => z5 (h17.mpr z6))]; exact k_1
  refine pc_ite (fun c4 => ?_) (fun c4 => ?_)
  · refine pc_ite (fun z4 => yes ?_) (fun z4 => ?_)
    · rw [fa_eq, k_m1] at z4
      cases y : S.2.2 with
      | none => rw [stA_n y (Or.inr (Or.inr c4))]; exact k_0
      | some t =>
        rw [y] at w3
        obtain ⟨e, a1, _⟩ := w3.so
        omega
    · rw [fa_eq, k_m1] at z4
      cases y : S.2.2 with
      | none => rw [y] at w3; exact absurd w3.no z4
      | some t =>
        rw [y] at w3
        obtain ⟨e, a1, a2, a3, a4⟩ := w3.so
        have sz := (q1.2.2.1 e a2).2.2.1
        rw [a3] at sz
        refine pc_ix (fun _ => ?_)
        rw [a4]
        refine pc_lt fun v20 e20 => yes ?_
        rw [c4, stA_4 y, e20]
        exact sz
  · refine yes ?_
    rw [stA_x c0 c1 c2 c3 c4]
    exact k_big
theorem m_stat {s : Sto} {A : Nat → PSt} {nb : Nat} {a b c : Int32} (hB : BM s) (hn : (s.1 26 0).toInt = (nb : Int)) (hb : nb ≤ 40) (L : LFTM nb A s) (hT : ∀ j t, j < pNn (A nb) → (pSm (A nb) j).2.2 = some t → tN t ∧ tSz t ≤ 60) (mono : ∀ b, b ≤ nb → pNn (A b) ≤ pNn (A nb)) (step : ∀ b, b < nb → pNn (A b) ≤ pNn (A (b + 1))) (h400 : pNn (A nb) ≤ 400) : PC (f_X12_statement a b c s) (fun r => (STQ ((s.1 21 0).toInt ≠ 0) nb A a.toInt b.toInt → r.1.toInt = stA (pSm (A nb) (pNn (A a.toInt.toNat) + b.toInt.toNat)) c.toInt) ∧ (¬ STQ ((s.1 21 0).toInt ≠ 0) nb A a.toInt b.toInt → r.1.toInt = -1000000)) := by
  have k_0 : (0 : Int32).toInt = 0 := by decide +kernel
  have k_1 : (1 : Int32).toInt = 1 := by decide +kernel
  have k_2 : (2 : Int32).toInt = 2 := by decide +kernel
  have k_3 : (3 : Int32).toInt = 3 := by decide +kernel
  have k_m1 : ((-1) : Int32).toInt = -1 := by decide +kernel
  have k_big : ((-1000000) : Int32).toInt = -1000000 := by decide +kernel
  have i64_4 : (4 : Int64).toInt = 4 := by decide +kernel
  obtain ⟨n, tr, q1, q2, q3, q4, q5, q6⟩ := L
  have no : ∀ {s' : Sto}, ¬ STQ ((s.1 21 0).toInt ≠ 0) nb A a.toInt b.toInt → PC (some (((-1000000) : Int32), s')) (fun r => (STQ ((s.1 21 0).toInt ≠ 0) nb A a.toInt b.toInt → r.1.toInt = stA (pSm (A nb) (pNn (A a.toInt.toNat) + b.toInt.toNat)) c.toInt) ∧ (¬ STQ ((s.1 21 0).toInt ≠ 0) nb A a.toInt b.toInt → r.1.toInt = -1000000)) := fun z => pc_ret ⟨fun y => absurd y z, fun _ => k_big⟩
  unfold f_X12_statement
  refine pc_lt fun s1 e1 => ?_
  have fr : ∀ {k : Nat}, k ≠ 0 → s1.1 k = s.1 k := fun {k} hk => by rw [e1]; exact sti_o hk
  have B1 : BM s1 := by rw [e1]; exact pM_0 hB (by omega)
  refine pc_calp (t_isBlockM B1) (fun v1 h1 => ?_)
  rw [fr (show (21 : Nat) ≠ 0 by decide), fr (show (26 : Nat) ≠ 0 by decide), hn] at h1
  refine pc_ite (fun z => no (fun y => ?_)) (fun z => ?_)
  · rw [fa_eq, k_0] at z
    exact h1.mpr ⟨y.1, y.2.1, y.2.2.1⟩ z
  rw [fa_eq, k_0] at z
  obtain ⟨l0, a0, an⟩ := h1.mp z
  have ca := clamp_I a0
  have ta : a.toInt.toNat = a.toNatClampNeg := rfl
  have ea : (a + 1).toInt = a.toInt + 1 := i1 (by omega)
  have ca1 : (a + 1).toNatClampNeg = a.toNatClampNeg + 1 := by have := clamp_I (x := a + 1) (by omega); omega
  have n1 := q5 a.toNatClampNeg (by omega)
  have n2 := q5 (a.toNatClampNeg + 1) (by omega)
  have m1 := mono (a.toNatClampNeg + 1) (by omega)
  have m0 := mono a.toNatClampNeg (by omega)
  have ms := step a.toNatClampNeg (by omega)
  refine pc_ix (fun _ => ?_)
  rw [ca1]
  refine pc_lt fun v4 e4 => ?_
  refine pc_ix (fun _ => ?_)
  refine pc_lt fun v5 e5 => ?_
  have d4 : v4.toInt = (pNn (A (a.toNatClampNeg + 1)) : Int) := by rw [e4, fr (by decide)]; exact n2
  have d5 : v5.toInt = (pNn (A a.toNatClampNeg) : Int) := by rw [e5, fr (by decide)]; exact n1
  have d1 : (v4 - v5).toInt = v4.toInt - v5.toInt := fb_subI (by omega) (by omega)
  have d2 : (v4 - v5 - 1).toInt = v4.toInt - v5.toInt - 1 := by rw [i32_m1 (by rw [d1]; omega), d1]
  refine pc_calp (pc_ok s_isIn) (fun v6 r => ?_)
  rw [Int32.toInt_toInt64, Int32.toInt_toInt64, i64_0, d2, d4, d5] at r
  refine pc_ite (fun z3 => no (fun y => ?_)) (fun z3 => ?_)
  · rw [fa_eq, k_0] at z3
    have y1 := y.2.2.2.1
    have y2 := y.2.2.2.2
    rw [ta] at y2
    exact r.2.mpr ⟨y1, by omega⟩ z3
  rw [fa_eq, k_0] at z3
  have xb := r.2.mp z3
  have Q : STQ ((s.1 21 0).toInt ≠ 0) nb A a.toInt b.toInt := ⟨l0, a0, an, xb.1, by rw [ta]; omega⟩
  have yes : ∀ {r : Int32 × Sto}, r.1.toInt = stA (pSm (A nb) (pNn (A a.toInt.toNat) + b.toInt.toNat)) c.toInt → PC (some r) (fun r => (STQ ((s.1 21 0).toInt ≠ 0) nb A a.toInt b.toInt → r.1.toInt = stA (pSm (A nb) (pNn (A a.toInt.toNat) + b.toInt.toNat)) c.toInt) ∧ (¬ STQ ((s.1 21 0).toInt ≠ 0) nb A a.toInt b.toInt → r.1.toInt = -1000000)) := fun e => pc_ret ⟨fun _ => e, fun y => absurd Q y⟩
  refine pc_calp (pc_ok s_isIn) (fun v8 r8 => ?_)
  rw [Int32.toInt_toInt64, i64_0, i64_4] at r8
  refine pc_ite (fun z4 => yes ?_) (fun z4 => ?_)
  · rw [fa_eq, k_0] at z4
    have nn : ¬ (0 ≤ c.toInt ∧ c.toInt ≤ 4) := fun y => r8.2.mpr y z4
    rw [stA_x (by omega) (by omega) (by omega) (by omega) (by omega)]
    exact k_big
  rw [fa_eq, k_0] at z4
  have cb := r8.2.mp z4
  refine pc_ix (fun _ => ?_)
  refine pc_lt fun v10 e10 => ?_
  rw [fr (by decide)] at e10
  refine pc_lt fun x8 e8 => ?_
  have ev : x8.toInt = v10.toInt + b.toInt := by rw [e8]; exact fb_addI (by rw [e10, n1]; omega) (by rw [e10, n1]; omega)
  have c8 : x8.toNatClampNeg = pNn (A a.toInt.toNat) + b.toInt.toNat := by
    rw [ta]
    have := clamp_I (x := x8) (by rw [ev, e10, n1]; omega)
    rw [ev, e10, n1] at this
    omega
  have jl : pNn (A a.toInt.toNat) + b.toInt.toNat < pNn (A nb) := by rw [ta]; omega
  have W := q4 _ jl
  have T := fun t => hT _ t jl
  obtain ⟨w1, w2, w3⟩ := W
  generalize pSm (A nb) (pNn (A a.toInt.toNat) + b.toInt.toNat) = S at *
  refine pc_ix (fun _ => ?_)
  rw [c8]
  refine pc_lt fun v12 e12 => ?_
  rw [fr (by decide)] at e12
  rw [← e12] at w3
  refine pc_ite (fun c0 => ?_) (fun c0 => ?_)
  · rw [fa_eq, k_0] at c0
    refine pc_ix (fun _ => ?_)
    refine pc_lt fun v14 e14 => yes ?_
    rw [c0]
    show v14.toInt = S.1
    rw [e14, fr (by decide)]; exact w1
  refine pc_ite (fun c1 => ?_) (fun c1 => ?_)
  · rw [fa_eq, k_1] at c1
    refine pc_ix (fun _ => ?_)
    refine pc_lt fun v16 e16 => yes ?_
    rw [c1]
    show v16.toInt = S.2.1
    rw [e16, fr (by decide)]; exact w2
  rw [fa_eq, k_0] at c0
  rw [fa_eq, k_1] at c1
  refine pc_ite (fun z5 => yes ?_) (fun z5 => ?_)
  · rw [fa_eq, k_m1] at z5
    cases y : S.2.2 with
    | none => rw [stA_n y (by omega)]; exact k_0
    | some t =>
      rw [y] at w3
      obtain ⟨e, a1, _⟩ := w3.so
      omega
  rw [fa_eq, k_m1] at z5
  cases y : S.2.2 with
  | none => rw [y] at w3; exact absurd w3.no z5
  | some t =>
    rw [y] at w3
    have tt := T t y
    refine pc_lt fun s18 e18 => ?_
    have f18 : FR [0, 66] [] s s18 := by rw [e18, e1]; exact FR.st (FR.st FR.rf (by decide)) (by decide)
    have P18 : PLM s18 n tr := q1.cg (fun k hk => f18.1 k (by simp; omega))
    have w18 : WRM s18 [] := ⟨by rw [e18, sti_s]; exact k_0, fun i hi => absurd hi (Nat.not_lt_zero _)⟩
    refine pc_cals (v_exp 250 v12 s18 t [] P18 w3 tt.1 w18) (fun s19 u => ?_)
    rw [List.nil_append] at u
    have P19 : PLM s19 n tr := P18.cg (fun k hk => u.1.1 k (by simp; omega))
    refine pc_ite (fun c2 => yes ?_) (fun c2 => ?_)
    · rw [fa_eq, k_2] at c2
      rw [c2, stA_2 y]
      exact u.2.1
    refine pc_ite (fun c3 => ?_) (fun c3 => ?_)
    · rw [fa_eq, k_3] at c3
      refine pc_calp (m_hasEff P19 250 v12 t w3) (fun v22 h22 => ?_)
      refine pc_ite (fun z6 => yes ?_) (fun z6 => yes ?_)
      · rw [c3, stA_3 y, if_neg (h22.mp z6)]; exact k_0
      · rw [c3, stA_3 y, if_pos (Classical.byContradiction fun z7 => z6 (h22.mpr z7))]; exact k_1
    · rw [fa_eq, k_2] at c2
      rw [fa_eq, k_3] at c3
      refine pc_calp (m_within P19 250 v12 t w3 tt.2) (fun v24 h24 => yes ?_)
      rw [show c.toInt = 4 by omega, stA_4 y]
      exact h24
/-- statements' trees: numbers, parts -/
theorem LFTX.tr {nb : Nat} {A : Nat → PSt} {σ : Sto} (L : LFTX nb A σ) : ∀ j t, (pSm (A nb) j).2.2 = some t → j < pNn (A nb) → tN t ∧ tSz t ≤ 60 := by
  obtain ⟨n, tr, q1, q2, q3, q4, q5, q6, q7, q8⟩ := L
  intro j t ht hj
  have w := (q4 j hj).2.2
  rw [ht] at w
  obtain ⟨e, a1, a2, a3, a4⟩ := w.so
  have z := (q1.2.2.1 e a2).2.2.2.2
  have y := q1.tN_ (e + 1) e (Nat.lt_succ_self _) a2
  rw [a3] at z y
  exact ⟨y, z⟩
theorem t_stat0 {σ : Sto} {a b c : Int32} (h : (σ.1 0 0).toInt = 0) : PC (f_X11_statement a b c σ) (fun r => r.1 = -1000000) := by
  have k_0 : (0 : Int32).toInt = 0 := by decide +kernel
  unfold f_X11_statement
  refine pc_calp t_isBlockX (fun v1 h1 => ?_)
  refine pc_ite (fun _ => pc_ret rfl) (fun z => ?_)
  rw [fa_eq, k_0] at z
  exact absurd h (h1.mp z).1
theorem m_stat0 {s : Sto} {a b c : Int32} (hB : BM s) (h : (s.1 21 0).toInt = 0) : PC (f_X12_statement a b c s) (fun r => r.1 = -1000000) := by
  have k_0 : (0 : Int32).toInt = 0 := by decide +kernel
  unfold f_X12_statement
  refine pc_lt fun s1 e1 => ?_
  have B1 : BM s1 := by rw [e1]; exact pM_0 hB (by omega)
  have f21 : s1.1 21 = s.1 21 := by rw [e1]; exact sti_o (by decide)
  refine pc_calp (t_isBlockM B1) (fun v1 h1 => ?_)
  refine pc_ite (fun _ => pc_ret rfl) (fun z => ?_)
  rw [fa_eq, k_0] at z
  exact absurd (by rw [f21]; exact h) (h1.mp z).1
theorem R_statement {σ s : Sto} (h : JT4 σ s) (a b c : Int32) : ∃ v σ2 s2, f_X11_statement a b c σ = some (v, σ2) ∧ f_X12_statement a b c s = some (v, s2) ∧ JT4 σ2 s2 := by
  obtain ⟨v, σ2, w, s2, x, y, z⟩ := Q_statement h a b c
  refine ⟨v, σ2, s2, x, ?_, z⟩
  have e : v = w := by
    have B := h.1.1.2.1.1
    have g20 := gX_20 h.1.1.1.1 0
    have g26 := gM_26 B 0
    rcases h.ld with ⟨l1, l2⟩ | ⟨l1, l2⟩
    · have X := t_stat0 (a := a) (b := b) (c := c) l1 _ x
      have M := m_stat0 (a := a) (b := b) (c := c) B l2 _ y
      exact X.trans M.symm
    · obtain ⟨A, LX, LM, nx, mono⟩ := h.sts l1
      have nB' := nB_le B
      have c20 : (nbX σ : Int) = (σ.1 20 0).toInt := clamp_I g20.1
      have X := t_statX (a := a) (b := b) (c := c) (nb := nB s) (by rw [← c20, nx]) nB'.1 LX (fun b hb => mono _ _ hb) _ x
      have p7 : pNn (A (nB s)) ≤ 160 := by
        obtain ⟨_, _, _, _, _, _, _, _, q, _⟩ := LX
        exact q
      have M := m_stat (a := a) (b := b) (c := c) B nB'.2.symm nB'.1 LM (fun j t hj ht => LX.tr j t ht hj) (fun b hb => mono _ _ hb) (fun b _ => mono _ _ (Nat.le_succ _)) (by omega) _ y
      (try dsimp only at X M)
      refine Int32.toInt_inj.mp ?_
      by_cases Q : STQ True (nB s) A a.toInt b.toInt
      · rw [X.1 ⟨l1, Q.2⟩, M.1 ⟨l2, Q.2⟩]
      · rw [X.2 (fun z => Q ⟨trivial, z.2⟩), M.2 (fun z => Q ⟨trivial, z.2⟩)]
  rw [e]; exact y
