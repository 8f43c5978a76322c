/-- what is answered of a condition -/
def CDR (o : Option Term) (b r : Int32) : Prop := (o = none → r.toInt = -1) ∧ ∀ t, o = some t → (b = -1 → r.toInt = ((spl t).length : Int)) ∧ (b ≠ -1 → ((0 ≤ b.toInt ∧ b.toInt < ((spl t).length : Int)) → (spl t)[b.toInt.toNat]? = some r) ∧ (¬ (0 ≤ b.toInt ∧ b.toInt < ((spl t).length : Int)) → r.toInt = -1))
theorem CDR.uq {o : Option Term} {b r r2 : Int32} (h : CDR o b r) (g : CDR o b r2) : r = r2 := by
  cases o with
  | none => exact Int32.toInt_inj.mp ((h.1 rfl).trans (g.1 rfl).symm)
  | some t =>
    obtain ⟨h1, h2⟩ := h.2 t rfl
    obtain ⟨g1, g2⟩ := g.2 t rfl
    by_cases c : b = -1
    · exact Int32.toInt_inj.mp ((h1 c).trans (g1 c).symm)
    · by_cases d : 0 ≤ b.toInt ∧ b.toInt < ((spl t).length : Int)
      · exact Option.some.inj (((h2 c).1 d).symm.trans ((g2 c).1 d))
      · exact Int32.toInt_inj.mp (((h2 c).2 d).trans ((g2 c).2 d).symm)
theorem t_signAt {s : Sto} {L : List Int32} {x : Int32} (h : WRX s L) (hl : L.length ≤ 400) : PC (f_X6_signAt x s) (fun r => ((0 ≤ x.toInt ∧ x.toInt < (L.length : Int)) → L[x.toInt.toNat]? = some r) ∧ (¬ (0 ≤ x.toInt ∧ x.toInt < (L.length : Int)) → r.toInt = -1)) := by
  have k_0 : (0 : Int32).toInt = 0 := by decide +kernel
  have k_400 : (400 : Int32).toInt = 400 := by decide +kernel
  have k_m1 : ((-1) : Int32).toInt = -1 := by decide +kernel
  obtain ⟨h1, h2⟩ := h
  unfold f_X6_signAt
  refine pc_jnI0 (¬ (0 ≤ x.toInt ∧ x.toInt < (L.length : Int))) (fun z => pc_ret ⟨fun y => absurd y z, fun _ => k_m1⟩) (fun k hk => ?_)
  refine pc_ite (fun c => hk ?_) (fun c => ?_)
  · rw [fa_lt, k_0] at c
    omega
  rw [fa_lt, k_0] at c
  refine pc_ite (fun c2 => hk ?_) (fun c2 => ?_)
  · rw [fa_le, h1] at c2
    omega
  rw [fa_le, h1] at c2
  refine pc_ite (fun c3 => ?_) (fun _ => ?_)
  · rw [fa_le, k_400] at c3
    omega
  refine pc_ix (fun _ => ?_)
  refine pc_lt fun v5 e5 => ?_
  refine pc_ret ⟨fun _ => ?_, fun y => absurd ⟨by omega, by omega⟩ y⟩
  have q := h2 x.toInt.toNat (by omega)
  rw [q, e5]
  rfl
theorem t_condX {σ : Sto} {A : Nat → PSt} {nb : Nat} {a b : Int32} (hn : (σ.1 20 0).toInt = (nb : Int)) (hb : nb ≤ 40) (L : LFTX nb A σ) : PC (f_X11_condition a b σ) (fun r => (((σ.1 0 0).toInt ≠ 0 ∧ 0 ≤ a.toInt ∧ a.toInt < (nb : Int)) → CDR (pTs (A (a.toInt.toNat + 1))) b r.1) ∧ (¬ ((σ.1 0 0).toInt ≠ 0 ∧ 0 ≤ a.toInt ∧ a.toInt < (nb : Int)) → r.1.toInt = -1)) := by
  have k_0 : (0 : Int32).toInt = 0 := by decide +kernel
  have k_m1 : ((-1) : Int32).toInt = -1 := by decide +kernel
  obtain ⟨n, tr, q1, q2, q3, q4, q5, q6, q7, q8⟩ := L
  unfold f_X11_condition
  refine pc_calp t_isBlockX (fun v1 h1 => ?_)
  rw [hn] at h1
  refine pc_ite (fun z => pc_ret ⟨fun y => ?_, fun _ => k_m1⟩) (fun z => ?_)
  · rw [fa_eq, k_0] at z
    exact absurd z (h1.mpr y)
  rw [fa_eq, k_0] at z
  have p := h1.mp z
  have ca := clamp_I p.2.1
  have ta : a.toInt.toNat = a.toNatClampNeg := rfl
  have w := q6 a.toNatClampNeg (by omega)
  rw [ta]
  generalize pTs (A (a.toNatClampNeg + 1)) = o at *
  have yes : ∀ {r : Int32 × Sto}, CDR o b r.1 → PC (some r) (fun r => (((σ.1 0 0).toInt ≠ 0 ∧ 0 ≤ a.toInt ∧ a.toInt < (nb : Int)) → CDR o b r.1) ∧ (¬ ((σ.1 0 0).toInt ≠ 0 ∧ 0 ≤ a.toInt ∧ a.toInt < (nb : Int)) → r.1.toInt = -1)) := fun e => pc_ret ⟨fun _ => e, fun y => absurd p y⟩
  refine pc_ix (fun _ => ?_)
  refine pc_lt fun v3 e3 => ?_
  rw [← e3] at w
  cases o with
  | none =>
    refine pc_ite (fun _ => yes ⟨fun _ => k_m1, fun t ht => absurd ht (by simp)⟩) (fun y => absurd (by rw [fa_eq, k_m1]; exact w.no) y)
  | some t =>
    obtain ⟨e, a1, a2, a3, a4⟩ := w.so
    have sz := (q1.2.2.1 e a2).2.2.2.2
    rw [a3] at sz
    have sl := spl_l t
    refine pc_ite (fun y => absurd y w.nm1) (fun _ => ?_)
    refine pc_ix (fun _ => ?_)
    refine pc_lt fun v5 e5 => ?_
    rw [← e3] at e5
    subst e5
    refine pc_calv (t_width q1 w sz) (fun v6 s6 u => ?_)
    obtain ⟨u1, u2, u3⟩ := u
    (try dsimp only at u1 u2 u3)
    refine pc_ite (fun c => yes ⟨fun y => absurd y (by simp), fun t2 ht => ?_⟩) (fun c => ?_)
    · rw [← Option.some.inj ht]
      exact ⟨fun _ => u3, fun y => absurd c y⟩
    · refine pc_calp (t_signAt u2 (by omega)) (fun v8 h8 => yes ⟨fun y => absurd y (by simp), fun t2 ht => ?_⟩)
      rw [← Option.some.inj ht]
      exact ⟨fun y => absurd y c, fun _ => h8⟩
theorem m_told {s : Sto} {L : List Int32} {x : Int32} (h : WRM s L) : PC (f_X12_told x s) (fun r => (x = -1 → r.toInt = (L.length : Int)) ∧ (x ≠ -1 → ((0 ≤ x.toInt ∧ x.toInt < (L.length : Int)) → L[x.toInt.toNat]? = some r) ∧ (¬ (0 ≤ x.toInt ∧ x.toInt < (L.length : Int)) → r.toInt = -1))) := by
  have k_0 : (0 : Int32).toInt = 0 := by decide +kernel
  have k_m1 : ((-1) : Int32).toInt = -1 := by decide +kernel
  obtain ⟨h1, h2⟩ := h
  unfold f_X12_told
  refine pc_ite (fun c => pc_ret ⟨fun _ => h1, fun y => absurd c y⟩) (fun c => ?_)
  refine pc_calp (pc_ok s_isIn) (fun v2 r => ?_)
  rw [Int32.toInt_toInt64, Int32.toInt_toInt64, i64_0, i32_m1 (by omega), h1] at r
  refine pc_ite (fun z => pc_ret ⟨fun y => absurd y c, fun _ => ⟨fun y => ?_, fun _ => k_m1⟩⟩) (fun z => ?_)
  · rw [fa_eq, k_0] at z
    exact absurd z (r.2.mpr ⟨y.1, by omega⟩)
  · rw [fa_eq, k_0] at z
    have p := r.2.mp z
    refine pc_ix (fun _ => ?_)
    refine pc_lt fun v4 e4 => ?_
    refine pc_ret ⟨fun y => absurd y c, fun _ => ⟨fun _ => ?_, fun y => absurd ⟨by omega, by omega⟩ y⟩⟩
    have q := h2 x.toInt.toNat (by omega)
    rw [q, e4]
    rfl
theorem m_cond {s : Sto} {A : Nat → PSt} {nb : Nat} {a b : Int32} (hB : BM s) (hn : (s.1 26 0).toInt = (nb : Int)) (L : LFTM nb A s) (hT : ∀ b t, b < nb → pTs (A (b + 1)) = some t → tN t ∧ tSz t ≤ 60) : PC (f_X12_condition a b s) (fun r => (((s.1 21 0).toInt ≠ 0 ∧ 0 ≤ a.toInt ∧ a.toInt < (nb : Int)) → CDR (pTs (A (a.toInt.toNat + 1))) b r.1) ∧ (¬ ((s.1 21 0).toInt ≠ 0 ∧ 0 ≤ a.toInt ∧ a.toInt < (nb : Int)) → r.1.toInt = -1)) := by
  have k_0 : (0 : Int32).toInt = 0 := by decide +kernel
  have k_m1 : ((-1) : Int32).toInt = -1 := by decide +kernel
  obtain ⟨n, tr, q1, q2, q3, q4, q5, q6⟩ := L
  unfold f_X12_condition
  refine pc_lt fun s1 e1 => ?_
  have fr : ∀ {k : Nat}, k ≠ 0 → s1.1 k = s.1 k := fun {k} hk => by rw [e1]; exact sti_o hk
  have B1 : BM s1 := by rw [e1]; exact pM_0 hB (by omega)
  refine pc_calp (t_isBlockM B1) (fun v1 h1 => ?_)
  rw [fr (show (21 : Nat) ≠ 0 by decide), fr (show (26 : Nat) ≠ 0 by decide), hn] at h1
  refine pc_ite (fun z => pc_ret ⟨fun y => ?_, fun _ => k_m1⟩) (fun z => ?_)
  · rw [fa_eq, k_0] at z
    exact absurd z (h1.mpr y)
  rw [fa_eq, k_0] at z
  have p := h1.mp z
  have ca := clamp_I p.2.1
  have ta : a.toInt.toNat = a.toNatClampNeg := rfl
  have w := q6 a.toNatClampNeg (by omega)
  have T := fun t => hT a.toNatClampNeg t (by omega)
  rw [ta]
  generalize pTs (A (a.toNatClampNeg + 1)) = o at *
  have yes : ∀ {r : Int32 × Sto}, CDR o b r.1 → PC (some r) (fun r => (((s.1 21 0).toInt ≠ 0 ∧ 0 ≤ a.toInt ∧ a.toInt < (nb : Int)) → CDR o b r.1) ∧ (¬ ((s.1 21 0).toInt ≠ 0 ∧ 0 ≤ a.toInt ∧ a.toInt < (nb : Int)) → r.1.toInt = -1)) := fun e => pc_ret ⟨fun _ => e, fun y => absurd p y⟩
  refine pc_ix (fun _ => ?_)
  refine pc_lt fun v4 e4 => ?_
  rw [fr (by decide)] at e4
  rw [← e4] at w
  cases o with
  | none =>
    refine pc_ite (fun _ => yes ⟨fun _ => k_m1, fun t ht => absurd ht (by simp)⟩) (fun y => absurd (by rw [fa_eq, k_m1]; exact w.no) y)
  | some t =>
    have tt := T t rfl
    refine pc_ite (fun y => absurd y w.nm1) (fun _ => ?_)
    refine pc_lt fun s6 e6 => ?_
    have f6 : FR [0, 66] [] s s6 := by rw [e6, e1]; exact FR.st (FR.st FR.rf (by decide)) (by decide)
    have P6 : PLM s6 n tr := q1.cg (fun k hk => f6.1 k (by simp; omega))
    have w6 : WRM s6 [] := ⟨by rw [e6, sti_s]; exact k_0, fun i hi => absurd hi (Nat.not_lt_zero _)⟩
    refine pc_ix (fun _ => ?_)
    refine pc_lt fun v7 e7 => ?_
    rw [f6.1 46 (by decide), ← e4] at e7
    subst e7
    refine pc_cals (v_exp 250 v7 s6 t [] P6 w tt.1 w6) (fun s8 u => ?_)
    rw [List.nil_append] at u
    refine pc_calp (m_told u.2) (fun v9 h9 => yes ⟨fun y => absurd y (by simp), fun t2 ht => ?_⟩)
    rw [← Option.some.inj ht]
    exact h9
theorem LFTX.ts {nb : Nat} {A : Nat → PSt} {σ : Sto} (L : LFTX nb A σ) : ∀ b t, b < nb → pTs (A (b + 1)) = some t → tN t ∧ tSz t ≤ 60 := by
  obtain ⟨n, tr, q1, q2, q3, q4, q5, q6, q7, q8⟩ := L
  intro b t hb ht
  have w := q6 b hb
  rw [ht] at w
  obtain ⟨e, a1, a2, a3, a4⟩ := w.so
  have z := (q1.2.2.1 e a2).2.2.2.2
  have y := q1.tN_ (e + 1) e (Nat.lt_succ_self _) a2
  rw [a3] at z y
  exact ⟨y, z⟩
theorem t_cond0 {σ : Sto} {a b : Int32} (h : (σ.1 0 0).toInt = 0) : PC (f_X11_condition a b σ) (fun r => r.1 = -1) := by
  have k_0 : (0 : Int32).toInt = 0 := by decide +kernel
  unfold f_X11_condition
  refine pc_calp t_isBlockX (fun v1 h1 => ?_)
  refine pc_ite (fun _ => pc_ret rfl) (fun z => ?_)
  rw [fa_eq, k_0] at z
  exact absurd h (h1.mp z).1
theorem m_cond0 {s : Sto} {a b : Int32} (hB : BM s) (h : (s.1 21 0).toInt = 0) : PC (f_X12_condition a b s) (fun r => r.1 = -1) := by
  have k_0 : (0 : Int32).toInt = 0 := by decide +kernel
  unfold f_X12_condition
  refine pc_lt fun s1 e1 => ?_
  have B1 : BM s1 := by rw [e1]; exact pM_0 hB (by omega)
  have f21 : s1.1 21 = s.1 21 := by rw [e1]; exact sti_o (by decide)
  refine pc_calp (t_isBlockM B1) (fun v1 h1 => ?_)
  refine pc_ite (fun _ => pc_ret rfl) (fun z => ?_)
  rw [fa_eq, k_0] at z
  exact absurd (by rw [f21]; exact h) (h1.mp z).1
theorem R_condition {σ s : Sto} (h : JT4 σ s) (a b : Int32) : ∃ v σ2 s2, f_X11_condition a b σ = some (v, σ2) ∧ f_X12_condition a b s = some (v, s2) ∧ JT4 σ2 s2 := by
  obtain ⟨v, σ2, w, s2, x, y, z⟩ := Q_condition h a b
  refine ⟨v, σ2, s2, x, ?_, z⟩
  have e : v = w := by
    have B := h.1.1.2.1.1
    have g20 := gX_20 h.1.1.1.1 0
    rcases h.ld with ⟨l1, l2⟩ | ⟨l1, l2⟩
    · have X := t_cond0 (a := a) (b := b) l1 _ x
      have M := m_cond0 (a := a) (b := b) B l2 _ y
      exact X.trans M.symm
    · obtain ⟨A, LX, LM, nx, mono⟩ := h.sts l1
      have nB' := nB_le B
      have c20 : (nbX σ : Int) = (σ.1 20 0).toInt := clamp_I g20.1
      have X := t_condX (a := a) (b := b) (nb := nB s) (by rw [← c20, nx]) nB'.1 LX _ x
      have M := m_cond (a := a) (b := b) B nB'.2.symm LM LX.ts _ y
      (try dsimp only at X M)
      by_cases Q : 0 ≤ a.toInt ∧ a.toInt < (nB s : Int)
      · exact (X.1 ⟨l1, Q⟩).uq (M.1 ⟨l2, Q⟩)
      · exact Int32.toInt_inj.mp ((X.2 (fun z => Q z.2)).trans (M.2 (fun z => Q z.2)).symm)
  rw [e]; exact y
