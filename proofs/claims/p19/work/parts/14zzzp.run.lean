/-- all that stands while lines are run, of both -/
theorem JT4.lst {σ s : Sto} (h : JT4 σ s) (hl : (σ.1 0 0).toInt ≠ 0) (hj : (s.1 36 0).toInt ≠ -1) : LSU σ s (pAllX σ) := by
  obtain ⟨A, L, D, K, hl2⟩ := h.laid hl
  obtain ⟨B, Q, KM, E⟩ := D.p
  obtain ⟨e20, e21, e23, _⟩ := h.eqe hl
  obtain ⟨q1, q2⟩ := h.lnq hl
  obtain ⟨n1, n2⟩ := q2 hj
  obtain ⟨w1, w2, w3, w4, w5, w6, w7⟩ := h.wtl hl hj
  have x := h.stx hl
  exact ⟨⟨D, D.runl hj, D.flw hj, D.uql hj, h.lkq hl hj⟩, ⟨n1, fun i hi => ⟨(n2 i hi).1, (n2 i hi).2.1, (n2 i hi).2.2.2⟩⟩, ⟨x.1, x.2, h.nma hl⟩, ⟨fun b hb => DSU.of B Q KM L.edm hb, fun b hb => (e21 b hb).2.2, fun e he => (w6 e he).2, w7⟩⟩
/-- it begins with nothing -/
theorem dep_0 {s : Sto} (hB : BM s) (hQ : QL s) (hK : BK s) : 0 < nC s ∧ dP s 0 = 0 ∧ bgP (dP s) (cT s) 0 = true ∧ 0 < nB s ∧ DEP s 0 = 0 := by
  have d0 : dP s 0 = 0 := hQ.2.2.2.2.2.1
  have n1 := hQ.1
  have n0 : 0 < nC s := by unfold nC; omega
  have dn : dP s 0 ≠ -1 := by rw [d0]; decide
  have bg : bgP (dP s) (cT s) 0 = true := bgP_t.mpr ⟨dn, Or.inr rfl⟩
  obtain ⟨c, c1, c2, c3⟩ := bg_at hB hQ hK n0 bg
  have h2 : ri (s.1 24) 0 = if dP s 0 ≠ -1 then (cbP (dP s) (cT s) (0 + 1) : Int) - 1 else -1 := hK.2.2.1 0 n0
  rw [if_pos dn, cbP_t bg] at h2
  have z : cbP (dP s) (cT s) 0 = 0 := rfl
  have e : ri (s.1 24) 0 = (s.1 24 0).toInt := rfl
  have c0 : c = 0 := by rw [z] at h2; omega
  subst c0
  refine ⟨n0, d0, bg, c1, ?_⟩
  unfold DEP
  rw [c3, d0]
  rfl
/-- whether it is run at all -/
def RNQ (s : Sto) (how lim : Int) : Prop := (s.1 21 0).toInt ≠ 0 ∧ (how = 0 ∨ (how = 1 ∧ (s.1 36 0).toInt ≠ -1)) ∧ 1 ≤ lim ∧ lim ≤ 200
theorem t_canRun {σ s : Sto} {x1 x2 : Int32} (h : JT4 σ s) : PC (f_X11_canRun x1 x2 σ) (fun v => (v = 1 ∧ RNQ s x1.toInt x2.toInt) ∨ (v = 0 ∧ ¬ RNQ s x1.toInt x2.toInt)) := by
  have k_0 : (0 : Int32).toInt = 0 := by decide +kernel
  have k_1 : (1 : Int32).toInt = 1 := by decide +kernel
  have k_200 : (200 : Int32).toInt = 200 := by decide +kernel
  unfold f_X11_canRun
  refine pc_ite (fun z => pc_ret (Or.inr ⟨rfl, fun q => ?_⟩)) (fun z => ?_)
  · rw [fa_eq, k_0] at z
    rcases h.ld with ⟨_, l⟩ | ⟨l, _⟩
    · exact q.1 l
    · exact l z
  rw [fa_eq, k_0] at z
  have l2 : (s.1 21 0).toInt ≠ 0 := by
    rcases h.ld with ⟨l, _⟩ | ⟨_, l⟩
    · exact absurd l z
    · exact l
  obtain ⟨q1, _⟩ := h.lnq z
  refine pc_ite (fun y => pc_ret (Or.inr ⟨rfl, fun q => ?_⟩)) (fun y => ?_)
  · rw [fa_lt, k_1] at y
    have := q.2.2.1
    omega
  rw [fa_lt, k_1] at y
  refine pc_ite (fun w => ?_) (fun w => pc_ret (Or.inr ⟨rfl, fun q => ?_⟩))
  rotate_left
  · rw [fa_le, k_200] at w
    have := q.2.2.2
    omega
  rw [fa_le, k_200] at w
  refine pc_jnI0 (x1.toInt = 0 ∨ (x1.toInt = 1 ∧ (s.1 36 0).toInt ≠ -1)) (fun z => pc_ret (Or.inl ⟨rfl, l2, z, by omega, w⟩)) (fun k40 h40 => ?_)
  refine pc_ite (fun t => h40 (Or.inl (by rw [fa_eq, k_0] at t; exact t))) (fun t => ?_)
  rw [fa_eq, k_0] at t
  refine pc_jnI0 (¬ (x1.toInt = 0 ∨ (x1.toInt = 1 ∧ (s.1 36 0).toInt ≠ -1))) (fun z => pc_ret (Or.inr ⟨rfl, fun q => z q.2.1⟩)) (fun k44 h44 => ?_)
  refine pc_ite (fun u => ?_) (fun u => h44 ?_)
  · rw [fa_eq, k_1] at u
    refine pc_ite (fun r => h40 (Or.inr ⟨u, ?_⟩)) (fun r => h44 ?_)
    · rw [fa_eq, k_0] at r
      exact q1.mp r
    · rw [fa_eq, k_0] at r
      intro o
      rcases o with o | o
      · exact t o
      · exact r (q1.mpr o.2)
  · rw [fa_eq, k_1] at u
    intro o
    rcases o with o | o
    · exact t o
    · exact u o.1
theorem m_hasRun0 {s : Sto} {x1 x2 x3 x4 x5 : Int32} (n : ¬ RNQ s x1.toInt x5.toInt) : PC (f_X12_hasRun x1 x2 x3 x4 x5 s) (fun r => r.1 = 0) := by
  have k_0 : (0 : Int32).toInt = 0 := by decide +kernel
  have k_1 : (1 : Int32).toInt = 1 := by decide +kernel
  have k_m1 : ((-1) : Int32).toInt = -1 := by decide +kernel
  unfold f_X12_hasRun
  refine pc_ite (fun _ => pc_ret rfl) (fun z => ?_)
  rw [fa_eq, k_0] at z
  refine pc_calp (pc_ok s_isIn) (fun v2 w => ?_)
  rw [Int32.toInt_toInt64, i64_0, i64_1] at w
  refine pc_ite (fun _ => pc_ret rfl) (fun y => ?_)
  rw [fa_eq, k_0] at y
  have y2 := w.2.mp y
  refine pc_jnI0 (x1.toInt = 0 ∨ (x1.toInt = 1 ∧ (s.1 36 0).toInt ≠ -1)) (fun q2 => ?_) (fun k30 h30 => ?_)
  rotate_left
  · refine pc_ite (fun u => ?_) (fun u => h30 (Or.inl ?_))
    · refine pc_ite (fun _ => pc_ret rfl) (fun r => h30 (Or.inr ⟨?_, ?_⟩))
      · rw [fa_eq, k_1] at u
        exact u
      · rw [fa_eq, k_m1] at r
        exact r
    · rw [fa_eq, k_1] at u
      omega
  refine pc_calp (pc_ok s_isIn) (fun v5 w2 => ?_)
  rw [Int32.toInt_toInt64, i64_200, i64_1] at w2
  refine pc_ite (fun _ => pc_ret rfl) (fun t => ?_)
  rw [fa_eq, k_0] at t
  exact absurd ⟨z, q2, w2.2.mp t⟩ n
theorem m_hasRun1 {s : Sto} {x1 x2 x3 x4 x5 : Int32} {Qm : Int32 × Sto → Prop} (hB : BM s) (q : RNQ s x1.toInt x5.toInt) (hh : ∀ m, FR BGN [] s m → RMM (RUB x2 x3 x4) m → m.1 73 0 = 0 → m.1 74 0 = -1 → m.1 75 0 = 0 → m.1 77 0 = x5 → BM m → (x1.toInt = 0 → PC (f_X12_runsCode m) (fun m2 => Qm (1, m2))) ∧ (x1.toInt ≠ 0 → PC (f_X12_runsLines m) (fun m2 => Qm (1, m2)))) : PC (f_X12_hasRun x1 x2 x3 x4 x5 s) Qm := by
  have k_0 : (0 : Int32).toInt = 0 := by decide +kernel
  have k_1 : (1 : Int32).toInt = 1 := by decide +kernel
  have k_m1 : ((-1) : Int32).toInt = -1 := by decide +kernel
  obtain ⟨q1, q2, q3, q4⟩ := q
  unfold f_X12_hasRun
  refine pc_ite (fun z => ?_) (fun _ => ?_)
  · rw [fa_eq, k_0] at z
    exact absurd z q1
  refine pc_calp (pc_ok s_isIn) (fun v2 w => ?_)
  rw [Int32.toInt_toInt64, i64_0, i64_1] at w
  refine pc_ite (fun z => ?_) (fun _ => ?_)
  · rw [fa_eq, k_0] at z
    exact absurd z (w.2.mpr (by omega))
  refine pc_jnI0 True (fun _ => ?_) (fun k30 h30 => ?_)
  rotate_left
  · refine pc_ite (fun y => ?_) (fun _ => h30 trivial)
    refine pc_ite (fun z => ?_) (fun _ => h30 trivial)
    rw [fa_eq, k_1] at y
    rw [fa_eq, k_m1] at z
    rcases q2 with r | r
    · omega
    · exact absurd z r.2
  refine pc_calp (pc_ok s_isIn) (fun v5 w2 => ?_)
  rw [Int32.toInt_toInt64, i64_200, i64_1] at w2
  refine pc_ite (fun z => ?_) (fun _ => ?_)
  · rw [fa_eq, k_0] at z
    exact absurd z (w2.2.mpr ⟨q3, q4⟩)
  refine pc_cals (pc_and m_begins (pc_ok (s_begins hB ⟨q3, q4⟩))) (fun s7 t => ?_)
  obtain ⟨⟨t1, t2, t3, t4, t5, t6⟩, t7⟩ := t
  have g := hh s7 t1 t2 t3 t4 t5 t6 t7.1
  refine pc_ite (fun y => ?_) (fun y => ?_)
  · rw [fa_eq, k_0] at y
    exact pc_cals (g.1 y) (fun s9 w => pc_ret w)
  · rw [fa_eq, k_0] at y
    exact pc_cals (g.2 y) (fun s9 w => pc_ret w)
/-- both run alike -/
theorem both_run {σ s : Sto} {x1 x2 x3 x4 x5 a : Int32} (h : JT4 σ s) (q : RNQ s x1.toInt x5.toInt) : PC (f_X5_begin x2 x3 x4 x5 a σ) (fun c => PC (f_X11_goThrough x1 c) (fun c2 => PC (f_X12_hasRun x1 x2 x3 x4 x5 s) (fun r => r.1 = 1 ∧ REN a c2 r.2))) := by
  have k_0 : (0 : Int32).toInt = 0 := by decide +kernel
  have c0 : (0 : Int32).toNatClampNeg = 0 := by decide +kernel
  have hl : (σ.1 0 0).toInt ≠ 0 := by
    rcases h.ld with ⟨_, l⟩ | ⟨l, _⟩
    · exact absurd l q.1
    · exact l
  obtain ⟨A, L, D, K, hl2⟩ := h.laid hl
  obtain ⟨B, Q, KM, E⟩ := D.p
  obtain ⟨z1, z2, z3, z4, z5⟩ := dep_0 B Q KM
  have q4 := q.2.2.2
  have q3 := q.2.2.1
  refine pc_imp t_begin (fun c hc => ?_)
  obtain ⟨fc, hR, c84, c86, c87, c83, c81⟩ := hc
  have Fc : FR RXL [] σ c := FR.cal FR.rf fc rfl rfl
  unfold f_X11_goThrough
  refine pc_ite (fun y => ?_) (fun y => ?_)
  · rw [fa_eq, k_0] at y
    refine pc_cals (Q := fun c2 => PC (f_X12_hasRun x1 x2 x3 x4 x5 s) (fun r => r.1 = 1 ∧ REN a c2 r.2)) ?_ (fun s2 w => pc_ret w)
    refine pc_sw (R := fun (r : Int32 × Sto) (c2 : Sto) => r.1 = 1 ∧ REN a c2 r.2) ?_
    refine m_hasRun1 B q (fun m fm hM m73 m74 m75 m77 Bm => ⟨fun _ => ?_, fun n => absurd y n⟩)
    refine gRC_e (fun s2 e2 => ?_)
    have f2 : FR [78, 81] [] m s2 := by rw [e2]; exact FR.st (FR.st FR.rf (by decide)) (by decide)
    have F2 : FR RLX [] s s2 := FR.cal (FR.cal FR.rf fm rfl rfl) f2 rfl rfl
    have a77 : s2.1 77 0 = x5 := by rw [f2.1 77 (by decide)]; exact m77
    have a73 : s2.1 73 0 = 0 := by rw [f2.1 73 (by decide)]; exact m73
    rw [gXC_e]
    refine pc_sw (R := fun (c2 m2 : Sto) => (1 : Int32) = 1 ∧ REN a c2 m2) ?_
    refine pc_imp (code_ls (h.csp hl) LF LF 0 0 c s2 [] (RUB x2 x3 x4) ⟨⟨Fc, F2⟩, ⟨hR, hM.fr f2 rfl⟩, ⟨⟨by rw [c81, k_0]; rfl, fun i hi => absurd hi (Nat.not_lt_zero i)⟩, ⟨by rw [e2, sti_o (by decide), sti_s, k_0]; rfl, fun i hi => absurd hi (Nat.not_lt_zero i)⟩⟩, ⟨c84, by rw [e2, sti_s], by rw [f2.1 74 (by decide)]; exact m74, c86, by rw [f2.1 75 (by decide)]; exact m75⟩, ⟨by rw [c83, a77], by rw [c87, a73], by rw [a77]; exact q4, by rw [a73]; omega, by rw [a73, a77]; omega⟩, ⟨by omega, by rw [c0]; exact z1, by rw [c0, z2]; decide, by rw [c0, z2]; rfl⟩, by omega, Or.inl ⟨by rw [c0]; exact z3, by rw [a73]; omega⟩⟩) (fun c2 hc2 => pc_imp hc2 (fun m2 hm2 => ⟨rfl, hm2⟩))
  · rw [fa_eq, k_0] at y
    have hj : (s.1 36 0).toInt ≠ -1 := by
      rcases q.2.1 with w | w
      · exact absurd w y
      · exact w.2
    have P := h.lst hl hj
    refine pc_cals (Q := fun c2 => PC (f_X12_hasRun x1 x2 x3 x4 x5 s) (fun r => r.1 = 1 ∧ REN a c2 r.2)) ?_ (fun s2 w => pc_ret w)
    refine pc_sw (R := fun (r : Int32 × Sto) (c2 : Sto) => r.1 = 1 ∧ REN a c2 r.2) ?_
    refine m_hasRun1 B q (fun m fm hM m73 m74 m75 m77 Bm => ⟨fun n => absurd n y, fun _ => ?_⟩)
    refine gRL_e Bm (fun t bt ft t78 => ?_)
    have F2 : FR RLX [] s t := FR.cal (FR.cal FR.rf fm rfl rfl) ft rfl rfl
    have a77 : t.1 77 0 = x5 := by rw [ft.1 77 (by decide)]; exact m77
    have a73 : t.1 73 0 = 0 := by rw [ft.1 73 (by decide)]; exact m73
    have Rt : RMM (RUB x2 x3 x4) t := hM.fr ft rfl
    have a71 : (t.1 71 0).toInt = 0 := Rt.2.2.2.1
    rw [gXL_e]
    refine pc_sw (R := fun (c2 m2 : Sto) => (1 : Int32) = 1 ∧ REN a c2 m2) ?_
    refine pc_imp (lines_ls P LF LF 0 0 c t (RUB x2 x3 x4) 2000 0 ⟨⟨Fc, F2⟩, ⟨hR, Rt, bt⟩, ⟨c84, t78, by rw [ft.1 74 (by decide)]; exact m74, c86, by rw [ft.1 75 (by decide)]; exact m75⟩, ⟨by rw [c83, a77], by rw [c87, a73], by rw [a77]; exact q4, by rw [a73]; omega, by rw [a73, a77]; omega⟩, ⟨by omega, by rw [c0]; exact (D.runl hj).1, by rw [a71, a73]; omega, Or.inl ⟨0, z4, by rw [c0]; exact (D.flw hj).1, fun k hk => ?_, fun x hx => hx.elim⟩⟩, by omega, by rw [a73]; omega⟩) (fun c2 hc2 => pc_imp hc2 (fun m2 hm2 => ⟨rfl, hm2⟩))
    rw [z5] at hk
    exact absurd hk (Nat.not_lt_zero k)
theorem JT4.no_thrown {σ s s1 : Sto} (h : JT4 σ s) (e1 : s1 = sti s 0 0 0) : JT4 σ s1 := by
  have f1 : FR [0] [] s s1 := by rw [e1]; exact FR.st FR.rf (by decide)
  have G := h.1.1.2.1
  have B1 : BM s1 := by rw [e1]; exact pM_0 G.1 (by decide +kernel)
  exact h.m (G.fr B1 f1 rfl rfl)
theorem run_eq {σ s : Sto} (h : JT4 σ s) {x1 x2 x3 x4 x5 x6 : Int32} : PC (f_X11_run x1 x2 x3 x4 x5 x6 σ) (fun r => PC (f_X12_run x1 x2 x3 x4 x5 x6 s) (fun q => r.1 = q.1)) := by
  have k_0 : (0 : Int32).toInt = 0 := by decide +kernel
  have k_11 : (11 : Int32).toInt = 11 := by decide +kernel
  have k_5 : (5 : Int32).toInt = 5 := by decide +kernel
  have h2 : JT4 σ (sti s 0 0 0) := h.no_thrown rfl
  -- what the reference answers
  have ref0 : (x6.toInt < 0 ∨ 11 < x6.toInt) → PC (f_X12_run x1 x2 x3 x4 x5 x6 s) (fun q => q.1 = -1000000) := fun z => by
    unfold f_X12_run
    refine pc_lt fun s1 e1 => ?_
    refine pc_calp (pc_ok s_isIn) (fun v2 q => ?_)
    rw [Int32.toInt_toInt64, i64_0, i64_11] at q
    refine pc_ite (fun _ => pc_ret rfl) (fun c1 => ?_)
    rw [fa_eq, k_0] at c1
    have := q.2.mp c1
    omega
  have ref1 : ¬ RNQ (sti s 0 0 0) x1.toInt x5.toInt → PC (f_X12_run x1 x2 x3 x4 x5 x6 s) (fun q => q.1 = -1000000) := fun n => by
    unfold f_X12_run
    refine pc_lt fun s1 e1 => ?_
    rw [← e1] at n
    refine pc_calp (pc_ok s_isIn) (fun v2 q => ?_)
    refine pc_ite (fun _ => pc_ret rfl) (fun _ => ?_)
    refine pc_calv (m_hasRun0 n) (fun v4 s4 w => ?_)
    (try dsimp only at w)
    exact pc_ite (fun _ => pc_ret rfl) (fun y => absurd w y)
  unfold f_X11_run
  refine pc_calp (t_canRun h2) (fun v1 w1 => ?_)
  refine pc_ite (fun z => ?_) (fun z => ?_)
  · have n : ¬ RNQ (sti s 0 0 0) x1.toInt x5.toInt := by
      rcases w1 with w | w
      · rw [w.1] at z
        exact absurd z (by decide)
      · exact w.2
    exact pc_ret (pc_imp (ref1 n) (fun q hq => hq.symm))
  have R0 : RNQ (sti s 0 0 0) x1.toInt x5.toInt := by
    rcases w1 with w | w
    · exact w.2
    · exact absurd w.1 z
  refine pc_ite (fun y => ?_) (fun y => ?_)
  · rw [fa_lt, k_0] at y
    exact pc_ret (pc_imp (ref0 (Or.inl y)) (fun q hq => hq.symm))
  rw [fa_lt, k_0] at y
  refine pc_ite (fun u => ?_) (fun u => ?_)
  rotate_left
  · rw [fa_le, k_11] at u
    exact pc_ret (pc_imp (ref0 (Or.inr (by omega))) (fun q hq => hq.symm))
  rw [fa_le, k_11] at u
  refine pc_cals (both_run h2 R0) (fun s5 w5 => ?_)
  refine pc_cals w5 (fun s6 w6 => ?_)
  have ref2 : ∀ {Qm : Int32 × Sto → Prop}, (∀ (m : Sto) (R : RUS), RXX (-1) R s6 → RMM R m → s6.1 86 0 = m.1 74 0 → ((s6.1 86 0 = 1 ∧ s6.1 85 0 = m.1 75 0) ∨ (s6.1 86 0 ≠ 1 ∧ m.1 75 0 = 0)) → s6.1 87 0 = m.1 73 0 → (x6.toInt = 0 → Qm (m.1 71 0, m)) ∧ (x6.toInt = 1 → Qm (m.1 74 0, m)) ∧ (x6.toInt = 2 → Qm (m.1 75 0, m)) ∧ (x6.toInt = 3 → Qm (m.1 72 0, m)) ∧ (x6.toInt = 4 → Qm (m.1 73 0, m)) ∧ (x6.toInt = 11 → PC (f_X12_folded m) (fun v => Qm (v, m))) ∧ (5 ≤ x6.toInt → x6.toInt ≤ 10 → Qm (m.1 69 (x6 - 5).toNatClampNeg, m))) → PC (f_X12_run x1 x2 x3 x4 x5 x6 s) Qm := fun {Qm} hh => by
    unfold f_X12_run
    refine pc_lt fun s1 e1 => ?_
    rw [← e1] at w6
    refine pc_calp (pc_ok s_isIn) (fun v2 q => ?_)
    rw [Int32.toInt_toInt64, i64_0, i64_11] at q
    refine pc_ite (fun c1 => ?_) (fun _ => ?_)
    · rw [fa_eq, k_0] at c1
      exact absurd c1 (q.2.mpr ⟨by omega, u⟩)
    refine pc_calv w6 (fun v4 s4 w => ?_)
    obtain ⟨w7, R, r1, r2, r3, r4, r5⟩ := w
    (try dsimp only at w7 r2 r3 r4 r5)
    obtain ⟨g0, g1, g2, g3, g4, g11, g5⟩ := hh s4 R r1 r2 r3 r4 r5
    refine pc_ite (fun c => ?_) (fun _ => ?_)
    · rw [w7] at c
      exact absurd c (by decide)
    refine pc_ite (fun c => pc_ret (g0 c)) (fun c0 => ?_)
    refine pc_ite (fun c => pc_ret (g1 c)) (fun c1 => ?_)
    refine pc_ite (fun c => pc_ret (g2 c)) (fun c2 => ?_)
    refine pc_ite (fun c => pc_ret (g3 c)) (fun c3 => ?_)
    refine pc_ite (fun c => pc_ret (g4 c)) (fun c4 => ?_)
    refine pc_ite (fun c => pc_calp (g11 c) (fun v w => pc_ret w)) (fun c11 => ?_)
    refine pc_ix (fun _ => ?_)
    exact pc_lt fun v8 e8 => pc_ret (by rw [e8]; exact g5 (by omega) (by omega))
  refine pc_ite (fun c => pc_ret (ref2 (fun m R r1 r2 r3 r4 r5 => ⟨fun _ => ?_, fun d => absurd d (by omega), fun d => absurd d (by omega), fun d => absurd d (by omega), fun d => absurd d (by omega), fun d => absurd d (by omega), fun d _ => absurd d (by omega)⟩))) (fun c0 => ?_)
  · show s6.1 89 0 = m.1 71 0
    have e := r2.2.2.2.1
    have l := r2.2.2.2.2.1
    rw [r1.2.2.2.1, nI_id (x := m.1 71 0) (by omega), nI_b e]
  refine pc_ite (fun c => pc_ret (ref2 (fun m R r1 r2 r3 r4 r5 => ⟨fun d => absurd d (by omega), fun _ => r3, fun d => absurd d (by omega), fun d => absurd d (by omega), fun d => absurd d (by omega), fun d => absurd d (by omega), fun d _ => absurd d (by omega)⟩))) (fun c1 => ?_)
  refine pc_ite (fun c => ?_) (fun c2 => ?_)
  · refine pc_ite (fun z => pc_ret (ref2 (fun m R r1 r2 r3 r4 r5 => ⟨fun d => absurd d (by omega), fun d => absurd d (by omega), fun _ => ?_, fun d => absurd d (by omega), fun d => absurd d (by omega), fun d => absurd d (by omega), fun d _ => absurd d (by omega)⟩))) (fun z => pc_ret (ref2 (fun m R r1 r2 r3 r4 r5 => ⟨fun d => absurd d (by omega), fun d => absurd d (by omega), fun _ => ?_, fun d => absurd d (by omega), fun d => absurd d (by omega), fun d => absurd d (by omega), fun d _ => absurd d (by omega)⟩)))
    · rcases r4 with w | w
      · exact w.2
      · exact absurd z w.1
    · rcases r4 with w | w
      · exact absurd w.1 z
      · exact w.2.symm
  refine pc_ite (fun c => pc_ret (ref2 (fun m R r1 r2 r3 r4 r5 => ⟨fun d => absurd d (by omega), fun d => absurd d (by omega), fun d => absurd d (by omega), fun _ => r1.2.2.1.trans r2.2.2.1.symm, fun d => absurd d (by omega), fun d => absurd d (by omega), fun d _ => absurd d (by omega)⟩))) (fun c3 => ?_)
  refine pc_ite (fun c => pc_ret (ref2 (fun m R r1 r2 r3 r4 r5 => ⟨fun d => absurd d (by omega), fun d => absurd d (by omega), fun d => absurd d (by omega), fun d => absurd d (by omega), fun _ => r5, fun d => absurd d (by omega), fun d _ => absurd d (by omega)⟩))) (fun c4 => ?_)
  refine pc_ite (fun c => pc_ret (ref2 (fun m R r1 r2 r3 r4 r5 => ⟨fun d => absurd d (by omega), fun d => absurd d (by omega), fun d => absurd d (by omega), fun d => absurd d (by omega), fun d => absurd d (by omega), fun _ => pc_imp (m_folded r2) (fun v hv => ?_), fun d _ => absurd d (by omega)⟩))) (fun c11 => ?_)
  · show s6.1 90 0 = v
    rw [hv]
    exact r1.2.2.2.2.1
  refine pc_ix (fun b => ?_)
  have cb := clamp_I b.1
  refine pc_lt fun v9 e9 => pc_ret (ref2 (fun m R r1 r2 r3 r4 r5 => ⟨fun d => absurd d (by omega), fun d => absurd d (by omega), fun d => absurd d (by omega), fun d => absurd d (by omega), fun d => absurd d (by omega), fun d => absurd d (by omega), fun _ _ => ?_⟩))
  show v9 = m.1 69 (x6 - 5).toNatClampNeg
  rw [e9, r1.1 _ (by omega), r2.1 _ (by omega)]
theorem R_run {σ s : Sto} (h : JT4 σ s) (a b c d e f : Int32) : ∃ v σ2 s2, f_X11_run a b c d e f σ = some (v, σ2) ∧ f_X12_run a b c d e f s = some (v, s2) ∧ JT4 σ2 s2 := by
  obtain ⟨v, σ2, w, s2, x, y, z⟩ := Q_run h a b c d e f
  have q : v = w := run_eq h _ x _ y
  subst q
  exact ⟨v, σ2, s2, x, y, z⟩
theorem output_eq {σ s : Sto} (h : JT4 σ s) {x1 x2 x3 x4 x5 x6 : Int32} : PC (f_X11_output x1 x2 x3 x4 x5 x6 σ) (fun r => PC (f_X12_output x1 x2 x3 x4 x5 x6 s) (fun q => r.1 = q.1)) := by
  have k_0 : (0 : Int32).toInt = 0 := by decide +kernel
  have h2 : JT4 σ (sti s 0 0 0) := h.no_thrown rfl
  have ref1 : (x6.toInt < 0 ∨ ¬ RNQ (sti s 0 0 0) x1.toInt x5.toInt) → PC (f_X12_output x1 x2 x3 x4 x5 x6 s) (fun q => q.1 = -1000000) := fun n => by
    unfold f_X12_output
    refine pc_lt fun s1 e1 => ?_
    rw [← e1] at n
    refine pc_jnI1 (fun _ => True) (fun t _ => pc_ret rfl) (fun k hk => ?_)
    refine pc_ite (fun _ => hk s1 trivial) (fun c => ?_)
    rw [fa_lt, k_0] at c
    refine pc_calv (m_hasRun0 (n.resolve_left c)) (fun v4 s4 w => ?_)
    (try dsimp only at w)
    exact pc_ite (fun _ => hk s4 trivial) (fun y => absurd w y)
  unfold f_X11_output
  refine pc_calp (t_canRun h2) (fun v1 w1 => ?_)
  refine pc_ite (fun z => ?_) (fun z => ?_)
  · have n : ¬ RNQ (sti s 0 0 0) x1.toInt x5.toInt := by
      rcases w1 with w | w
      · rw [w.1] at z
        exact absurd z (by decide)
      · exact w.2
    exact pc_ret (pc_imp (ref1 (Or.inr n)) (fun q hq => hq.symm))
  have R0 : RNQ (sti s 0 0 0) x1.toInt x5.toInt := by
    rcases w1 with w | w
    · exact w.2
    · exact absurd w.1 z
  refine pc_ite (fun y => ?_) (fun y => ?_)
  rotate_left
  · rw [fa_le, k_0] at y
    exact pc_ret (pc_imp (ref1 (Or.inl (by omega))) (fun q hq => hq.symm))
  rw [fa_le, k_0] at y
  refine pc_cals (both_run h2 R0) (fun s4 w4 => ?_)
  refine pc_cals w4 (fun s5 w5 => ?_)
  have ref2 : ∀ {Qm : Int32 × Sto → Prop}, (∀ (m : Sto) (R : RUS), RXX x6 R s5 → RMM R m → (m.1 71 0 ≤ x6 → ∀ u, Qm (-1000000, u)) ∧ (¬ m.1 71 0 ≤ x6 → Qm (m.1 70 x6.toNatClampNeg, m))) → PC (f_X12_output x1 x2 x3 x4 x5 x6 s) Qm := fun {Qm} hh => by
    unfold f_X12_output
    refine pc_lt fun s1 e1 => ?_
    rw [← e1] at w5
    refine pc_jnI1 (fun _ => ∀ u, Qm (-1000000, u)) (fun t ht => pc_ret (ht t)) (fun k hk => ?_)
    refine pc_ite (fun c => ?_) (fun c => ?_)
    · rw [fa_lt, k_0] at c
      omega
    refine pc_calv w5 (fun v4 s6 w => ?_)
    obtain ⟨w7, R, r1, r2, r3, r4, r5⟩ := w
    (try dsimp only at w7 r2)
    obtain ⟨g0, g1⟩ := hh s6 R r1 r2
    refine pc_ite (fun c => ?_) (fun _ => ?_)
    · rw [w7] at c
      exact absurd c (by decide)
    refine pc_ite (fun c => hk s6 (g0 c)) (fun c => ?_)
    refine pc_ix (fun _ => ?_)
    exact pc_lt fun v8 e8 => pc_ret (by rw [e8]; exact g1 c)
  have e89 : ∀ {m : Sto} {R : RUS}, RXX x6 R s5 → RMM R m → s5.1 89 0 = m.1 71 0 := fun {m R} r1 r2 => by
    have e := r2.2.2.2.1
    have l := r2.2.2.2.2.1
    rw [r1.2.2.2.1, nI_id (x := m.1 71 0) (by omega), nI_b e]
  refine pc_ite (fun c => pc_ret (ref2 (fun m R r1 r2 => ⟨fun _ _ => rfl, fun d => ?_⟩))) (fun c => pc_ret (ref2 (fun m R r1 r2 => ⟨fun d => ?_, fun d => ?_⟩)))
  · rw [e89 r1 r2] at c
    exact absurd c d
  · rw [e89 r1 r2] at c
    exact absurd d c
  · show s5.1 92 0 = m.1 70 x6.toNatClampNeg
    have e := r2.2.2.2.1
    rw [fa_le] at d
    have cx := clamp_I y
    rw [r1.2.2.2.2.2.2, wnt_old r2.2.2.2.2.1 y (by omega), r2.2.2.2.2.2 _ (by omega)]
theorem R_output {σ s : Sto} (h : JT4 σ s) (a b c d e f : Int32) : ∃ v σ2 s2, f_X11_output a b c d e f σ = some (v, σ2) ∧ f_X12_output a b c d e f s = some (v, s2) ∧ JT4 σ2 s2 := by
  obtain ⟨v, σ2, w, s2, x, y, z⟩ := Q_output h a b c d e f
  have q : v = w := output_eq h _ x _ y
  subst q
  exact ⟨v, σ2, s2, x, y, z⟩
