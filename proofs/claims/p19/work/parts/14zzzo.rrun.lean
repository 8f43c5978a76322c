def gXL : (Int32 → Int32 → Sto → Option Sto) → (Int32 → Int32 → Sto → Option Sto) := fun (a_4 : Int32 → Int32 → Sto → Option Sto) (x1_1 : Int32) (x2_1 : Int32) (s_1 : Sto) => (
    if 1000000 ≤ x2_1 then (
      some s_1
    ) else (
      if x1_1 < 0 then (
        some s_1
      ) else (
        if (s_1.1 68 0) ≤ x1_1 then (
          some s_1
        ) else (
          ix 800 x1_1 <| lt (s_1.1 69 x1_1.toNatClampNeg) fun v_5 =>
          jn (fun (s_6 : Sto) => (
            calv (f_X5_follow x1_1 s_6) fun v_7 s_7 =>
            lt (x2_1 + 1) fun x2_8 =>
            a_4 v_7 x2_8 s_7
          )) fun k_47 =>
          if v_5 = 11 then (
            calv (f_X5_enter s_1) fun v_10 s_10 =>
            if v_10 = 0 then (
              some s_10
            ) else (
              k_47 s_10
            )
          ) else (
            k_47 s_1
          )
        )
      )
    )
  )
theorem gXL_e {σ : Sto} : f_X5_goThroughLines σ = itr (fun _ _ _ => none) gXL LF (0 : Int32) (0 : Int32) σ := rfl
def gRL : (Int32 → Sto → Option Sto) → (Int32 → Sto → Option Sto) := fun (a_51 : Int32 → Sto → Option Sto) (x1_6 : Int32) (s_6 : Sto) => (
            if (s_6.1 74 0) = (-1) then (
              calv (f_X12_nextLine x1_6 s_6) fun v_8 s_8 =>
              a_51 v_8 s_8
            ) else (
              some s_6
            )
          )
theorem gRL_e {s : Sto} {Q : Sto → Prop} (hB : BM s) (h : ∀ t, BM t → FR [78, 82, 83] [] s t → t.1 78 0 = 0 → PC (itr (fun _ _ => none) gRL LF (0 : Int32) t) Q) : PC (f_X12_runsLines s) Q := by
  have k_0 : (0 : Int32).toInt = 0 := by decide +kernel
  unfold f_X12_runsLines
  refine pc_lt fun s1 e1 => ?_
  have b1 : BM s1 := by rw [e1]; exact pM_78 hB (by omega)
  have F1 : FR [78, 82, 83] [] s s1 := by rw [e1]; exact FR.st FR.rf (by decide)
  have z1 : s1.1 78 0 = 0 := by rw [e1, sti_s]
  refine pc_itr2 (fun _ u => BM u ∧ FR [78, 82, 83] [] s u ∧ u.1 78 0 = 0) ?_ ⟨b1, F1, z1⟩
  intro ag x u I ih
  obtain ⟨u1, u2, u3⟩ := I
  refine pc_ite (fun _ => ?_) (fun _ => ?_)
  · refine pc_itr2 (fun _ w => BM w ∧ FR [78, 82, 83] [] s w ∧ w.1 78 0 = 0) ?_ ⟨u1, u2, u3⟩
    intro ag x w I ih
    obtain ⟨w1, w2, w3⟩ := I
    refine pc_ite (fun _ => ?_) (fun _ => ?_)
    · exact h w w1 w2 w3
    · refine pc_ix (fun _ => ?_)
      refine pc_lt fun s9 e9 => ?_
      refine pc_lt fun x10 _ => ?_
      exact ih x10 s9 ⟨by rw [e9]; exact pM_83 w1 (tI_rng _), by rw [e9]; exact FR.st w2 (by decide), by rw [e9, sti_o (by decide)]; exact w3⟩
  · refine pc_ix (fun _ => ?_)
    refine pc_lt fun s11 e11 => ?_
    refine pc_lt fun x12 _ => ?_
    exact ih x12 s11 ⟨by rw [e11]; exact pM_82 u1 (tI_rng _), by rw [e11]; exact FR.st u2 (by decide), by rw [e11, sti_o (by decide)]; exact u3⟩
theorem gXL_end {N : Nat} {k : Int32} {c : Sto} : PC (itr (fun _ _ _ => none) gXL N (-1) k c) (fun d => d = c) := by
  cases N with
  | zero => exact (pc_no : PC (none : Option Sto) _)
  | succ N =>
    show PC (gXL (itr (fun _ _ _ => none) gXL N) (-1) k c) _
    unfold gXL
    exact pc_ite (fun _ => pc_ret rfl) (fun _ => pc_ite (fun _ => pc_ret rfl) (fun z => absurd (by decide) z))
theorem gRL_end {M : Nat} {x : Int32} {m : Sto} (h : m.1 74 0 ≠ -1) : PC (itr (fun _ _ => none) gRL M x m) (fun d => d = m) := by
  cases M with
  | zero => exact (pc_no : PC (none : Option Sto) _)
  | succ M =>
    show PC (gRL (itr (fun _ _ => none) gRL M) x m) _
    unfold gRL
    exact pc_ite (fun z => absurd z h) (fun _ => pc_ret rfl)
/-- both runs of the lines, at one line -/
def LKL (σ s : Sto) (A : Nat → PSt) (a x k : Int32) (c m : Sto) (R : RUS) (n : Nat) (o : Int) : Prop := (FR RXL [] σ c ∧ FR RLX [] s m) ∧ (RXX a R c ∧ RMM R m ∧ BM m) ∧ (c.1 84 0 = 0 ∧ m.1 78 0 = 0 ∧ m.1 74 0 = -1 ∧ c.1 86 0 = 0 ∧ m.1 75 0 = 0) ∧ (c.1 83 0 = m.1 77 0 ∧ c.1 87 0 = m.1 73 0 ∧ (m.1 77 0).toInt ≤ 200 ∧ 0 ≤ (m.1 73 0).toInt ∧ (m.1 73 0).toInt ≤ (m.1 77 0).toInt) ∧ (0 ≤ x.toInt ∧ GO s n o x.toNatClampNeg ∧ (m.1 71 0).toInt + o ≤ 40 * (m.1 73 0).toInt ∧ LMD s A c m x.toNatClampNeg) ∧ 0 ≤ k.toInt ∧ k.toInt + (n : Int) ≤ 2001 * ((m.1 73 0).toInt + 1)
theorem lines_ls {σ s : Sto} {A : Nat → PSt} {a : Int32} (P : LSU σ s A) : ∀ (M N : Nat) (x k : Int32) (c m : Sto) (R : RUS) (n : Nat) (o : Int), LKL σ s A a x k c m R n o → PC (itr (fun _ _ _ => none) gXL N x k c) (fun c2 => PC (itr (fun _ _ => none) gRL M x m) (fun m2 => REN a c2 m2))
  | 0, _, _, _, _, _, _, _, _, _ => fun _ _ => (pc_no : PC (none : Option Sto) _)
  | M + 1, 0, _, _, _, _, _, _, _, _ => (pc_no : PC (none : Option Sto) _)
  | M + 1, N + 1, x, k, c, m, R, n, o, h => by
    have k_0 : (0 : Int32).toInt = 0 := by decide +kernel
    have k_11 : (11 : Int32).toInt = 11 := by decide +kernel
    have k_m1 : ((-1) : Int32).toInt = -1 := by decide +kernel
    have k_M : (1000000 : Int32).toInt = 1000000 := by decide +kernel
    obtain ⟨⟨fc, fm⟩, ⟨hR, hM, hB⟩, ⟨c84, m78, m74, c86, m75⟩, ⟨lim, ent, l200, e0, el⟩, ⟨x0, g, ho, L⟩, k0, kb⟩ := h
    cases n with
    | zero => exact g.elim
    | succ n =>
    have P0 := P
    obtain ⟨⟨LD, RU, FL, U, K⟩, ⟨A68, AL⟩, _, _⟩ := P
    have hBs := LD.1
    have nl := nL_le hBs
    have g62 := gM_62 hBs 0
    have cx := clamp_I x0
    have g' : GOb s (GO s n) o x.toNatClampNeg := g
    have o0 := g'.1.1
    have xl := g'.1.2
    have nle : (nL s : Int) = (s.1 62 0).toInt := by
      have := gM_62 hBs 0
      show ((s.1 62 0).toInt.toNat : Int) = _
      omega
    have ek1 : (k + 1).toInt = k.toInt + 1 := i1 (by omega)
    have ex1 : (x + 1).toInt = x.toInt + 1 := i1 (by omega)
    have nx1 : (x + 1).toNatClampNeg = x.toNatClampNeg + 1 := by have := clamp_I (x := x + 1) (by omega); omega
    have nxt := s_nextLine (x := x) LD RU hB fm el ho x0 g
    show PC (gXL (itr (fun _ _ _ => none) gXL N) x k c) (fun c2 => PC (gRL (itr (fun _ _ => none) gRL M) x m) (fun m2 => REN a c2 m2))
    -- the reference's line
    have ref : ∀ {Q : Sto → Prop}, PC (calv (f_X12_nextLine x m) fun v_8 s_8 => itr (fun _ _ => none) gRL M v_8 s_8) Q → PC (gRL (itr (fun _ _ => none) gRL M) x m) Q := fun {Q} hh => by
      unfold gRL
      exact pc_ite (fun _ => hh) (fun z => absurd m74 z)
    unfold gXL
    refine pc_ite (fun z => ?_) (fun _ => ?_)
    · rw [fa_le, k_M] at z
      omega
    refine pc_ite (fun z => ?_) (fun _ => ?_)
    · rw [fa_lt, k_0] at z
      omega
    refine pc_ite (fun z => ?_) (fun _ => ?_)
    · rw [fa_le, fc.1 68 (by decide), A68] at z
      omega
    refine pc_ix (fun _ => ?_)
    refine pc_lt fun v5 e5 => ?_
    rw [fc.1 69 (by decide)] at e5
    have v5t : v5.toInt = kA s x.toNatClampNeg := by rw [e5]; exact (AL _ xl).1
    by_cases k11 : kA s x.toNatClampNeg = 11
    · -- a block's name
      have lb : ∃ b : Nat, b < nB s ∧ BLKP s b x.toNatClampNeg ∧ ENVn (fun k => k < DEP s b) (fun _ => False) c m := by
        obtain ⟨b, b1, b2, b3⟩ := FL.2.1 _ xl k11
        rcases L with ⟨cc, c1, c2, c3⟩ | ⟨b, _, w, _⟩ | ⟨b, q, i, hb, Q, hi, xe, hq, E⟩ | ⟨b, _, _, w, _⟩
        · have q := c2.out.2.2.2.1 k11
          have : cc = b := by omega
          rw [this] at c3
          exact ⟨b, b2, b3, c3⟩
        · omega
        · by_cases w : i = NNb A b
          · rcases Q.2 with ⟨y, _⟩ | ⟨_, _, y, _⟩
            · exact absurd y (hq w).1
            · rw [xe, w, y] at k11
              exact absurd k11 (by decide)
          · have := (Q.1 i (by omega)).2
            rw [← xe] at this
            have := congrArg Prod.fst this
            have : kA s x.toNatClampNeg = 0 := this
            omega
        · have := w.2.1
          omega
      obtain ⟨b, b1, b2, b3⟩ := lb
      have r69 : ∀ {d : Sto}, d.1 69 = c.1 69 → (d.1 69 x.toNatClampNeg).toInt = 11 := fun {d} e => by rw [e, fc.1 69 (by decide), (AL _ xl).1]; exact k11
      have km : kA m x.toNatClampNeg = 11 := by
        have : kA m x.toNatClampNeg = kA s x.toNatClampNeg := by unfold kA; rw [fm.1 58 (by decide)]
        rw [this]; exact k11
      have mnx : PC (f_X12_nextLine x m) (fun q => q.1 = x + 1 ∧ ((m.1 73 0 = m.1 77 0 ∧ q.2 = sti m 74 0 2) ∨ (m.1 73 0 ≠ m.1 77 0 ∧ q.2 = sti m 73 0 (m.1 73 0 + 1)))) := by
        refine m_nextC (fun y => absurd (y.symm.trans km) (by decide)) (fun y => absurd (y.symm.trans km) (by decide)) (fun y => absurd (y.symm.trans km) (by decide)) (fun y => absurd (y.symm.trans km) (by decide)) (fun y => absurd (y.symm.trans km) (by decide)) (fun y => absurd (y.symm.trans km) (by decide)) (fun _ => ?_) (fun _ _ _ _ _ _ y => absurd km y)
        exact pc_imp m_enters (fun t w => ⟨rfl, w⟩)
      refine pc_jn ?_
      refine pc_ite (fun _ => ?_) (fun z => absurd (by rw [fa_eq, k_11, v5t]; exact k11) z)
      refine pc_calv t_enter (fun v10 s10 q => ?_)
      (try dsimp only at q)
      rcases q with ⟨q1, q2, q3⟩ | ⟨q1, q2, q3⟩
      · refine pc_ite (fun _ => ?_) (fun y => absurd q2 y)
        refine pc_ret (ref (pc_calv mnx (fun v8 s8 w => ?_)))
        (try dsimp only at w)
        rw [ent, lim] at q1
        rcases w with ⟨_, ⟨w1, w2⟩ | ⟨w1, w2⟩⟩
        · have a74 : s8.1 74 0 = 2 := by rw [w2, sti_s]
          have f8 : FR [74] [] m s8 := by rw [w2]; exact FR.st FR.rf (by decide)
          have f10 : FR [86] [] c s10 := by rw [q3]; exact FR.st FR.rf (by decide)
          refine pc_imp (gRL_end (by rw [a74]; decide)) (fun d hd => ?_)
          subst hd
          have a86 : s10.1 86 0 = 2 := by rw [q3, sti_s]
          exact ⟨R, hR.fr f10 rfl, hM.fr f8 rfl, by rw [a86, a74], Or.inr ⟨by rw [a86]; decide, by rw [f8.1 75 (by decide)]; exact m75⟩, by rw [f10.1 87 (by decide), f8.1 73 (by decide)]; exact ent⟩
        · exact absurd q1 w1
      · refine pc_ite (fun y => ?_) (fun _ => ?_)
        · rw [q2] at y
          exact absurd y (by decide)
        have f10 : FR [87] [] c s10 := by rw [q3]; exact FR.st FR.rf (by decide)
        have c87 : s10.1 87 0 = m.1 73 0 + 1 := by rw [q3, sti_s, ent]
        rw [ent, lim] at q1
        have ne : (m.1 73 0).toInt ≠ (m.1 77 0).toInt := fun z => q1 (by rw [fa_eq]; exact z)
        have e73 : (m.1 73 0 + 1).toInt = (m.1 73 0).toInt + 1 := i1 (by omega)
        have fol : PC (f_X5_follow x s10) (fun r => r = (x + 1, s10)) := by
          have z := r69 (f10.1 69 (by decide))
          exact t_followC (fun y => absurd (y.symm.trans z) (by decide)) (fun y => absurd (y.symm.trans z) (by decide)) (fun y => absurd (y.symm.trans z) (by decide)) (fun y => absurd (y.symm.trans z) (by decide)) (fun y => absurd (y.symm.trans z) (by decide)) (fun y => absurd (y.symm.trans z) (by decide)) (fun _ _ _ _ _ _ => rfl)
        refine pc_calv fol (fun v7 s7 r => ?_)
        have r1 : v7 = x + 1 := congrArg Prod.fst r
        have r2 : s7 = s10 := congrArg Prod.snd r
        subst r1
        subst r2
        refine pc_lt fun k8 e8 => ?_
        subst e8
        refine pc_sw (ref ?_)
        refine pc_calv (pc_and mnx (pc_ok nxt)) (fun v8 s8 w => ?_)
        obtain ⟨⟨w0, w1⟩, w2⟩ := w
        (try dsimp only at w0 w1 w2)
        subst w0
        rcases w1 with ⟨w1, _⟩ | ⟨_, w1⟩
        · exact absurd w1 q1
        have f8 : FR [73] [] m s8 := by rw [w1]; exact FR.st FR.rf (by decide)
        have m73 : s8.1 73 0 = m.1 73 0 + 1 := by rw [w1, sti_s]
        refine pc_sw (lines_ls P0 M N (x + 1) (k + 1) s7 s8 R 2000 40 ⟨⟨FR.cal fc f10 rfl rfl, FR.cal fm f8 rfl rfl⟩, ⟨hR.fr f10 rfl, hM.fr f8 rfl, w2.1⟩, ⟨by rw [f10.1 84 (by decide)]; exact c84, by rw [f8.1 78 (by decide)]; exact m78, by rw [f8.1 74 (by decide)]; exact m74, by rw [f10.1 86 (by decide)]; exact c86, by rw [f8.1 75 (by decide)]; exact m75⟩, ⟨by rw [f10.1 83 (by decide), f8.1 77 (by decide)]; exact lim, by rw [c87, m73], by rw [f8.1 77 (by decide)]; exact l200, by rw [m73, e73]; omega, by rw [m73, f8.1 77 (by decide), e73]; omega⟩, ⟨by omega, ?_, ?_, ?_⟩, by omega, ?_⟩)
        · rw [nx1]
          exact RU.2.1 _ xl k11
        · rw [f8.1 71 (by decide), m73, e73]
          omega
        · rw [nx1]
          exact P0.lb b1 b2 (b3.cg (f10.1 79 (by decide)) (f10.1 80 (by decide)) (f8.1 82 (by decide)) (f8.1 83 (by decide)))
        · rw [ek1, m73, e73]
          omega
    · have step := line_ls P0 fc fm hB hR hM c84 m78 c86 m75 x0 g k11 L
      refine pc_jn ?_
      refine pc_ite (fun z => absurd (by rw [fa_eq, k_11, v5t] at z; exact z) k11) (fun _ => ?_)
      refine pc_calv step (fun v7 s7 hr => ?_)
      refine pc_lt fun k8 e8 => ?_
      subst e8
      refine pc_sw (ref ?_)
      refine pc_calv (pc_and hr (pc_ok nxt)) (fun v8 s8 w => ?_)
      obtain ⟨w1, w2, w3, w4, w5⟩ := w
      (try dsimp only at w1 w2 w3 w4 w5)
      have F8 : FR RLX [] s s8 := FR.cal fm w3 rfl rfl
      obtain ⟨p1, p2, R2, p3, p4, p5⟩ := w1 w2 F8
      (try dsimp only at p1 p2 p3 p4 p5)
      have F7 : FR RXL [] σ s7 := FR.cal fc p1 rfl rfl
      have c83 : s7.1 83 = c.1 83 := p1.1 83 (by decide)
      have c87 : s7.1 87 = c.1 87 := p1.1 87 (by decide)
      have m77 : s8.1 77 = m.1 77 := p2.1 77 (by decide)
      have m73 : s8.1 73 = m.1 73 := p2.1 73 (by decide)
      refine pc_sw ?_
      rcases p5 with ⟨q1, q2, q3, q4, q5, q6, q7, q8⟩ | ⟨q1, q2, q3, q4⟩
      · rcases w5 with w5 | ⟨_, m2, p, z2, z3, z4⟩
        · rw [q6] at w5
          exact absurd (by rw [m74]; exact k_m1) w5
        · subst q1
          have zz : m2 = n := by
            rcases z4 with z4 | z4
            · exact z4.2
            · rw [m73] at z4
              omega
          subst zz
          exact lines_ls P0 M N v7 (k + 1) s7 s8 R2 m2 p ⟨⟨F7, F8⟩, ⟨p3, p4, w2⟩, ⟨q4, q5, by rw [q6]; exact m74, by rw [q7]; exact c86, by rw [q8]; exact m75⟩, ⟨by rw [c83, m77]; exact lim, by rw [c87, m73]; exact ent, by rw [m77]; exact l200, by rw [m73]; exact e0, by rw [m73, m77]; exact el⟩, ⟨q2, z2, z3, q3⟩, by omega, by rw [ek1, m73]; omega⟩
      · subst q1
        refine pc_imp gXL_end (fun d hd => ?_)
        subst hd
        refine pc_imp (gRL_end q2) (fun d2 hd2 => ?_)
        subst hd2
        exact ⟨R2, p3, p4, q3, q4, by rw [c87, m73]; exact ent⟩
/-- how a run begins -/
def RUB (a b z : Int32) : RUS := (fun v => if v = 0 then a else if v = 1 then b else 0, z, 0, [])
theorem t_begin {x1 x2 x3 x4 x5 : Int32} {c : Sto} : PC (f_X5_begin x1 x2 x3 x4 x5 c) (fun d => FR [78, 81, 82, 83, 84, 85, 86, 87, 88, 89, 90, 91, 92] [] c d ∧ RXX x5 (RUB x1 x2 x3) d ∧ d.1 84 0 = 0 ∧ d.1 86 0 = 0 ∧ d.1 87 0 = 0 ∧ d.1 83 0 = x4 ∧ d.1 81 0 = 0) := by
  have k_6 : (6 : Int32).toInt = 6 := by decide +kernel
  have k_0 : (0 : Int32).toInt = 0 := by decide +kernel
  have c0 : (0 : Int32).toNatClampNeg = 0 := by decide +kernel
  have c1 : (1 : Int32).toNatClampNeg = 1 := by decide +kernel
  unfold f_X5_begin
  refine pc_itr2 (fun i u => 0 ≤ i.toInt ∧ i.toInt ≤ 6 ∧ FR [78] [] c u ∧ ∀ j, j < i.toNatClampNeg → u.1 78 j = 0) ?_ ⟨by omega, by omega, FR.rf, fun j hj => by rw [c0] at hj; exact absurd hj (Nat.not_lt_zero j)⟩
  intro ag i u I ih
  obtain ⟨i0, i6, u1, u2⟩ := I
  have ci := clamp_I i0
  refine pc_ite (fun z => ?_) (fun z => ?_)
  · rw [fa_le, k_6] at z
    refine pc_ix (fun _ => ?_)
    refine pc_lt fun s3 e3 => ?_
    refine pc_ix (fun _ => ?_)
    refine pc_lt fun s4 e4 => ?_
    refine pc_lt fun s5 e5 => ?_
    refine pc_lt fun s6 e6 => ?_
    refine pc_lt fun s7 e7 => ?_
    refine pc_lt fun s8 e8 => ?_
    refine pc_lt fun s9 e9 => ?_
    refine pc_lt fun s10 e10 => ?_
    refine pc_lt fun s11 e11 => ?_
    refine pc_lt fun s12 e12 => ?_
    refine pc_lt fun s13 e13 => ?_
    refine pc_lt fun s14 e14 => ?_
    refine pc_lt fun s15 e15 => ?_
    refine pc_lt fun s16 e16 => ?_
    rw [c0] at e3
    rw [c1] at e4
    have fr : FR [78, 81, 82, 83, 84, 85, 86, 87, 88, 89, 90, 91, 92] [] c s16 := by
      rw [e16, e15, e14, e13, e12, e11, e10, e9, e8, e7, e6, e5, e4, e3]
      exact FR.st (FR.st (FR.st (FR.st (FR.st (FR.st (FR.st (FR.st (FR.st (FR.st (FR.st (FR.st (FR.st (FR.st (FR.cal FR.rf u1 rfl rfl) (by decide)) (by decide)) (by decide)) (by decide)) (by decide)) (by decide)) (by decide)) (by decide)) (by decide)) (by decide)) (by decide)) (by decide)) (by decide)) (by decide)
    refine pc_ret ⟨fr, ⟨fun v hv => ?_, ?_, ?_, ?_, ?_, ?_, ?_⟩, ?_, ?_, ?_, ?_, ?_⟩
    · have r : s16.1 78 = s4.1 78 := by
        rw [e16, sti_o (by decide), e15, sti_o (by decide), e14, sti_o (by decide), e13, sti_o (by decide), e12, sti_o (by decide), e11, sti_o (by decide), e10, sti_o (by decide), e9, sti_o (by decide), e8, sti_o (by decide), e7, sti_o (by decide), e6, sti_o (by decide), e5, sti_o (by decide)]
      rw [r, e4, sti_if, e3]
      show (if v = 1 then x2 else (sti u 78 0 x1).1 78 v) = if v = 0 then x1 else if v = 1 then x2 else 0
      by_cases v1 : v = 1
      · rw [if_pos v1, if_neg (by omega), if_pos v1]
      · rw [if_neg v1, sti_if]
        by_cases v0 : v = 0
        · rw [if_pos v0, if_pos v0]
        · rw [if_neg v0, if_neg v0, if_neg v1]
          exact u2 v (by omega)
    · rw [e16, sti_o (by decide), e15, sti_o (by decide), e14, sti_o (by decide), e13, sti_o (by decide), e12, sti_o (by decide), e11, sti_o (by decide), e10, sti_o (by decide), e9, sti_o (by decide), e8, sti_o (by decide), e7, sti_o (by decide), e6, sti_o (by decide), e5, sti_s]; rfl
    · rw [e16, sti_o (by decide), e15, sti_o (by decide), e14, sti_o (by decide), e13, sti_s]; rfl
    · rw [e16, sti_o (by decide), e15, sti_o (by decide), e14, sti_s]; rfl
    · rw [e16, sti_o (by decide), e15, sti_s]; rfl
    · rw [e16, sti_o (by decide), e15, sti_o (by decide), e14, sti_o (by decide), e13, sti_o (by decide), e12, sti_o (by decide), e11, sti_o (by decide), e10, sti_o (by decide), e9, sti_o (by decide), e8, sti_o (by decide), e7, sti_s]
    · rw [e16, sti_s]; rfl
    · rw [e16, sti_o (by decide), e15, sti_o (by decide), e14, sti_o (by decide), e13, sti_o (by decide), e12, sti_o (by decide), e11, sti_o (by decide), e10, sti_o (by decide), e9, sti_s]
    · rw [e16, sti_o (by decide), e15, sti_o (by decide), e14, sti_o (by decide), e13, sti_o (by decide), e12, sti_o (by decide), e11, sti_s]
    · rw [e16, sti_o (by decide), e15, sti_o (by decide), e14, sti_o (by decide), e13, sti_o (by decide), e12, sti_s]
    · rw [e16, sti_o (by decide), e15, sti_o (by decide), e14, sti_o (by decide), e13, sti_o (by decide), e12, sti_o (by decide), e11, sti_o (by decide), e10, sti_o (by decide), e9, sti_o (by decide), e8, sti_o (by decide), e7, sti_o (by decide), e6, sti_s]
    · rw [e16, sti_o (by decide), e15, sti_o (by decide), e14, sti_o (by decide), e13, sti_o (by decide), e12, sti_o (by decide), e11, sti_o (by decide), e10, sti_o (by decide), e9, sti_o (by decide), e8, sti_s]
  · rw [fa_le, k_6] at z
    refine pc_ix (fun _ => ?_)
    refine pc_lt fun s17 e17 => ?_
    refine pc_lt fun i18 e18 => ?_
    have ei : i18.toInt = i.toInt + 1 := by rw [e18]; exact i1 (by omega)
    have c18 := clamp_I (x := i18) (by omega)
    refine ih i18 s17 ⟨by omega, by omega, by rw [e17]; exact FR.st u1 (by decide), fun j hj => ?_⟩
    rw [e17, sti_if]
    by_cases q : j = i.toNatClampNeg
    · rw [if_pos q]
    · rw [if_neg q]; exact u2 j (by omega)
theorem m_begins {x1 x2 x3 x4 : Int32} {m : Sto} : PC (f_X12_begins x1 x2 x3 x4 m) (fun d => FR BGN [] m d ∧ RMM (RUB x1 x2 x3) d ∧ d.1 73 0 = 0 ∧ d.1 74 0 = -1 ∧ d.1 75 0 = 0 ∧ d.1 77 0 = x4) := by
  have k_6 : (6 : Int32).toInt = 6 := by decide +kernel
  have k_0 : (0 : Int32).toInt = 0 := by decide +kernel
  have k_1 : (1 : Int32).toInt = 1 := by decide +kernel
  have c0 : (0 : Int32).toNatClampNeg = 0 := by decide +kernel
  unfold f_X12_begins
  refine pc_itr2 (fun i u => 0 ≤ i.toInt ∧ i.toInt ≤ 6 ∧ FR [69] [] m u ∧ ∀ j, j < i.toNatClampNeg → u.1 69 j = if j = 0 then x1 else if j = 1 then x2 else 0) ?_ ⟨by omega, by omega, FR.rf, fun j hj => by rw [c0] at hj; exact absurd hj (Nat.not_lt_zero j)⟩
  intro ag i u I ih
  obtain ⟨i0, i6, u1, u2⟩ := I
  have ci := clamp_I i0
  refine pc_ite (fun z => ?_) (fun z => ?_)
  · rw [fa_le, k_6] at z
    refine pc_lt fun s3 e3 => ?_
    refine pc_lt fun s4 e4 => ?_
    refine pc_lt fun s5 e5 => ?_
    refine pc_lt fun s6 e6 => ?_
    refine pc_lt fun s7 e7 => ?_
    refine pc_lt fun s8 e8 => ?_
    refine pc_lt fun s9 e9 => ?_
    have fr : FR BGN [] m s9 := by
      rw [e9, e8, e7, e6, e5, e4, e3]
      exact FR.st (FR.st (FR.st (FR.st (FR.st (FR.st (FR.st (FR.cal FR.rf u1 rfl rfl) (by decide)) (by decide)) (by decide)) (by decide)) (by decide)) (by decide)) (by decide)
    refine pc_ret ⟨fr, ⟨fun v hv => ?_, ?_, ?_, ?_, Nat.zero_le _, fun j hj => absurd hj (Nat.not_lt_zero j)⟩, ?_, ?_, ?_, ?_⟩
    · rw [e9, sti_o (by decide), e8, sti_o (by decide), e7, sti_o (by decide), e6, sti_o (by decide), e5, sti_o (by decide), e4, sti_o (by decide), e3, sti_o (by decide)]
      exact u2 v (by omega)
    · rw [e9, sti_o (by decide), e8, sti_s]; rfl
    · rw [e9, sti_o (by decide), e8, sti_o (by decide), e7, sti_o (by decide), e6, sti_o (by decide), e5, sti_o (by decide), e4, sti_s]; rfl
    · rw [e9, sti_o (by decide), e8, sti_o (by decide), e7, sti_o (by decide), e6, sti_o (by decide), e5, sti_o (by decide), e4, sti_o (by decide), e3, sti_s, k_0]; rfl
    · rw [e9, sti_o (by decide), e8, sti_o (by decide), e7, sti_o (by decide), e6, sti_o (by decide), e5, sti_s]
    · rw [e9, sti_o (by decide), e8, sti_o (by decide), e7, sti_o (by decide), e6, sti_s]
    · rw [e9, sti_o (by decide), e8, sti_o (by decide), e7, sti_s]
    · rw [e9, sti_s]
  · rw [fa_le, k_6] at z
    refine pc_jnI1 (fun t => t = if i.toNatClampNeg = 0 then x1 else if i.toNatClampNeg = 1 then x2 else 0) (fun t ht => ?_) (fun k hk => ?_)
    · refine pc_ix (fun _ => ?_)
      refine pc_lt fun s11 e11 => ?_
      refine pc_lt fun i12 e12 => ?_
      have ei : i12.toInt = i.toInt + 1 := by rw [e12]; exact i1 (by omega)
      have c12 := clamp_I (x := i12) (by omega)
      refine ih i12 s11 ⟨by omega, by omega, by rw [e11]; exact FR.st u1 (by decide), fun j hj => ?_⟩
      rw [e11, sti_if]
      by_cases q : j = i.toNatClampNeg
      · rw [if_pos q, ht, q]
      · rw [if_neg q]; exact u2 j (by omega)
    · refine pc_ite (fun y => hk _ ?_) (fun y => ?_)
      · rw [fa_eq, k_0] at y
        rw [if_pos (by omega)]
      rw [fa_eq, k_0] at y
      refine pc_ite (fun w => hk _ ?_) (fun w => hk _ ?_)
      · rw [fa_eq, k_1] at w
        rw [if_neg (by omega), if_pos (by omega)]
      · rw [fa_eq, k_1] at w
        rw [if_neg (by omega), if_neg (by omega)]
/-- outputs told one by the other, from the oldest on -/
def fldP (l : List Int32) : Nat → Int32
  | 0 => 0
  | i + 1 => 31 * fldP l i + oldO l i
theorem fldP_c {v : Int32} {l : List Int32} : ∀ i, i ≤ l.length → fldP (v :: l) i = fldP l i
  | 0, _ => rfl
  | i + 1, h => by
    show 31 * fldP (v :: l) i + oldO (v :: l) i = 31 * fldP l i + oldO l i
    rw [fldP_c i (by omega), oldO_n (by omega)]
theorem fldP_e : ∀ l : List Int32, fldP l l.length = fldO l
  | [] => rfl
  | v :: l => by
    rw [List.length_cons]
    show 31 * fldP (v :: l) l.length + oldO (v :: l) l.length = 31 * fldO l + v
    rw [fldP_c _ (Nat.le_refl _), fldP_e l, oldO_s]
theorem m_folded {R : RUS} {m : Sto} (h : RMM R m) : PC (f_X12_folded m) (fun v => v = fldO R.2.2.2) := by
  have k_0 : (0 : Int32).toInt = 0 := by decide +kernel
  have c0 : (0 : Int32).toNatClampNeg = 0 := by decide +kernel
  obtain ⟨h1, h2, h3_, h4, h5, h6⟩ := h
  unfold f_X12_folded
  refine pc_itr2 (fun v i => 0 ≤ i.toInt ∧ i.toInt ≤ (R.2.2.2.length : Int) ∧ v = fldP R.2.2.2 i.toNatClampNeg) ?_ ⟨by omega, by omega, by rw [c0]; rfl⟩
  intro ag v i I ih
  obtain ⟨i0, il, iv⟩ := I
  have ci := clamp_I i0
  refine pc_ite (fun z => ?_) (fun z => ?_)
  · rw [fa_le, h4] at z
    refine pc_ret ?_
    rw [iv, show i.toNatClampNeg = R.2.2.2.length by omega]
    exact fldP_e _
  · rw [fa_le, h4] at z
    refine pc_ix (fun _ => ?_)
    refine pc_lt fun v3 e3 => ?_
    refine pc_lt fun v4 e4 => ?_
    refine pc_lt fun i5 e5 => ?_
    have ei : i5.toInt = i.toInt + 1 := by rw [e5]; exact i1 (by omega)
    have c5 := clamp_I (x := i5) (by omega)
    refine ih v4 i5 ⟨by omega, by omega, ?_⟩
    rw [show i5.toNatClampNeg = i.toNatClampNeg + 1 by omega, e4, e3, iv, h6 _ (by omega)]
    rfl
