theorem pc_sw {α β : Type} {A : Option α} {B : Option β} {R : α → β → Prop} (h : PC A (fun a => PC B (fun b => R a b))) : PC B (fun b => PC A (fun a => R a b)) := fun b hb a ha => h a ha b hb
theorem kStep_f {g : Int} {n : Int32} {St : List Int32} {R : RUS} (hi : INS g n.toInt) (nd : ndI g ≤ (St.length : Int)) : ((kStep g n St R).1 = 0 → gOnI g ∧ ((kStep g n St R).2.1.length : Int) = St.length - ndI g + gvI g) ∧ ((kStep g n St R).1 = 1 → gElI g ∧ ((kStep g n St R).2.1.length : Int) = St.length - ndI g + gvI g) ∧ ((kStep g n St R).1 = 2 → cThI g) ∧ (kStep g n St R).1 ≤ 3 := by
  have z0 : ∀ {x : Int}, x = x - 0 + 0 := by intro x; omega
  by_cases b : isBi g
  · have w2 : ndI g = 2 := by
      unfold ndI
      rw [if_pos (by omega)]
    have gv1 : gvI g = 1 := by
      unfold gvI
      rw [if_neg (by omega), if_pos (by omega)]
    rw [w2] at nd
    obtain ⟨u, l, S, rfl⟩ := ls2 (St := St) nd
    rw [kStep_b b, w2, gv1]
    by_cases c : (g = 47 ∨ g = 37) ∧ (u :: l :: S).headD 0 = 0
    · rw [if_pos c]
      exact ⟨fun z => kne (i := 2) (j := 0) (by decide) z, fun z => kne (i := 2) (j := 1) (by decide) z, fun _ => by unfold cThI; omega, (show (2 : Nat) ≤ 3 by decide)⟩
    · rw [if_neg c]
      refine ⟨fun _ => ⟨by omega, ?_⟩, fun z => kne (i := 0) (j := 1) (by decide) z, fun z => kne (i := 0) (j := 2) (by decide) z, (show (0 : Nat) ≤ 3 by decide)⟩
      show ((opv g l u :: S).length : Int) = ((u :: l :: S).length : Int) - 2 + 1
      rw [List.length_cons, List.length_cons, List.length_cons]; omega
  have go : ∀ {T : List Int32} {Q : RUS} {v : Int32}, kStep g n St R = (0, T, Q, v) → gOnI g → (T.length : Int) = St.length - ndI g + gvI g → ((kStep g n St R).1 = 0 → gOnI g ∧ ((kStep g n St R).2.1.length : Int) = St.length - ndI g + gvI g) ∧ ((kStep g n St R).1 = 1 → gElI g ∧ ((kStep g n St R).2.1.length : Int) = St.length - ndI g + gvI g) ∧ ((kStep g n St R).1 = 2 → cThI g) ∧ (kStep g n St R).1 ≤ 3 := fun {T Q v} e h1 h2 => by
    rw [e]
    exact ⟨fun _ => ⟨h1, h2⟩, fun z => kne (i := 0) (j := 1) (by decide) z, fun z => kne (i := 0) (j := 2) (by decide) z, (show (0 : Nat) ≤ 3 by decide)⟩
  have cs : g = 107 ∨ g = 108 ∨ g = 115 ∨ g = 105 ∨ g = 111 ∨ g = 112 ∨ g = 100 ∨ g = 119 ∨ g = 103 ∨ g = 122 ∨ g = 116 ∨ g = 114 ∨ g = 33 ∨ g = 110 := by
    unfold INS bareI at hi
    omega
  rcases cs with c | c | c | c | c | c | c | c | c | c | c | c | c | c
  · subst c
    refine go (T := n :: St) (Q := R) (v := 0) rfl (by decide) ?_
    rw [show ndI 107 = 0 from rfl, show gvI 107 = 1 from rfl, List.length_cons]; omega
  · subst c
    refine go (T := R.1 n.toNatClampNeg :: St) (Q := R) (v := 0) rfl (by decide) ?_
    rw [show ndI 108 = 0 from rfl, show gvI 108 = 1 from rfl, List.length_cons]; omega
  · subst c
    obtain ⟨u, S, rfl⟩ := ls1 (St := St) nd
    refine go (T := S) (Q := rSet n.toNatClampNeg u R) (v := 0) rfl (by decide) ?_
    rw [show ndI 115 = 1 from rfl, show gvI 115 = 0 from rfl, List.length_cons]; omega
  · subst c
    refine go (T := drO (drN R.2.1) :: St) (Q := rDraw R) (v := 0) rfl (by decide) ?_
    rw [show ndI 105 = 0 from rfl, show gvI 105 = 1 from rfl, List.length_cons]; omega
  · subst c
    obtain ⟨u, S, rfl⟩ := ls1 (St := St) nd
    refine go (T := S) (Q := rOut u R) (v := 0) rfl (by decide) ?_
    rw [show ndI 111 = 1 from rfl, show gvI 111 = 0 from rfl, List.length_cons]; omega
  · subst c
    obtain ⟨u, S, rfl⟩ := ls1 (St := St) nd
    refine go (T := S) (Q := R) (v := 0) rfl (by decide) ?_
    rw [show ndI 112 = 1 from rfl, show gvI 112 = 0 from rfl, List.length_cons]; omega
  · subst c
    obtain ⟨u, S, rfl⟩ := ls1 (St := St) nd
    refine go (T := u :: u :: S) (Q := R) (v := 0) rfl (by decide) ?_
    rw [show ndI 100 = 1 from rfl, show gvI 100 = 2 from rfl, List.length_cons, List.length_cons]; omega
  · subst c
    obtain ⟨u, l, S, rfl⟩ := ls2 (St := St) nd
    refine go (T := l :: u :: S) (Q := R) (v := 0) rfl (by decide) ?_
    rw [show ndI 119 = 2 from rfl, show gvI 119 = 2 from rfl]; simp only [List.length_cons]; omega
  · subst c
    refine ⟨fun z => kne (i := 1) (j := 0) (by decide) z, fun _ => ⟨Or.inl rfl, ?_⟩, fun z => kne (i := 1) (j := 2) (by decide) z, (show (1 : Nat) ≤ 3 by decide)⟩
    show (St.length : Int) = _
    rw [show ndI 103 = 0 from rfl, show gvI 103 = 0 from rfl]; omega
  · subst c
    obtain ⟨u, S, rfl⟩ := ls1 (St := St) nd
    have eK : kStep 122 n (u :: S) R = (if u = 0 then 1 else 0, S, R, 0) := rfl
    have ln : (S.length : Int) = ((u :: S).length : Int) - ndI 122 + gvI 122 := by
      rw [show ndI 122 = 1 from rfl, show gvI 122 = 0 from rfl, List.length_cons]; omega
    rw [eK]
    by_cases y : u = 0
    · rw [if_pos y]
      exact ⟨fun z => kne (i := 1) (j := 0) (by decide) z, fun _ => ⟨Or.inr rfl, ln⟩, fun z => kne (i := 1) (j := 2) (by decide) z, (show (1 : Nat) ≤ 3 by decide)⟩
    · rw [if_neg y]
      exact ⟨fun _ => ⟨by decide, ln⟩, fun z => kne (i := 0) (j := 1) (by decide) z, fun z => kne (i := 0) (j := 2) (by decide) z, (show (0 : Nat) ≤ 3 by decide)⟩
  · subst c
    exact ⟨fun z => kne (i := 2) (j := 0) (by decide) z, fun z => kne (i := 2) (j := 1) (by decide) z, fun _ => Or.inr (Or.inr rfl), (show (2 : Nat) ≤ 3 by decide)⟩
  · subst c
    exact ⟨fun z => kne (i := 3) (j := 0) (by decide) z, fun z => kne (i := 3) (j := 1) (by decide) z, fun z => kne (i := 3) (j := 2) (by decide) z, (show (3 : Nat) ≤ 3 by decide)⟩
  · subst c
    obtain ⟨u, S, rfl⟩ := ls1 (St := St) nd
    refine go (T := (if u = 0 then 1 else 0) :: S) (Q := R) (v := 0) rfl (by decide) ?_
    rw [show ndI 33 = 1 from rfl, show gvI 33 = 1 from rfl, List.length_cons, List.length_cons]; omega
  · subst c
    obtain ⟨u, S, rfl⟩ := ls1 (St := St) nd
    refine go (T := (-u) :: S) (Q := R) (v := 0) rfl (by decide) ?_
    rw [show ndI 110 = 1 from rfl, show gvI 110 = 1 from rfl, List.length_cons, List.length_cons]; omega
def gXC : (Int32 → Int32 → Sto → Option Sto) → (Int32 → Int32 → Sto → Option Sto) := fun (a_4 : Int32 → Int32 → Sto → Option Sto) (x1_1 : Int32) (x2_1 : Int32) (s_1 : Sto) => (
    if 1000000 ≤ x2_1 then (
      some s_1
    ) else (
      if x1_1 = (-1) then (
        some s_1
      ) else (
        ix 40 x1_1 <| lt (s_1.1 23 x1_1.toNatClampNeg) fun v_4 =>
        jn (fun (t0_5 : Int32) => (
          jn (fun (s_6 : Sto) => (
            calv (f_X5_obey x1_1 s_6) fun v_7 s_7 =>
            lt (x2_1 + 1) fun x2_8 =>
            a_4 v_7 x2_8 s_7
          )) fun k_63 =>
          if t0_5 = 0 then (
            k_63 s_1
          ) else (
            calv (f_X5_enter s_1) fun v_10 s_10 =>
            if v_10 = 0 then (
              some s_10
            ) else (
              k_63 s_10
            )
          )
        )) fun k_48 =>
        jn (
          k_48 (0 : Int32)
        ) fun k_47 =>
        if v_4 = (-1) then (
          k_47
        ) else (
          ix 40 v_4 <| lt (s_1.1 21 v_4.toNatClampNeg) fun v_14 =>
          if v_14 = x1_1 then (
            k_48 (1 : Int32)
          ) else (
            k_47
          )
        )
      )
    )
  )
theorem gXC_e {σ : Sto} : f_X5_goThroughCode σ = itr (fun _ _ _ => none) gXC LF (0 : Int32) (0 : Int32) σ := rfl
def gRC : (Int32 → Sto → Option Sto) → (Int32 → Sto → Option Sto) := fun (a_12 : Int32 → Sto → Option Sto) (x1_3 : Int32) (s_3 : Sto) => (
    if (s_3.1 74 0) = (-1) then (
      ix 40 x1_3 <| lt (s_3.1 24 x1_3.toNatClampNeg) fun v_5 =>
      ix 40 v_5 <| lt (s_3.1 22 v_5.toNatClampNeg) fun v_6 =>
      jn (fun (s_7 : Sto) => (
        if (s_7.1 74 0) = (-1) then (
          calv (f_X12_next x1_3 s_7) fun v_9 s_9 =>
          a_12 v_9 s_9
        ) else (
          a_12 x1_3 s_7
        )
      )) fun k_39 =>
      if v_6 = x1_3 then (
        cals (f_X12_enters s_3) fun s_11 =>
        k_39 s_11
      ) else (
        k_39 s_3
      )
    ) else (
      some s_3
    )
  )
theorem gRC_e {σ : Sto} {Q : Sto → Prop} (h : ∀ s2, s2 = sti (sti σ 81 0 (0 : Int32)) 78 0 (0 : Int32) → PC (itr (fun _ _ => none) gRC LF (0 : Int32) s2) Q) : PC (f_X12_runsCode σ) Q := by
  unfold f_X12_runsCode
  refine pc_lt fun s1 e1 => ?_
  refine pc_lt fun s2 e2 => ?_
  exact h s2 (by rw [e2, e1])
theorem gXC_end {N : Nat} {k : Int32} {c : Sto} : PC (itr (fun _ _ _ => none) gXC N (-1) k c) (fun d => d = c) := by
  cases N with
  | zero => exact (pc_no : PC (none : Option Sto) _)
  | succ N =>
    show PC (gXC (itr (fun _ _ _ => none) gXC N) (-1) k c) _
    unfold gXC
    exact pc_ite (fun _ => pc_ret rfl) (fun _ => pc_ite (fun _ => pc_ret rfl) (fun z => absurd rfl z))
theorem gRC_end {M : Nat} {x : Int32} {m : Sto} (h : m.1 74 0 ≠ -1) : PC (itr (fun _ _ => none) gRC M x m) (fun d => d = m) := by
  cases M with
  | zero => exact (pc_no : PC (none : Option Sto) _)
  | succ M =>
    show PC (gRC (itr (fun _ _ => none) gRC M) x m) _
    unfold gRC
    exact pc_ite (fun z => absurd z h) (fun _ => pc_ret rfl)
theorem t_enter {c : Sto} : PC (f_X5_enter c) (fun r => (c.1 87 0 = c.1 83 0 ∧ r.1 = 0 ∧ r.2 = sti c 86 0 2) ∨ (c.1 87 0 ≠ c.1 83 0 ∧ r.1 = 1 ∧ r.2 = sti c 87 0 (c.1 87 0 + 1))) := by
  unfold f_X5_enter
  refine pc_ite (fun z => ?_) (fun z => ?_)
  · exact pc_lt fun s2 e2 => pc_ret (Or.inl ⟨z, rfl, e2⟩)
  · exact pc_lt fun s3 e3 => pc_ret (Or.inr ⟨z, rfl, e3⟩)
theorem m_enters {m : Sto} : PC (f_X12_enters m) (fun r => (m.1 73 0 = m.1 77 0 ∧ r = sti m 74 0 2) ∨ (m.1 73 0 ≠ m.1 77 0 ∧ r = sti m 73 0 (m.1 73 0 + 1))) := by
  unfold f_X12_enters
  refine pc_ite (fun z => ?_) (fun z => ?_)
  · exact pc_lt fun s2 e2 => pc_ret (Or.inl ⟨z, e2⟩)
  · exact pc_lt fun s3 e3 => pc_ret (Or.inr ⟨z, e3⟩)
/-- both runs, at their end -/
def REN (a : Int32) (c m : Sto) : Prop := ∃ R, RXX a R c ∧ RMM R m ∧ c.1 86 0 = m.1 74 0 ∧ ((c.1 86 0 = 1 ∧ c.1 85 0 = m.1 75 0) ∨ (c.1 86 0 ≠ 1 ∧ m.1 75 0 = 0)) ∧ c.1 87 0 = m.1 73 0
/-- what stands, alike in both -/
def CSP (σ s : Sto) : Prop := BM s ∧ QL s ∧ BK s ∧ (σ.1 4 0).toInt = (s.1 15 0).toInt ∧ (σ.1 5 0).toInt = (s.1 16 0).toInt ∧ (∀ i, i < nC s → σ.1 6 i = s.1 9 i ∧ σ.1 7 i = s.1 10 i ∧ INS (s.1 9 i).toInt (s.1 10 i).toInt) ∧ (∀ h, h < nH s → σ.1 9 h = h3 (s.1 11) 0 h ∧ σ.1 10 h = h3 (s.1 11) 1 h ∧ σ.1 11 h = h3 (s.1 11) 2 h) ∧ (∀ i, i < nC s → σ.1 23 i = s.1 24 i) ∧ ∀ b, b < nB s → σ.1 21 b = s.1 22 b
theorem JT4.csp {σ s : Sto} (h : JT4 σ s) (hl : (σ.1 0 0).toInt ≠ 0) : CSP σ s := by
  obtain ⟨p1, p2, p3, p4⟩ := (h.laid hl).2.2.1.p
  obtain ⟨q1, q2, q3, q4⟩ := h.eqe hl
  obtain ⟨l1, l2, l3, l4, l5, l6, l7, l8, l9⟩ := h.1.2.resolve_left (fun z => hl z.1)
  refine ⟨p1, p2, p3, l3, l4, fun i hi => ?_, l6, fun i hi => Int32.toInt_inj.mp (q3 i hi), fun b hb => Int32.toInt_inj.mp (q2 b hb).1⟩
  have q := l5 i hi
  have w := l9 i (by rw [l3]; exact hi)
  rw [q.1, q.2] at w
  exact ⟨q.1, q.2, w⟩
abbrev RXL : List Nat := [78, 79, 80, 81, 82, 83, 84, 85, 86, 87, 88, 89, 90, 91, 92]
/-- both runs of the code, at one instruction -/
def LKC (σ s : Sto) (a x k : Int32) (c m : Sto) (St : List Int32) (R : RUS) : Prop := (FR RXL [] σ c ∧ FR RLX [] s m) ∧ (RXX a R c ∧ RMM R m) ∧ (SKX St c ∧ SKM St m) ∧ (c.1 84 0 = 0 ∧ m.1 78 0 = 0 ∧ m.1 74 0 = -1 ∧ c.1 86 0 = 0 ∧ m.1 75 0 = 0) ∧ (c.1 83 0 = m.1 77 0 ∧ c.1 87 0 = m.1 73 0 ∧ (m.1 77 0).toInt ≤ 200 ∧ 0 ≤ (m.1 73 0).toInt ∧ (m.1 73 0).toInt ≤ (m.1 77 0).toInt) ∧ (0 ≤ x.toInt ∧ x.toNatClampNeg < nC s ∧ dP s x.toNatClampNeg ≠ -1 ∧ (St.length : Int) = dP s x.toNatClampNeg) ∧ 0 ≤ k.toInt ∧ ((bgP (dP s) (cT s) x.toNatClampNeg = true ∧ k.toInt ≤ 100 * (m.1 73 0).toInt) ∨ (bgP (dP s) (cT s) x.toNatClampNeg = false ∧ k.toInt + 100 ≤ 100 * (m.1 73 0).toInt + x.toInt))
theorem code_ls {σ s : Sto} {a : Int32} (P : CSP σ s) : ∀ (M N : Nat) (x k : Int32) (c m : Sto) (St : List Int32) (R : RUS), LKC σ s a x k c m St R → PC (itr (fun _ _ _ => none) gXC N x k c) (fun c2 => PC (itr (fun _ _ => none) gRC M x m) (fun m2 => REN a c2 m2))
  | 0, _, _, _, _, _, _, _, _ => fun _ _ => (pc_no : PC (none : Option Sto) _)
  | M + 1, 0, _, _, _, _, _, _, _ => (pc_no : PC (none : Option Sto) _)
  | M + 1, N + 1, x, k, c, m, St, R, h => by
    have k_0 : (0 : Int32).toInt = 0 := by decide +kernel
    have k_1 : (1 : Int32).toInt = 1 := by decide +kernel
    have k_2 : (2 : Int32).toInt = 2 := by decide +kernel
    have k_m1 : ((-1) : Int32).toInt = -1 := by decide +kernel
    have k_M : (1000000 : Int32).toInt = 1000000 := by decide +kernel
    obtain ⟨⟨fc, fm⟩, ⟨hR, hM⟩, ⟨hX, hK⟩, ⟨c84, m78, m74, c86, m75⟩, ⟨lim, ent, l200, e0, el⟩, ⟨x0, xn, xd, xl⟩, k0, kb⟩ := h
    obtain ⟨hB, hQ, hBK, p4, p5, p6, p9, p23, p21⟩ := P
    have nc := nC_le hB
    have nh := nH_le hB
    have cx := clamp_I x0
    have ex1 : (x + 1).toInt = x.toInt + 1 := i1 (by omega)
    have ek1 : (k + 1).toInt = k.toInt + 1 := i1 (by omega)
    obtain ⟨o1, o2, o3, o4, o5⟩ := hQ.ok hB xn xd
    obtain ⟨i6, i7, i8⟩ := p6 _ xn
    obtain ⟨b, b1, b2, b3, b4⟩ := of_bg hB hQ hBK xn xd
    have cb : (s.1 24 x.toNatClampNeg).toNatClampNeg = b := nI_b b2
    have nb := nB_le hB
    have eg : sG s x.toNatClampNeg = (s.1 9 x.toNatClampNeg).toInt := rfl
    have en : nM s x.toNatClampNeg = (s.1 10 x.toNatClampNeg).toInt := rfl
    rw [eg] at o1 o2 o3 o4 o5
    rw [en] at o4
    -- the entry, in both
    have bgx : s.1 22 b = x ↔ bgP (dP s) (cT s) x.toNatClampNeg = true := by
      rw [b4, fa_eq]; omega
    -- one instruction, in both
    have step : ∀ (c1 m1 : Sto), FR RXL [] σ c1 → FR RLX [] s m1 → RXX a R c1 → RMM R m1 → SKX St c1 → SKM St m1 → c1.1 84 0 = 0 → m1.1 78 0 = 0 → m1.1 74 0 = -1 → c1.1 86 0 = 0 → m1.1 75 0 = 0 → c1.1 83 0 = m1.1 77 0 → c1.1 87 0 = m1.1 73 0 → (m1.1 77 0).toInt ≤ 200 → 0 ≤ (m1.1 73 0).toInt → (m1.1 73 0).toInt ≤ (m1.1 77 0).toInt → k.toInt + 100 ≤ 100 * (m1.1 73 0).toInt + x.toInt → PC (calv (f_X5_obey x c1) fun v_7 s_7 => lt (k + 1) fun x2_8 => itr (fun _ _ _ => none) gXC N v_7 x2_8 s_7) (fun c2 => PC (if (m1.1 74 0) = (-1) then (calv (f_X12_next x m1) fun v_9 s_9 => itr (fun _ _ => none) gRC M v_9 s_9) else (itr (fun _ _ => none) gRC M x m1)) (fun m2 => REN a c2 m2)) := by
      intro c1 m1 fc1 fm1 hR1 hM1 hX1 hK1 d84 e78 e74 d86 e75 lim1 ent1 l2 e01 el1 kb1
      have kS := kStep_f (R := R) i8 (by rw [← xl] at o1; exact o1)
      obtain ⟨f0, f1, f2, f3⟩ := kS
      have ob := t_obey (g := (s.1 9 x.toNatClampNeg).toInt) (n := s.1 10 x.toNatClampNeg) (by rw [fc1.1 6 (by decide), i6]) (by rw [fc1.1 7 (by decide), i7]) x0 hR1 hX1 d84 (by rw [xl]; exact o1) (by have := hQ.2.2.2.2.2.2.1 x.toNatClampNeg; omega) i8 (fun z y => by
        rw [fa_le, fc1.1 4 (by decide), ex1, p4] at y
        have := (o3 z).1
        omega)
      have nx := m_next (s0 := s) (g := (s.1 9 x.toNatClampNeg).toInt) (n := s.1 10 x.toNatClampNeg) hB (fm1.1 9 (by decide)) (fm1.1 11 (by decide)) (fm1.1 16 (by decide)) (by rw [fm1.1 9 (by decide)]) (by rw [fm1.1 10 (by decide)]) (by omega) hM1 hK1 e78 (by rw [xl]; exact o1) (by have := hQ.2.2.2.2.2.2.1 x.toNatClampNeg; omega) i8
      generalize kStep (s.1 9 x.toNatClampNeg).toInt (s.1 10 x.toNatClampNeg) St R = K at *
      refine pc_calv ob (fun v7 s7 q => ?_)
      obtain ⟨q1, q2, q3, q4, q5, q6, q7⟩ := q
      (try dsimp only at q1 q2 q3 q4 q5 q6 q7)
      refine pc_lt fun k8 e8 => ?_
      subst e8
      refine pc_sw ?_
      refine pc_ite (fun _ => ?_) (fun z => absurd e74 z)
      refine pc_calv nx (fun v9 s9 w => ?_)
      obtain ⟨w1, w2, w3, w4, w5, w6⟩ := w
      (try dsimp only at w1 w2 w3 w4 w5 w6)
      have F7 : FR RXL [] σ s7 := FR.cal fc1 q1 rfl rfl
      have F9 : FR RLX [] s s9 := FR.cal fm1 w1 rfl rfl
      have c83 : s7.1 83 = c1.1 83 := q1.1 83 (by decide)
      have c87 : s7.1 87 = c1.1 87 := q1.1 87 (by decide)
      have m77 : s9.1 77 = m1.1 77 := w1.1 77 (by decide)
      have m73 : s9.1 73 = m1.1 73 := w1.1 73 (by decide)
      refine pc_sw ?_
      -- it goes on at v
      have on : ∀ (v : Int32) (T : List Int32), v7 = v → v9 = v → SKX T s7 → SKM T s9 → s7.1 84 0 = 0 → s9.1 78 0 = 0 → s9.1 74 = m1.1 74 → s7.1 86 = c1.1 86 → s9.1 75 = m1.1 75 → 0 ≤ v.toInt → v.toNatClampNeg < nC s → dP s v.toNatClampNeg = (T.length : Int) → (cT s v.toNatClampNeg ∨ v.toNatClampNeg = x.toNatClampNeg + 1) → PC (itr (fun _ _ _ => none) gXC N v7 (k + 1) s7) (fun c2 => PC (itr (fun _ _ => none) gRC M v9 s9) (fun m2 => REN a c2 m2)) := by
        intro v T a1 a2 a3 a4 a5 a6 a7 a8 a9 a10 a11 a12 a13
        subst a1
        subst a2
        have cv := clamp_I a10
        refine code_ls ⟨hB, hQ, hBK, p4, p5, p6, p9, p23, p21⟩ M N v9 (k + 1) s7 s9 T K.2.2.1 ⟨⟨F7, F9⟩, ⟨q2, w2⟩, ⟨a3, a4⟩, ⟨a5, a6, by rw [a7]; exact e74, by rw [a8]; exact d86, by rw [a9]; exact e75⟩, ⟨by rw [c83, m77]; exact lim1, by rw [c87, m73]; exact ent1, by rw [m77]; exact l2, by rw [m73]; exact e01, by rw [m73, m77]; exact el1⟩, ⟨a10, a11, by rw [a12]; omega, a12.symm⟩, by omega, ?_⟩
        rw [m73, ek1]
        by_cases r : bgP (dP s) (cT s) v9.toNatClampNeg = true
        · exact Or.inl ⟨r, by omega⟩
        · refine Or.inr ⟨bf r, ?_⟩
          rcases a13 with y | y
          · exact absurd (bgP_t.mpr ⟨by rw [a12]; omega, Or.inl y⟩) r
          · omega
      -- it is at its end
      have fin : v7 = -1 → s9.1 74 0 ≠ -1 → s7.1 86 0 = s9.1 74 0 → ((s7.1 86 0 = 1 ∧ s7.1 85 0 = s9.1 75 0) ∨ (s7.1 86 0 ≠ 1 ∧ s9.1 75 0 = 0)) → PC (itr (fun _ _ _ => none) gXC N v7 (k + 1) s7) (fun c2 => PC (itr (fun _ _ => none) gRC M v9 s9) (fun m2 => REN a c2 m2)) := by
        intro a1 a2 a3 a4
        subst a1
        refine pc_imp gXC_end (fun d hd => ?_)
        subst hd
        refine pc_imp (gRC_end a2) (fun d2 hd2 => ?_)
        subst hd2
        exact ⟨K.2.2.1, q2, w2, a3, a4, by rw [c87, m73]; exact ent1⟩
      have kk : K.1 = 0 ∨ K.1 = 1 ∨ K.1 = 2 ∨ K.1 = 3 := by omega
      rcases kk with kk | kk | kk | kk
      · obtain ⟨g1, g2⟩ := f0 kk
        obtain ⟨u1, u2, u3, u4⟩ := q3 kk
        obtain ⟨t1, t2, t3, t4, t5⟩ := w3 kk
        obtain ⟨y1, y2⟩ := o3 g1
        have c1' := clamp_I (x := x + 1) (by omega)
        have nx1 : (x + 1).toNatClampNeg = x.toNatClampNeg + 1 := by omega
        exact on (x + 1) K.2.1 u1 t1 u2 t2 u3 t3 t4 u4 t5 (by omega) (by omega) (by rw [nx1, y2, g2, xl]) (Or.inr nx1)
      · obtain ⟨g1, g2⟩ := f1 kk
        obtain ⟨u1, u2, u3, u4⟩ := q4 kk
        obtain ⟨t1, t2, t3, t4, t5⟩ := w4 kk
        have y2 := o4 g1
        have lt := hQ.2.2.1.1 _ xn (by rw [eg]; exact g1)
        rw [en] at lt
        have g10 := gM_10 hB x.toNatClampNeg
        have c10 := clamp_I g10.1
        have n10 : (s.1 10 x.toNatClampNeg).toNatClampNeg = (s.1 10 x.toNatClampNeg).toInt.toNat := rfl
        refine on (s.1 10 x.toNatClampNeg) K.2.1 u1 t1 u2 t2 u3 t3 t4 u4 t5 g10.1 (by omega) (by rw [n10, y2, g2, xl]) (Or.inl ?_)
        rw [n10]
        exact Or.inl ⟨x.toNatClampNeg, xn, xd, Or.inl ⟨by rw [eg]; exact g1, Or.inl rfl⟩⟩
      · have ct := f2 kk
        have eh : (c1.1 5 0).toInt.toNat = nH s := by rw [fc1.1 5 (by decide), p5]
        have ho : hoP (nH s) (ri (c1.1 9)) (ri (c1.1 10)) x.toNatClampNeg = hoP (nH s) (fR s) (uP s) x.toNatClampNeg := fsP_cong (fun j hj => by
          have q := p9 j hj
          unfold ri
          rw [fc1.1 9 (by decide), fc1.1 10 (by decide), q.1, q.2.1]
          rfl)
        have q5' := q5 kk
        unfold THX at q5'
        rw [eh, ho] at q5'
        rcases w5 kk with ⟨t1, t2, t3⟩ | ⟨t1, t2, t3, t4, t5, t6⟩
        · rcases q5' with ⟨u1, u2, u3, u4⟩ | ⟨u1, _⟩
          · exact fin u2 (by rw [t2]; decide) (by rw [u3, t2]) (Or.inl ⟨u3, by rw [u4, t3]⟩)
          · omega
        · rcases q5' with ⟨u1, _⟩ | ⟨u1, u2, u3, u4, u5⟩
          · omega
          · have y := o5 ct t1
            have lg := hQ.2.2.1.2 _ t1
            have pg := (p9 _ t1).2.2
            have gv : gO s (hoP (nH s) (fR s) (uP s) x.toNatClampNeg) = (s.1 11 (3 * hoP (nH s) (fR s) (uP s) x.toNatClampNeg + 2)).toInt := rfl
            have g11 := gM_11 hB (3 * hoP (nH s) (fR s) (uP s) x.toNatClampNeg + 2)
            have cg := clamp_I g11.1
            rw [gv] at lg y
            have ncg : (s.1 11 (3 * hoP (nH s) (fR s) (uP s) x.toNatClampNeg + 2)).toNatClampNeg = (s.1 11 (3 * hoP (nH s) (fR s) (uP s) x.toNatClampNeg + 2)).toInt.toNat := rfl
            refine on (s.1 11 (3 * hoP (nH s) (fR s) (uP s) x.toNatClampNeg + 2)) [K.2.2.2] (u2.trans (by rw [fc1.1 11 (by decide), pg]; rfl)) t2 u3 t3 u4 t4 t5 u5 t6 g11.1 (by omega) (by rw [ncg, y]; rfl) (Or.inl ?_)
            rw [ncg]
            exact Or.inr ⟨_, t1, Or.inr (Or.inr rfl)⟩
      · obtain ⟨u1, u2⟩ := q6 kk
        obtain ⟨t1, t2⟩ := w6 kk
        exact fin u1 (by rw [t1]; decide) (by rw [u2, t1]; exact d86) (Or.inr ⟨by rw [u2, d86]; decide, by rw [t2]; exact e75⟩)
    show PC (gXC (itr (fun _ _ _ => none) gXC N) x k c) (fun c2 => PC (gRC (itr (fun _ _ => none) gRC M) x m) (fun m2 => REN a c2 m2))
    unfold gXC
    refine pc_ite (fun z => ?_) (fun _ => ?_)
    · rw [fa_le, k_M] at z
      have : x.toInt ≤ 40 := by omega
      rcases kb with ⟨_, y⟩ | ⟨_, y⟩
      · omega
      · omega
    refine pc_ite (fun z => ?_) (fun _ => ?_)
    · rw [fa_eq, k_m1] at z
      omega
    refine pc_ix (fun _ => ?_)
    refine pc_lt fun v4 e4 => ?_
    rw [fc.1 23 (by decide), p23 _ xn] at e4
    refine pc_jnI1 (fun t => (t = 0 ∧ ¬ s.1 22 b = x) ∨ (t = 1 ∧ s.1 22 b = x)) (fun t ht => ?_) (fun k48 h48 => ?_)
    rotate_left
    · refine pc_jnI0 (¬ s.1 22 b = x) (fun z => h48 0 (Or.inl ⟨rfl, z⟩)) (fun k47 h47 => ?_)
      refine pc_ite (fun z => ?_) (fun _ => ?_)
      · rw [fa_eq, k_m1, e4] at z
        omega
      refine pc_ix (fun _ => ?_)
      refine pc_lt fun v14 e14 => ?_
      rw [fc.1 21 (by decide), e4, cb, p21 _ b1] at e14
      rw [e14]
      exact pc_ite (fun z => h48 1 (Or.inr ⟨rfl, z⟩)) (fun z => h47 z)
    -- the reference, at the same place
    have ref : ∀ {Pm : Sto → Prop}, (∀ k39 : Sto → Option Sto, (∀ u, PC (if (u.1 74 0) = (-1) then (calv (f_X12_next x u) fun v_9 s_9 => itr (fun _ _ => none) gRC M v_9 s_9) else (itr (fun _ _ => none) gRC M x u)) Pm → PC (k39 u) Pm) → PC (if s.1 22 b = x then (cals (f_X12_enters m) fun s_11 => k39 s_11) else (k39 m)) Pm) → PC (gRC (itr (fun _ _ => none) gRC M) x m) Pm := by
      intro Pm hh
      unfold gRC
      refine pc_ite (fun _ => ?_) (fun z => absurd m74 z)
      refine pc_ix (fun _ => ?_)
      refine pc_lt fun v5 e5 => ?_
      rw [fm.1 24 (by decide)] at e5
      refine pc_ix (fun _ => ?_)
      refine pc_lt fun v6 e6 => ?_
      rw [e5, cb, fm.1 22 (by decide)] at e6
      rw [e6]
      exact hh _ (fun u hu => hu)
    refine pc_ite (fun z => ?_) (fun z => ?_)
    · have ne : ¬ s.1 22 b = x := by
        rcases ht with y | y
        · exact y.2
        · rw [y.1] at z
          exact absurd z (by decide)
      have nb_ : bgP (dP s) (cT s) x.toNatClampNeg = false := bf (fun y => ne (bgx.mpr y))
      have kb2 : k.toInt + 100 ≤ 100 * (m.1 73 0).toInt + x.toInt := by
        rcases kb with y | y
        · rw [nb_] at y
          exact absurd y.1 (by decide)
        · exact y.2
      refine pc_imp (step c m fc fm hR hM hX hK c84 m78 m74 c86 m75 lim ent l200 e0 el kb2) (fun c2 hc2 => ref (fun k39 h39 => ?_))
      exact pc_ite (fun y => absurd y ne) (fun _ => h39 m hc2)
    · have eq : s.1 22 b = x := by
        rcases ht with y | y
        · exact absurd y.1 z
        · exact y.2
      have bg := bgx.mp eq
      have kb2 : k.toInt ≤ 100 * (m.1 73 0).toInt := by
        rcases kb with y | y
        · exact y.2
        · rw [bg] at y
          exact absurd y.1 (by decide)
      refine pc_calv t_enter (fun v10 s10 q => ?_)
      (try dsimp only at q)
      rcases q with ⟨q1, q2, q3⟩ | ⟨q1, q2, q3⟩
      · refine pc_ite (fun _ => ?_) (fun y => absurd q2 y)
        refine pc_ret (ref (fun k39 h39 => ?_))
        refine pc_ite (fun _ => ?_) (fun y => absurd eq y)
        refine pc_cals m_enters (fun s11 w => ?_)
        rw [ent, lim] at q1
        rcases w with ⟨w1, w2⟩ | ⟨w1, w2⟩
        · have a74 : s11.1 74 0 = 2 := by rw [w2, sti_s]
          have f11 : FR [74] [] m s11 := by rw [w2]; exact FR.st FR.rf (by decide)
          have f10 : FR [86] [] c s10 := by rw [q3]; exact FR.st FR.rf (by decide)
          refine h39 s11 (pc_ite (fun y => ?_) (fun y => ?_))
          · rw [a74] at y
            exact absurd y (by decide)
          · refine pc_imp (gRC_end y) (fun d hd => ?_)
            subst hd
            have a86 : s10.1 86 0 = 2 := by rw [q3, sti_s]
            exact ⟨R, hR.fr f10 rfl, hM.fr f11 rfl, by rw [a86, a74], Or.inr ⟨by rw [a86]; decide, by rw [f11.1 75 (by decide)]; exact m75⟩, by rw [f10.1 87 (by decide), f11.1 73 (by decide)]; exact ent⟩
        · exact absurd q1 w1
      · refine pc_ite (fun y => ?_) (fun _ => ?_)
        · rw [q2] at y
          exact absurd y (by decide)
        have f10 : FR [87] [] c s10 := by rw [q3]; exact FR.st FR.rf (by decide)
        have c87 : s10.1 87 0 = m.1 73 0 + 1 := by rw [q3, sti_s, ent]
        rw [ent, lim] at q1
        have ne : (m.1 73 0).toInt ≠ (m.1 77 0).toInt := fun z => q1 (by rw [fa_eq]; exact z)
        have e73 : (m.1 73 0 + 1).toInt = (m.1 73 0).toInt + 1 := i1 (by omega)
        refine fun c2 hc2 => ref (fun k39 h39 => ?_)
        refine pc_ite (fun _ => ?_) (fun y => absurd eq y)
        refine pc_cals m_enters (fun s11 w => ?_)
        rcases w with ⟨w1, w2⟩ | ⟨w1, w2⟩
        · exact absurd w1 q1
        have f11 : FR [73] [] m s11 := by rw [w2]; exact FR.st FR.rf (by decide)
        have m73 : s11.1 73 0 = m.1 73 0 + 1 := by rw [w2, sti_s]
        exact h39 s11 (step s10 s11 (FR.cal fc f10 rfl rfl) (FR.cal fm f11 rfl rfl) (hR.fr f10 rfl) (hM.fr f11 rfl) (hX.fr f10 rfl) (hK.fr f11 rfl) (by rw [f10.1 84 (by decide)]; exact c84) (by rw [f11.1 78 (by decide)]; exact m78) (by rw [f11.1 74 (by decide)]; exact m74) (by rw [f10.1 86 (by decide)]; exact c86) (by rw [f11.1 75 (by decide)]; exact m75) (by rw [f10.1 83 (by decide), f11.1 77 (by decide)]; exact lim) (by rw [c87, m73]) (by rw [f11.1 77 (by decide)]; exact l200) (by rw [m73, e73]; omega) (by rw [m73, f11.1 77 (by decide), e73]; omega) (by rw [m73, e73]; omega) c2 hc2)
