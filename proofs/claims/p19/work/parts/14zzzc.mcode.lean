/-- the stack of the reference -/
def SKM (St : List Int32) (m : Sto) : Prop := (m.1 81 0).toInt = (St.length : Int) ∧ ∀ i, i < St.length → m.1 80 i = oldO St i
theorem SKM.fr {St : List Int32} {c d : Sto} {ms ml : List Nat} (h : SKM St c) (f : FR ms ml c d) (hm : (!ms.contains 80 && !ms.contains 81) = true) : SKM St d := by
  simp only [Bool.and_eq_true, Bool.not_eq_true', List.contains_eq_mem, decide_eq_false_iff_not] at hm
  unfold SKM
  rw [f.1 80 hm.1, f.1 81 hm.2]
  exact h
/-- the stack of the reference ahead of what is laid on it -/
def SKP (gv : Int) (y : Int32) (w : Sto) (T : List Int32) : Prop := (w.1 81 0).toInt + gv = (T.length : Int) ∧ T.length ≤ 8 ∧ ∀ i, i < T.length → (if gv = 1 ∧ (i : Int) = (w.1 81 0).toInt then y else w.1 80 i) = oldO T i
theorem skp_1 {y : Int32} {w : Sto} {S : List Int32} (h : SKM S w) (hl : S.length < 8) : SKP 1 y w (y :: S) := by
  obtain ⟨h1, h2⟩ := h
  refine ⟨by rw [h1, List.length_cons]; omega, by rw [List.length_cons]; omega, fun i hi => ?_⟩
  rw [List.length_cons] at hi
  by_cases q : i = S.length
  · rw [if_pos ⟨rfl, by omega⟩, q, oldO_s]
  · rw [if_neg (fun z => q (by omega)), oldO_n (by omega)]
    exact h2 i (by omega)
theorem skp_0 {y : Int32} {w : Sto} {S : List Int32} (h : SKM S w) (hl : S.length ≤ 8) : SKP 0 y w S := by
  obtain ⟨h1, h2⟩ := h
  refine ⟨by rw [h1]; omega, hl, fun i hi => ?_⟩
  rw [if_neg (fun z => absurd z.1 (by decide))]
  exact h2 i hi
theorem SKM.top {u : Int32} {S : List Int32} {m : Sto} (h : SKM (u :: S) m) : m.1 80 S.length = u ∧ ∀ i, i < S.length → m.1 80 i = oldO S i :=
  ⟨by rw [h.2 _ (by rw [List.length_cons]; omega), oldO_s], fun i hi => by rw [h.2 i (by rw [List.length_cons]; omega), oldO_n hi]⟩
theorem m_handlerOf {s0 u : Sto} {x y : Int32} (hB : BM s0) (e11 : u.1 11 = s0.1 11) (hy : y = s0.1 16 0) (hx : 0 ≤ x.toInt ∧ x.toInt ≤ 39) : PC (f_X12_handlerOf_handler y x u) (fun v => (v.toInt = -1 ∧ hoP (nH s0) (fR s0) (uP s0) x.toNatClampNeg = nH s0) ∨ (0 ≤ v.toInt ∧ hoP (nH s0) (fR s0) (uP s0) x.toNatClampNeg = v.toNatClampNeg ∧ v.toNatClampNeg < nH s0)) := by
  subst hy
  have nh := nH_le hB
  rw [handlerOf_cg e11]
  refine pc_imp (pc_ok (s_X12_handlerOf_handler (x2 := s0.1 16 0) (x3 := x) hB (gM_16 hB 0) hx)) (fun v q => ?_)
  by_cases c : v.toInt = -1
  · exact Or.inl ⟨c, q.2.1 c⟩
  · obtain ⟨q1, q2⟩ := q.2.2 c
    have q3 : (hoP (nH s0) (fR s0) (uP s0) x.toNatClampNeg : Int) = v.toInt := q1
    have v0 : 0 ≤ v.toInt := by omega
    have cv := clamp_I v0
    exact Or.inr ⟨v0, by omega, by omega⟩
/-- where what is thrown goes in the reference -/
def THM (v : Int32) (i : Nat) (s0 m : Sto) (r : Int32 × Sto) : Prop := (hoP (nH s0) (fR s0) (uP s0) i = nH s0 ∧ r.2.1 74 0 = 1 ∧ r.2.1 75 0 = v) ∨ (hoP (nH s0) (fR s0) (uP s0) i < nH s0 ∧ r.1 = s0.1 11 (3 * hoP (nH s0) (fR s0) (uP s0) i + 2) ∧ SKM [v] r.2 ∧ r.2.1 78 0 = 0 ∧ r.2.1 74 = m.1 74 ∧ r.2.1 75 = m.1 75)
theorem m_caught {s0 m : Sto} {x v : Int32} (hB : BM s0) (e11 : m.1 11 = s0.1 11) (e16 : m.1 16 = s0.1 16) (hx : 0 ≤ x.toInt ∧ x.toInt ≤ 39) (hv : m.1 79 0 = v) : PC (f_X12_caught x m) (fun r => FR [74, 75, 78, 80, 81] [] m r.2 ∧ THM v x.toNatClampNeg s0 m r) := by
  have k_m1 : ((-1) : Int32).toInt = -1 := by decide +kernel
  have k_1 : (1 : Int32).toInt = 1 := by decide +kernel
  have k_2 : (2 : Int32).toInt = 2 := by decide +kernel
  have k_3 : (3 : Int32).toInt = 3 := by decide +kernel
  have nh := nH_le hB
  unfold f_X12_caught
  refine pc_lt fun s1 e1 => ?_
  have f1 : FR [78] [] m s1 := by rw [e1]; exact FR.st FR.rf (by decide)
  refine pc_calp (m_handlerOf (u := s1) (y := s1.1 16 0) hB (by rw [f1.1 11 (by decide)]; exact e11) (by rw [f1.1 16 (by decide), e16]) hx) (fun v2 q => ?_)
  refine pc_ite (fun z => ?_) (fun z => ?_)
  · rw [fa_eq, k_m1] at z
    refine pc_lt fun s4 e4 => ?_
    refine pc_lt fun s5 e5 => ?_
    refine pc_ret ⟨by rw [e5, e4]; exact FR.st (FR.st (FR.cal FR.rf f1 rfl rfl) (by decide)) (by decide), Or.inl ⟨?_, by (try dsimp only); rw [e5, sti_o (by decide), e4, sti_s], ?_⟩⟩
    · rcases q with ⟨_, y⟩ | ⟨y, _⟩
      · exact y
      · omega
    · (try dsimp only)
      rw [e5, sti_s, e4, sti_o (by decide), f1.1 79 (by decide)]; exact hv
  · rw [fa_eq, k_m1] at z
    rcases q with ⟨y, _⟩ | ⟨q1, q2, q3⟩
    · exact absurd y z
    have cv := clamp_I q1
    refine pc_ix (fun _ => ?_)
    refine pc_lt fun s6 e6 => ?_
    refine pc_lt fun s7 e7 => ?_
    have f7 : FR [78, 80, 81] [] m s7 := by rw [e7, e6]; exact FR.st (FR.st (FR.cal FR.rf f1 rfl rfl) (by decide)) (by decide)
    refine pc_ix (fun _ => ?_)
    refine pc_lt fun v8 e8 => ?_
    have m3 : ((3 : Int32) * v2).toInt = 3 * v2.toInt := by rw [fb_mulI (by rw [k_3]; omega) (by rw [k_3]; omega), k_3]
    have m2 : ((3 : Int32) * v2 + 2).toInt = 3 * v2.toInt + 2 := by rw [fb_addI (by rw [m3, k_2]; omega) (by rw [m3, k_2]; omega), m3, k_2]
    have cm := clamp_I (x := (3 : Int32) * v2 + 2) (by omega)
    refine pc_ret ⟨FR.cal FR.rf f7 rfl rfl, Or.inr ⟨by rw [q2]; exact q3, ?_, ⟨by (try dsimp only); rw [e7, sti_s, k_1]; rfl, fun i hi => ?_⟩, ?_, f7.1 74 (by decide), f7.1 75 (by decide)⟩⟩
    · (try dsimp only)
      have en : ((3 : Int32) * v2 + 2).toNatClampNeg = 3 * v2.toNatClampNeg + 2 := by omega
      rw [e8, f7.1 11 (by decide), e11, q2, en]
    · have i0 : i = 0 := by
        have : i < 1 := hi
        omega
      subst i0
      (try dsimp only)
      rw [e7, sti_o (by decide), e6]
      show (sti s1 80 0 (s1.1 79 0)).1 80 0 = v
      rw [sti_s, f1.1 79 (by decide)]; exact hv
    · (try dsimp only)
      rw [e7, sti_o (by decide), e6, sti_o (by decide), e1, sti_s]
/-- what the reference has done by one instruction -/
abbrev MKM : List Nat := [69, 70, 71, 72, 74, 75, 76, 78, 79, 80, 81]
def KOM (K : KRS) (s0 : Sto) (x n : Int32) (m : Sto) (r : Int32 × Sto) : Prop := FR MKM [] m r.2 ∧ RMM K.2.2.1 r.2 ∧ (K.1 = 0 → r.1 = x + 1 ∧ SKM K.2.1 r.2 ∧ r.2.1 78 0 = 0 ∧ r.2.1 74 = m.1 74 ∧ r.2.1 75 = m.1 75) ∧ (K.1 = 1 → r.1 = n ∧ SKM K.2.1 r.2 ∧ r.2.1 78 0 = 0 ∧ r.2.1 74 = m.1 74 ∧ r.2.1 75 = m.1 75) ∧ (K.1 = 2 → THM K.2.2.2 x.toNatClampNeg s0 m r) ∧ (K.1 = 3 → r.2.1 74 0 = 0 ∧ r.2.1 75 = m.1 75)
/-- behind an instruction's own work in the reference -/
def PJM (K : KRS) (g : Int) (x n : Int32) (m : Sto) (v y : Int32) (w : Sto) : Prop := FR MKM [] m w ∧ RMM K.2.2.1 w ∧ w.1 75 = m.1 75 ∧ (w.1 81 0).toInt + gvI g ≤ 8 ∧ 0 ≤ (w.1 81 0).toInt ∧ ((K.1 = 0 ∧ v = x + 1 ∧ w.1 78 0 = 0 ∧ w.1 74 = m.1 74 ∧ SKP (gvI g) y w K.2.1) ∨ (K.1 = 1 ∧ v = n ∧ w.1 78 0 = 0 ∧ w.1 74 = m.1 74 ∧ SKP (gvI g) y w K.2.1) ∨ (K.1 = 2 ∧ w.1 78 0 = 1 ∧ w.1 79 0 = K.2.2.2 ∧ w.1 74 = m.1 74) ∨ (K.1 = 3 ∧ w.1 78 0 = 0 ∧ w.1 74 0 = 0))
theorem m_next {s0 m : Sto} {x n : Int32} {R : RUS} {St : List Int32} {g : Int} (hB : BM s0) (e9 : m.1 9 = s0.1 9) (e11 : m.1 11 = s0.1 11) (e16 : m.1 16 = s0.1 16) (hg : (m.1 9 x.toNatClampNeg).toInt = g) (hn : m.1 10 x.toNatClampNeg = n) (hx : 0 ≤ x.toInt ∧ x.toInt ≤ 39) (hR : RMM R m) (hS : SKM St m) (h78 : m.1 78 0 = 0) (nd : ndI g ≤ (St.length : Int)) (s6 : St.length ≤ 6) (hi : INS g n.toInt) : PC (f_X12_next x m) (KOM (kStep g n St R) s0 x n m) := by
  have k_0 : (0 : Int32).toInt = 0 := by decide +kernel
  have k_1 : (1 : Int32).toInt = 1 := by decide +kernel
  have k_2 : (2 : Int32).toInt = 2 := by decide +kernel
  have k_100 : (100 : Int32).toInt = 100 := by decide +kernel
  have n2 : nI 2 = (2 : Int32) := by decide +kernel
  have g9 := gM_9 hB x.toNatClampNeg
  rw [← e9] at g9
  have nd0 := nd_0 g
  have gv0 := gv_0 g
  obtain ⟨sl, sr⟩ := hS
  unfold f_X12_next
  refine pc_ix (fun _ => ?_)
  refine pc_lt fun v1 e1 => ?_
  rw [← e1] at hg g9
  refine pc_calp (pc_ok (s_X12_pops g9)) (fun v2 q2 => ?_)
  rw [hg] at q2
  refine pc_jnI1 (fun t => 1 ≤ ndI g → t = St.headD 0) (fun t3 ht3 => ?_) (fun k29 h29 => ?_)
  rotate_left
  · refine pc_ite (fun z => h29 _ (fun y => ?_)) (fun z => ?_)
    · rw [fa_le, k_0] at z
      omega
    · refine pc_ix (fun b => ?_)
      refine pc_lt fun v43 e43 => h29 _ (fun y => ?_)
      obtain ⟨u, S, rfl⟩ := ls1 (St := St) (by omega)
      rw [List.length_cons] at sl
      have m1 := i32_m1 (x := m.1 81 0) (by omega)
      have cb := clamp_I b.1
      rw [e43, show ((m.1 81 0) - 1).toNatClampNeg = S.length by omega, sr _ (by rw [List.length_cons]; omega), oldO_s]
      rfl
  refine pc_calp (pc_ok (s_X12_pops g9)) (fun v4 q4 => ?_)
  rw [hg] at q4
  refine pc_jnI1 (fun t => 2 ≤ ndI g → t = St.tail.headD 0) (fun t5 ht5 => ?_) (fun k53 h53 => ?_)
  rotate_left
  · refine pc_ite (fun z => h53 _ (fun y => ?_)) (fun z => ?_)
    · rw [fa_le, k_1] at z
      omega
    · refine pc_ix (fun b => ?_)
      refine pc_lt fun v41 e41 => h53 _ (fun y => ?_)
      obtain ⟨u, l, S, rfl⟩ := ls2 (St := St) (by omega)
      rw [List.length_cons, List.length_cons] at sl
      have m2 := i_sub (x := m.1 81 0) (k := 2) (by decide) (by omega)
      rw [n2] at m2
      have cb := clamp_I b.1
      rw [e41, show ((m.1 81 0) - 2).toNatClampNeg = S.length by omega, sr _ (by rw [List.length_cons, List.length_cons]; omega), oldO_n (by rw [List.length_cons]; omega), oldO_s]
      rfl
  refine pc_calp (pc_ok (s_X12_pops g9)) (fun v6 q6 => ?_)
  rw [hg] at q6
  have p7 : ((m.1 81 0) - v6).toInt = (m.1 81 0).toInt - ndI g := by rw [fb_subI (by omega) (by omega)]; omega
  refine pc_lt fun s7 e7 => ?_
  have f7 : FR [81] [] m s7 := by rw [e7]; exact FR.st FR.rf (by decide)
  have r7 : RMM R s7 := hR.fr f7 rfl
  have a81 : (s7.1 81 0).toInt = (m.1 81 0).toInt - ndI g := by rw [e7, sti_s]; exact p7
  have a80 : s7.1 80 = m.1 80 := f7.1 80 (by decide)
  have a78 : s7.1 78 0 = 0 := by rw [f7.1 78 (by decide)]; exact h78
  have a74 : s7.1 74 = m.1 74 := f7.1 74 (by decide)
  have a75 : s7.1 75 = m.1 75 := f7.1 75 (by decide)
  have a10 : s7.1 10 x.toNatClampNeg = n := by rw [f7.1 10 (by decide)]; exact hn
  refine pc_lt fun x8 e8 => ?_
  refine pc_jnI3 (PJM (kStep g n St R) g x n m) (fun v y w hw => ?_) (fun k hk => ?_)
  · obtain ⟨w1, w2, w3, w4, w4b, w5⟩ := hw
    refine pc_calp (pc_ok (s_X12_pushes g9)) (fun v10 q10 => ?_)
    rw [hg] at q10
    refine pc_jnI1 (fun t => FR [80] [] w t ∧ ∀ i, t.1 80 i = if gvI g = 1 ∧ (i : Int) = (w.1 81 0).toInt then y else w.1 80 i) (fun t ht => ?_) (fun k hk => ?_)
    · obtain ⟨f, u⟩ := ht
      refine pc_calp (pc_ok (s_X12_pushes g9)) (fun v12 q12 => ?_)
      rw [hg] at q12
      have pp : ((t.1 81 0) + v12).toInt = (w.1 81 0).toInt + gvI g := by
        rw [f.1 81 (by decide), fb_addI (by omega) (by omega)]; omega
      refine pc_lt fun s13 e13 => ?_
      have f13 : FR [80, 81] [] w s13 := by rw [e13]; exact FR.st (FR.cal FR.rf f rfl rfl) (by decide)
      have F13 : FR MKM [] m s13 := FR.cal w1 f13 rfl rfl
      have r13 : RMM (kStep g n St R).2.2.1 s13 := w2.fr f13 rfl
      have b78 : s13.1 78 = w.1 78 := f13.1 78 (by decide)
      have b74 : s13.1 74 = w.1 74 := f13.1 74 (by decide)
      have b75 : s13.1 75 = m.1 75 := by rw [f13.1 75 (by decide)]; exact w3
      have sk : SKP (gvI g) y w (kStep g n St R).2.1 → SKM (kStep g n St R).2.1 s13 := fun z => by
        obtain ⟨z1, z2, z3⟩ := z
        refine ⟨by rw [e13, sti_s, pp]; exact z1, fun i hi => ?_⟩
        rw [e13, sti_o (by decide), u i]
        exact z3 i hi
      refine pc_ite (fun c => ?_) (fun c => ?_)
      · rw [b78] at c
        rcases w5 with ⟨p1, p2, p3, p4, p5⟩ | ⟨p1, p2, p3, p4, p5⟩ | ⟨p1, p2, p3, p4⟩ | ⟨p1, p2, p3⟩
        · exact pc_ret ⟨F13, r13, fun _ => ⟨p2, sk p5, by (try dsimp only); rw [b78]; exact c, by (try dsimp only); rw [b74]; exact p4, b75⟩, fun z => by omega, fun z => by omega, fun z => by omega⟩
        · exact pc_ret ⟨F13, r13, fun z => by omega, fun _ => ⟨p2, sk p5, by (try dsimp only); rw [b78]; exact c, by (try dsimp only); rw [b74]; exact p4, b75⟩, fun z => by omega, fun z => by omega⟩
        · rw [p2] at c
          exact absurd c (by decide)
        · exact pc_ret ⟨F13, r13, fun z => by omega, fun z => by omega, fun z => by omega, fun _ => ⟨by (try dsimp only); rw [b74]; exact p3, b75⟩⟩
      · rw [b78] at c
        have p : (kStep g n St R).1 = 2 ∧ w.1 78 0 = 1 ∧ w.1 79 0 = (kStep g n St R).2.2.2 ∧ w.1 74 = m.1 74 := by
          rcases w5 with ⟨p1, p2, p3, p4, p5⟩ | ⟨p1, p2, p3, p4, p5⟩ | p | ⟨p1, p2, p3⟩
          · exact absurd p3 c
          · exact absurd p3 c
          · exact p
          · exact absurd p2 c
        obtain ⟨p1, p2, p3, p4⟩ := p
        refine pc_calv (m_caught (s0 := s0) (v := (kStep g n St R).2.2.2) hB (by rw [F13.1 11 (by decide)]; exact e11) (by rw [F13.1 16 (by decide)]; exact e16) hx (by rw [f13.1 79 (by decide)]; exact p3)) (fun v15 s15 o => ?_)
        obtain ⟨o1, o2⟩ := o
        (try dsimp only at o1 o2)
        refine pc_ret ⟨FR.cal F13 o1 rfl rfl, r13.fr o1 rfl, fun z => by omega, fun z => by omega, fun _ => ?_, fun z => by omega⟩
        rcases o2 with o2 | ⟨o2, o3, o4, o5, o6, o7⟩
        · exact Or.inl o2
        · exact Or.inr ⟨o2, o3, o4, o5, by rw [o6, b74]; exact p4, by rw [o7]; exact b75⟩
    · refine pc_ite (fun c => ?_) (fun c => ?_)
      · rw [fa_eq, k_1] at c
        refine pc_ix (fun b => ?_)
        have cb := clamp_I b.1
        refine pc_lt fun s17 e17 => hk s17 ⟨by rw [e17]; exact FR.st FR.rf (by decide), fun i => ?_⟩
        rw [e17, sti_if]
        by_cases q : i = (w.1 81 0).toNatClampNeg
        · rw [if_pos q, if_pos ⟨by omega, by omega⟩]
        · rw [if_neg q, if_neg (fun z => q (by omega))]
      · rw [fa_eq, k_1] at c
        refine hk w ⟨FR.rf, fun i => ?_⟩
        rw [if_neg (fun z => c (by omega))]
  · -- the work itself
    have S7 : ∀ {T : List Int32}, (T.length : Int) = (St.length : Int) - ndI g → (∀ i, i < T.length → oldO St i = oldO T i) → SKM T s7 := fun {T} h1 h2 => ⟨by rw [a81, sl]; omega, fun i hi => by rw [a80, sr i (by omega)]; exact h2 i hi⟩
    have S0 : ndI g = 0 → SKM St s7 := fun z => S7 (by omega) (fun i _ => rfl)
    have S1 : ∀ {u : Int32} {S : List Int32}, St = u :: S → ndI g = 1 → SKM S s7 := fun {u S} e z => S7 (by rw [e, List.length_cons]; omega) (fun i hi => by rw [e]; exact oldO_n hi)
    have S2 : ∀ {u l : Int32} {S : List Int32}, St = u :: l :: S → ndI g = 2 → SKM S s7 := fun {u l S} e z => S7 (by rw [e, List.length_cons, List.length_cons]; omega) (fun i hi => by rw [e, oldO_n (by rw [List.length_cons]; omega)]; exact oldO_n hi)
    have G7 : FR MKM [] m s7 := FR.cal FR.rf f7 rfl rfl
    have gv2 : gvI g ≤ 2 := by unfold gvI; split; omega; split; omega; omega
    have B7 : (s7.1 81 0).toInt + gvI g ≤ 8 ∧ 0 ≤ (s7.1 81 0).toInt := by rw [a81, sl]; omega
    refine pc_ite (fun c => ?_) (fun c33 => ?_)
    · rw [hg] at c
      subst c
      obtain ⟨u, S, rfl⟩ := ls1 (St := St) nd
      rw [List.length_cons] at s6
      have t3 : t3 = u := ht3 (by decide)
      have K1 := skp_1 (y := if u = 0 then 1 else 0) (S1 rfl rfl) (by omega)
      refine pc_jnI1 (fun t => t = if u = 0 then 1 else 0) (fun t ht => ?_) (fun k2 h2 => ?_)
      · rw [ht]
        exact hk _ _ _ ⟨G7, r7, a75, B7.1, B7.2, Or.inl ⟨rfl, e8, a78, a74, K1⟩⟩
      · rw [t3]
        exact pc_ite (fun z => h2 _ (if_pos z).symm) (fun z => h2 _ (if_neg z).symm)
    rw [hg] at c33
    refine pc_ite (fun c => ?_) (fun c100 => ?_)
    · rw [hg] at c
      have ex : ((s7.1 81 0) + 1).toInt = (s7.1 81 0).toInt + 1 := i1 (by omega)
      refine pc_ix (fun b => ?_)
      have cb := clamp_I b.1
      refine pc_lt fun s21 e21 => ?_
      have f21 : FR [80] [] s7 s21 := by rw [e21]; exact FR.st FR.rf (by decide)
      refine pc_jnI1 (fun t => (g = 100 → t = t3) ∧ (g = 119 → t = t5)) (fun t ht => ?_) (fun k2 h2 => ?_)
      · refine pc_ix (fun b2 => ?_)
        have cb2 := clamp_I b2.1
        refine pc_lt fun s23 e23 => ?_
        have f23 : FR [80] [] s7 s23 := by rw [e23]; exact FR.st (FR.cal FR.rf f21 rfl rfl) (by decide)
        have q81 : s21.1 81 = s7.1 81 := f21.1 81 (by decide)
        rw [q81] at b2 cb2 e23
        have row : ∀ i, s23.1 80 i = if (i : Int) = (s7.1 81 0).toInt + 1 then t else if (i : Int) = (s7.1 81 0).toInt then t3 else s7.1 80 i := fun i => by
          rw [e23, sti_if]
          by_cases q : i = ((s7.1 81 0) + 1).toNatClampNeg
          · rw [if_pos q, if_pos (by omega)]
          · rw [if_neg q, if_neg (by omega), e21, sti_if]
            by_cases q2 : i = (s7.1 81 0).toNatClampNeg
            · rw [if_pos q2, if_pos (by omega)]
            · rw [if_neg q2, if_neg (by omega)]
        have b81 : s23.1 81 = s7.1 81 := f23.1 81 (by decide)
        have two : ∀ {S : List Int32}, SKM S s7 → S.length ≤ 6 → SKP 2 0 s23 (t :: t3 :: S) := fun {S} hs hl => by
          obtain ⟨z1, z2⟩ := hs
          refine ⟨by rw [b81, z1, List.length_cons, List.length_cons]; omega, by rw [List.length_cons, List.length_cons]; omega, fun i hi => ?_⟩
          rw [List.length_cons, List.length_cons] at hi
          rw [if_neg (fun z => absurd z.1 (by decide)), row i, z1]
          by_cases q : i = S.length + 1
          · rw [if_pos (by omega), q]
            exact (oldO_s (l := t3 :: S)).symm
          · rw [if_neg (by omega), oldO_n (by rw [List.length_cons]; omega)]
            by_cases q2 : i = S.length
            · rw [if_pos (by omega), q2, oldO_s]
            · rw [if_neg (by omega), oldO_n (by omega)]
              exact z2 i (by omega)
        have F23 : FR MKM [] m s23 := FR.cal G7 f23 rfl rfl
        have common : RMM R s23 ∧ s23.1 75 = m.1 75 ∧ ((s23.1 81 0).toInt + gvI g ≤ 8 ∧ 0 ≤ (s23.1 81 0).toInt) ∧ s23.1 78 0 = 0 ∧ s23.1 74 = m.1 74 := ⟨r7.fr f23 rfl, by rw [f23.1 75 (by decide)]; exact a75, by rw [b81]; exact B7, by rw [f23.1 78 (by decide)]; exact a78, by rw [f23.1 74 (by decide)]; exact a74⟩
        obtain ⟨d1, d2, d3, d4, d5⟩ := common
        rcases c with c | c
        · subst c
          obtain ⟨u, S, rfl⟩ := ls1 (St := St) nd
          rw [List.length_cons] at s6
          have t3e : t3 = u := ht3 (by decide)
          have te : t = u := (ht.1 rfl).trans t3e
          have K2 := two (S1 rfl rfl) (by omega)
          rw [te, t3e] at K2
          exact hk _ _ _ ⟨F23, d1, d2, d3.1, d3.2, Or.inl ⟨rfl, e8, d4, d5, K2⟩⟩
        · subst c
          obtain ⟨u, l, S, rfl⟩ := ls2 (St := St) nd
          rw [List.length_cons, List.length_cons] at s6
          have t3e : t3 = u := ht3 (by decide)
          have te : t = l := (ht.2 rfl).trans (ht5 (by decide))
          have K2 := two (S2 rfl rfl) (by omega)
          rw [te, t3e] at K2
          exact hk _ _ _ ⟨F23, d1, d2, d3.1, d3.2, Or.inl ⟨rfl, e8, d4, d5, K2⟩⟩
      · refine pc_ite (fun z => h2 _ ⟨fun _ => rfl, fun y => ?_⟩) (fun z => h2 _ ⟨fun y => ?_, fun _ => rfl⟩)
        · rw [fa_eq, k_100, hg] at z
          omega
        · rw [fa_eq, k_100, hg] at z
          exact absurd y z
    rw [hg] at c100
    refine pc_ite (fun c => ?_) (fun c103 => ?_)
    · rw [hg] at c
      subst c
      refine pc_ix (fun _ => ?_)
      refine pc_lt fun v25 e25 => ?_
      rw [a10] at e25
      exact hk _ _ _ ⟨G7, r7, a75, B7.1, B7.2, Or.inr (Or.inl ⟨rfl, e25, a78, a74, skp_0 (S := St) (S0 rfl) (by omega)⟩)⟩
    rw [hg] at c103
    refine pc_ite (fun c => ?_) (fun c105 => ?_)
    · rw [hg] at c
      subst c
      refine pc_calv (m_input r7) (fun v26 s26 q => ?_)
      obtain ⟨q1, q2, q3⟩ := q
      (try dsimp only at q1 q2 q3)
      have K1 := skp_1 (y := v26) ((S0 rfl).fr q1 rfl) (by omega)
      have b81 : s26.1 81 = s7.1 81 := q1.1 81 (by decide)
      refine hk _ _ _ ⟨FR.cal G7 q1 rfl rfl, q2, by rw [q1.1 75 (by decide)]; exact a75, by rw [b81]; exact B7.1, by rw [b81]; exact B7.2, Or.inl ⟨rfl, e8, by rw [q1.1 78 (by decide)]; exact a78, by rw [q1.1 74 (by decide)]; exact a74, ?_⟩⟩
      rw [q3] at K1 ⊢
      exact K1
    rw [hg] at c105
    refine pc_ite (fun c => ?_) (fun c107 => ?_)
    · rw [hg] at c
      subst c
      refine pc_ix (fun _ => ?_)
      refine pc_lt fun v27 e27 => ?_
      rw [a10] at e27
      rw [e27]
      exact hk _ _ _ ⟨G7, r7, a75, B7.1, B7.2, Or.inl ⟨rfl, e8, a78, a74, skp_1 (S := St) (S0 rfl) (by omega)⟩⟩
    rw [hg] at c107
    refine pc_ite (fun c => ?_) (fun c108 => ?_)
    · rw [hg] at c
      subst c
      refine pc_ix (fun _ => ?_)
      refine pc_lt fun v28 e28 => ?_
      rw [a10] at e28
      refine pc_ix (fun b => ?_)
      refine pc_lt fun v29 e29 => ?_
      have cb := clamp_I b.1
      rw [e28] at b cb
      rw [e28, r7.1 _ (by omega)] at e29
      rw [e29]
      exact hk _ _ _ ⟨G7, r7, a75, B7.1, B7.2, Or.inl ⟨rfl, e8, a78, a74, skp_1 (S := St) (S0 rfl) (by omega)⟩⟩
    rw [hg] at c108
    refine pc_ite (fun c => ?_) (fun c110 => ?_)
    · rw [hg] at c
      subst c
      obtain ⟨u, S, rfl⟩ := ls1 (St := St) nd
      rw [List.length_cons] at s6
      have t3e : t3 = u := ht3 (by decide)
      refine pc_lt fun x30 e30 => ?_
      rw [e30, t3e]
      exact hk _ _ _ ⟨G7, r7, a75, B7.1, B7.2, Or.inl ⟨rfl, e8, a78, a74, skp_1 (S := S) (S1 rfl rfl) (by omega)⟩⟩
    rw [hg] at c110
    refine pc_ite (fun c => ?_) (fun c111 => ?_)
    · rw [hg] at c
      subst c
      obtain ⟨u, S, rfl⟩ := ls1 (St := St) nd
      rw [List.length_cons] at s6
      have t3e : t3 = u := ht3 (by decide)
      rw [t3e]
      refine pc_cals (m_outputs (v := u) r7) (fun s31 q => ?_)
      obtain ⟨q1, q2⟩ := q
      have b81 : s31.1 81 = s7.1 81 := q1.1 81 (by decide)
      exact hk _ _ _ ⟨FR.cal G7 q1 rfl rfl, q2, by rw [q1.1 75 (by decide)]; exact a75, by rw [b81]; exact B7.1, by rw [b81]; exact B7.2, Or.inl ⟨rfl, e8, by rw [q1.1 78 (by decide)]; exact a78, by rw [q1.1 74 (by decide)]; exact a74, skp_0 (S := S) (SKM.fr (S1 (S := S) rfl rfl) q1 rfl) (by omega)⟩⟩
    rw [hg] at c111
    refine pc_ite (fun c => ?_) (fun c112 => ?_)
    · rw [hg] at c
      subst c
      obtain ⟨u, S, rfl⟩ := ls1 (St := St) nd
      rw [List.length_cons] at s6
      exact hk _ _ _ ⟨G7, r7, a75, B7.1, B7.2, Or.inl ⟨rfl, e8, a78, a74, skp_0 (S := S) (S1 rfl rfl) (by omega)⟩⟩
    rw [hg] at c112
    refine pc_ite (fun c => ?_) (fun c114 => ?_)
    · rw [hg] at c
      subst c
      refine pc_lt fun s32 e32 => ?_
      have f32 : FR [74] [] s7 s32 := by rw [e32]; exact FR.st FR.rf (by decide)
      have b81 : s32.1 81 = s7.1 81 := f32.1 81 (by decide)
      exact hk _ _ _ ⟨FR.cal G7 f32 rfl rfl, r7.fr f32 rfl, by rw [f32.1 75 (by decide)]; exact a75, by rw [b81]; exact B7.1, by rw [b81]; exact B7.2, Or.inr (Or.inr (Or.inr ⟨rfl, by rw [f32.1 78 (by decide)]; exact a78, by rw [e32, sti_s]⟩))⟩
    rw [hg] at c114
    refine pc_ite (fun c => ?_) (fun c115 => ?_)
    · rw [hg] at c
      subst c
      obtain ⟨u, S, rfl⟩ := ls1 (St := St) nd
      rw [List.length_cons] at s6
      have t3e : t3 = u := ht3 (by decide)
      refine pc_ix (fun _ => ?_)
      refine pc_lt fun v33 e33 => ?_
      rw [a10] at e33
      rw [e33, t3e]
      refine pc_ix (fun _ => ?_)
      refine pc_lt fun s34 e34 => ?_
      have f34 : FR [69] [] s7 s34 := by rw [e34]; exact FR.st FR.rf (by decide)
      have b81 : s34.1 81 = s7.1 81 := f34.1 81 (by decide)
      exact hk _ _ _ ⟨FR.cal G7 f34 rfl rfl, r7.set e34, by rw [f34.1 75 (by decide)]; exact a75, by rw [b81]; exact B7.1, by rw [b81]; exact B7.2, Or.inl ⟨rfl, e8, by rw [f34.1 78 (by decide)]; exact a78, by rw [f34.1 74 (by decide)]; exact a74, skp_0 (S := S) (SKM.fr (S1 (S := S) rfl rfl) f34 rfl) (by omega)⟩⟩
    rw [hg] at c115
    refine pc_ite (fun c => ?_) (fun c116 => ?_)
    · rw [hg] at c
      subst c
      obtain ⟨u, S, rfl⟩ := ls1 (St := St) nd
      rw [List.length_cons] at s6
      have t3e : t3 = u := ht3 (by decide)
      rw [t3e]
      unfold f_X12_throwsIt
      refine pc_cals (Q := fun t => t.1 78 0 = 1 ∧ t.1 79 0 = u ∧ FR [78, 79] [] s7 t) ?_ (fun t q => ?_)
      · refine pc_lt fun s1 e1 => ?_
        refine pc_lt fun s2 e2 => ?_
        exact pc_ret ⟨by rw [e2, sti_o (by decide), e1, sti_s], by rw [e2, sti_s], by rw [e2, e1]; exact FR.st (FR.st FR.rf (by decide)) (by decide)⟩
      · obtain ⟨q1, q2, q3⟩ := q
        have b81 : t.1 81 = s7.1 81 := q3.1 81 (by decide)
        exact hk _ _ _ ⟨FR.cal G7 q3 rfl rfl, r7.fr q3 rfl, by rw [q3.1 75 (by decide)]; exact a75, by rw [b81]; exact B7.1, by rw [b81]; exact B7.2, Or.inr (Or.inr (Or.inl ⟨rfl, q1, q2, by rw [q3.1 74 (by decide)]; exact a74⟩))⟩
    rw [hg] at c116
    refine pc_ite (fun c => ?_) (fun c122 => ?_)
    · rw [hg] at c
      subst c
      obtain ⟨u, S, rfl⟩ := ls1 (St := St) nd
      rw [List.length_cons] at s6
      have t3e : t3 = u := ht3 (by decide)
      have K0 := skp_0 (y := 0) (S1 rfl rfl) (by omega)
      have eK : kStep 122 n (u :: S) R = (if u = 0 then 1 else 0, S, R, 0) := rfl
      rw [eK] at hk ⊢
      refine pc_jnI1 (fun v => (u = 0 ∧ v = n) ∨ (u ≠ 0 ∧ v = x8)) (fun v hv => ?_) (fun k2 h2 => ?_)
      · rcases hv with ⟨z1, z2⟩ | ⟨z1, z2⟩
        · rw [if_pos z1] at hk ⊢
          exact hk _ _ _ ⟨G7, r7, a75, B7.1, B7.2, Or.inr (Or.inl ⟨rfl, z2, a78, a74, K0⟩)⟩
        · rw [if_neg z1] at hk ⊢
          exact hk _ _ _ ⟨G7, r7, a75, B7.1, B7.2, Or.inl ⟨rfl, z2.trans e8, a78, a74, K0⟩⟩
      · rw [t3e]
        refine pc_ite (fun z => ?_) (fun z => h2 _ (Or.inr ⟨z, rfl⟩))
        refine pc_ix (fun _ => ?_)
        refine pc_lt fun v38 e38 => h2 _ (Or.inl ⟨z, by rw [e38]; exact a10⟩)
    rw [hg] at c122
    have b : isBi g := by
      unfold INS bareI at hi
      omega
    have w2 : ndI g = 2 := by
      unfold ndI
      rw [if_pos (by omega)]
    have gv1 : gvI g = 1 := by
      unfold gvI
      rw [if_neg (by omega), if_pos (by omega)]
    obtain ⟨u, l, S, rfl⟩ := ls2 (St := St) (by omega)
    rw [List.length_cons, List.length_cons] at s6
    have t3e : t3 = u := ht3 (by omega)
    have t5e : t5 = l := ht5 (by omega)
    rw [kStep_b b] at hk ⊢
    refine pc_calv (m_result (l := t5) (u := t3) (by rw [hg]; exact b)) (fun v39 s39 q => ?_)
    rw [hg, t3e, t5e] at q
    (try dsimp only at q)
    rcases q with ⟨q1, q2, q3⟩ | ⟨q1, q2, q3, q4, q5⟩
    · have p4 : ¬ ((g = 47 ∨ g = 37) ∧ (u :: l :: S).headD 0 = 0) := q1
      rw [if_neg p4] at hk ⊢
      rw [q2, q3]
      refine hk _ _ _ ⟨G7, r7, a75, B7.1, B7.2, Or.inl ⟨rfl, e8, a78, a74, ?_⟩⟩
      rw [gv1]
      exact skp_1 (S := S) (S2 rfl w2) (by omega)
    · have p4 : (g = 47 ∨ g = 37) ∧ (u :: l :: S).headD 0 = 0 := q1
      rw [if_pos p4] at hk ⊢
      have b81 : s39.1 81 = s7.1 81 := q4.1 81 (by decide)
      exact hk _ _ _ ⟨FR.cal G7 q4 rfl rfl, r7.fr q4 rfl, by rw [q4.1 75 (by decide)]; exact a75, by rw [b81]; exact B7.1, by rw [b81]; exact B7.2, Or.inr (Or.inr (Or.inl ⟨rfl, q2, q3, by rw [q4.1 74 (by decide)]; exact a74⟩))⟩
