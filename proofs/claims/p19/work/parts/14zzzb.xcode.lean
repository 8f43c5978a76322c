/-- one instruction: 0 it goes on, 1 it goes where it says, 2 it throws a value, 3 it ends; the stack then, the run then, what is thrown -/
abbrev KRS : Type := Nat × List Int32 × RUS × Int32
def kStep (g : Int) (n : Int32) (St : List Int32) (R : RUS) : KRS :=
  if g = 107 then (0, n :: St, R, 0)
  else if g = 108 then (0, R.1 n.toNatClampNeg :: St, R, 0)
  else if g = 115 then (0, St.tail, rSet n.toNatClampNeg (St.headD 0) R, 0)
  else if g = 105 then (0, drO (drN R.2.1) :: St, rDraw R, 0)
  else if g = 111 then (0, St.tail, rOut (St.headD 0) R, 0)
  else if g = 112 then (0, St.tail, R, 0)
  else if g = 100 then (0, St.headD 0 :: St.headD 0 :: St.tail, R, 0)
  else if g = 119 then (0, St.tail.headD 0 :: St.headD 0 :: St.tail.tail, R, 0)
  else if g = 103 then (1, St, R, 0)
  else if g = 122 then (if St.headD 0 = 0 then 1 else 0, St.tail, R, 0)
  else if g = 116 then (2, St.tail, R, St.headD 0)
  else if g = 114 then (3, St, R, 0)
  else if g = 33 then (0, (if St.headD 0 = 0 then 1 else 0) :: St.tail, R, 0)
  else if g = 110 then (0, (-(St.headD 0)) :: St.tail, R, 0)
  else if (g = 47 ∨ g = 37) ∧ St.headD 0 = 0 then (2, St.tail.tail, R, 99) else (0, opv g (St.tail.headD 0) (St.headD 0) :: St.tail.tail, R, 0)
theorem kStep_b {g : Int} {n : Int32} {St : List Int32} {R : RUS} (h : isBi g) : kStep g n St R = if (g = 47 ∨ g = 37) ∧ St.headD 0 = 0 then (2, St.tail.tail, R, 99) else (0, opv g (St.tail.headD 0) (St.headD 0) :: St.tail.tail, R, 0) := by
  unfold kStep
  rw [if_neg (by omega), if_neg (by omega), if_neg (by omega), if_neg (by omega), if_neg (by omega), if_neg (by omega), if_neg (by omega), if_neg (by omega), if_neg (by omega), if_neg (by omega), if_neg (by omega), if_neg (by omega), if_neg (by omega), if_neg (by omega)]
theorem kne {i j : Nat} {p : Prop} (h : i ≠ j) (z : i = j) : p := absurd z h
theorem ls1 {St : List Int32} (h : (1 : Int) ≤ (St.length : Int)) : ∃ u S, St = u :: S := by
  cases St with
  | nil => exact absurd h (by simp)
  | cons u S => exact ⟨u, S, rfl⟩
theorem ls2 {St : List Int32} (h : (2 : Int) ≤ (St.length : Int)) : ∃ u l S, St = u :: l :: S := by
  obtain ⟨u, S, e⟩ := ls1 (St := St) (by omega)
  rw [e, List.length_cons] at h
  obtain ⟨l, T, e2⟩ := ls1 (St := S) (by omega)
  exact ⟨u, l, T, by rw [e, e2]⟩
/-- the stack of the class -/
def SKX (St : List Int32) (c : Sto) : Prop := (c.1 81 0).toInt = (St.length : Int) ∧ ∀ i, i < St.length → c.1 79 i = oldO St i
theorem SKX.fr {St : List Int32} {c d : Sto} {ms ml : List Nat} (h : SKX St c) (f : FR ms ml c d) (hm : (!ms.contains 79 && !ms.contains 81) = true) : SKX St d := by
  simp only [Bool.and_eq_true, Bool.not_eq_true', List.contains_eq_mem, decide_eq_false_iff_not] at hm
  unfold SKX
  rw [f.1 79 hm.1, f.1 81 hm.2]
  exact h
theorem t_pushK {St : List Int32} {c : Sto} {v : Int32} (h : SKX St c) (hl : St.length < 8) : PC (f_X5_push v c) (fun d => FR [79, 81] [] c d ∧ SKX (v :: St) d) := by
  have k_8 : (8 : Int32).toInt = 8 := by decide +kernel
  obtain ⟨h1, h2⟩ := h
  unfold f_X5_push
  refine pc_ite (fun z => ?_) (fun z => ?_)
  · rw [fa_le, k_8] at z
    omega
  refine pc_ix (fun g => ?_)
  refine pc_lt fun s2 e2 => ?_
  refine pc_lt fun s3 e3 => ?_
  have ex : ((c.1 81 0) + 1).toInt = (c.1 81 0).toInt + 1 := i1 (by omega)
  have n1 : (c.1 81 0).toNatClampNeg = St.length := by
    have := clamp_I g.1
    omega
  refine pc_ret ⟨by rw [e3, e2]; exact FR.st (FR.st FR.rf (by decide)) (by decide), ?_, fun i hi => ?_⟩
  · rw [e3, sti_s, e2, sti_o (by decide), ex, h1, List.length_cons]; omega
  · rw [List.length_cons] at hi
    rw [e3, sti_o (by decide), e2, n1]
    by_cases q : i = St.length
    · rw [q, sti_s, oldO_s]
    · rw [sti_j q, oldO_n (by omega)]; exact h2 i (by omega)
theorem t_popK {St : List Int32} {c : Sto} {v : Int32} (h : SKX (v :: St) c) : PC (f_X5_pop c) (fun r => FR [81] [] c r.2 ∧ SKX St r.2 ∧ r.1 = v) := by
  have k_0 : (0 : Int32).toInt = 0 := by decide +kernel
  obtain ⟨h1, h2⟩ := h
  rw [List.length_cons] at h1
  unfold f_X5_pop
  refine pc_jnI1 (fun t => FR [81] [] c t ∧ (t.1 81 0).toInt = (St.length : Int)) (fun t ht => ?_) (fun k hk => ?_)
  · obtain ⟨f, w⟩ := ht
    refine pc_ix (fun g => ?_)
    refine pc_lt fun v2 e2 => ?_
    have n1 : (t.1 81 0).toNatClampNeg = St.length := by
      have := clamp_I g.1
      omega
    refine pc_ret ⟨f, ⟨w, fun i hi => ?_⟩, ?_⟩
    · (try dsimp only)
      rw [f.1 79 (by decide), h2 i (by rw [List.length_cons]; omega), oldO_n hi]
    · (try dsimp only)
      rw [e2, f.1 79 (by decide), n1, h2 _ (by rw [List.length_cons]; omega), oldO_s]
  · refine pc_ite (fun z => ?_) (fun z => ?_)
    · rw [fa_le, k_0] at z
      omega
    · have m1 := i32_m1 (x := c.1 81 0) (by omega)
      refine pc_lt fun s4 e4 => hk s4 ⟨by rw [e4]; exact FR.st FR.rf (by decide), ?_⟩
      rw [e4, sti_s]
      have e : ((c.1 81 0) - 1).toInt = (c.1 81 0).toInt - 1 := m1
      omega
/-- where what is thrown goes in the class -/
def THX (v : Int32) (i : Nat) (c : Sto) (r : Int32 × Sto) : Prop := (hoP (c.1 5 0).toInt.toNat (ri (c.1 9)) (ri (c.1 10)) i = (c.1 5 0).toInt.toNat ∧ r.1 = -1 ∧ r.2.1 86 0 = 1 ∧ r.2.1 85 0 = v) ∨ (hoP (c.1 5 0).toInt.toNat (ri (c.1 9)) (ri (c.1 10)) i < (c.1 5 0).toInt.toNat ∧ r.1 = c.1 11 (hoP (c.1 5 0).toInt.toNat (ri (c.1 9)) (ri (c.1 10)) i) ∧ SKX [v] r.2 ∧ r.2.1 84 0 = 0 ∧ r.2.1 86 = c.1 86)
theorem THX.cg {v : Int32} {i : Nat} {c d : Sto} {r : Int32 × Sto} (h : THX v i d r) (e5 : d.1 5 = c.1 5) (e9 : d.1 9 = c.1 9) (e10 : d.1 10 = c.1 10) (e11 : d.1 11 = c.1 11) (e86 : d.1 86 = c.1 86) : THX v i c r := by
  unfold THX at h ⊢
  rw [e5, e9, e10, e11, e86] at h
  exact h
theorem t_throwFrom {x v : Int32} {c : Sto} (hx : 0 ≤ x.toInt) : PC (f_X5_throwFrom x v c) (fun r => FR [79, 81, 84, 85, 86] [] c r.2 ∧ THX v x.toNatClampNeg c r) := by
  have k_m1 : ((-1) : Int32).toInt = -1 := by decide +kernel
  have k_0 : (0 : Int32).toInt = 0 := by decide +kernel
  unfold f_X5_throwFrom
  refine pc_calp (t_X3_handlerOf hx) (fun v1 q => ?_)
  refine pc_ite (fun z => ?_) (fun z => ?_)
  · rw [fa_eq, k_m1] at z
    unfold f_X5_throwOut
    refine pc_cals (Q := fun t => FR [85, 86] [] c t ∧ t.1 86 0 = 1 ∧ t.1 85 0 = v) ?_ (fun t w => pc_ret ⟨FR.cal FR.rf w.1 rfl rfl, Or.inl ⟨?_, rfl, w.2.1, w.2.2⟩⟩)
    · refine pc_lt fun s1 e1 => ?_
      refine pc_lt fun s2 e2 => ?_
      exact pc_ret ⟨by rw [e2, e1]; exact FR.st (FR.st FR.rf (by decide)) (by decide), by rw [e2, sti_o (by decide), e1, sti_s], by rw [e2, sti_s]⟩
    · rcases q with ⟨_, y⟩ | ⟨y, _⟩
      · exact y
      · omega
  · rw [fa_eq, k_m1] at z
    rcases q with ⟨y, _⟩ | ⟨q1, q2, q3⟩
    · exact absurd y z
    refine pc_lt fun s4 e4 => ?_
    refine pc_lt fun s5 e5 => ?_
    have f5 : FR [81, 84] [] c s5 := by rw [e5, e4]; exact FR.st (FR.st FR.rf (by decide)) (by decide)
    have k5 : SKX [] s5 := ⟨by rw [e5, sti_s]; exact k_0, fun i hi => absurd hi (Nat.not_lt_zero _)⟩
    refine pc_cals (t_pushK k5 (by decide)) (fun s6 w => ?_)
    obtain ⟨w1, w2⟩ := w
    have f6 : FR [79, 81, 84] [] c s6 := FR.cal (FR.cal FR.rf f5 rfl rfl) w1 rfl rfl
    refine pc_ix (fun _ => ?_)
    refine pc_lt fun v7 e7 => ?_
    refine pc_ret ⟨FR.cal FR.rf f6 rfl rfl, Or.inr ⟨?_, ?_, w2, ?_, f6.1 86 (by decide)⟩⟩
    · rw [q2]; exact q3
    · (try dsimp only)
      rw [e7, f6.1 11 (by decide), q2]
    · (try dsimp only)
      rw [w1.1 84 (by decide), e5, sti_o (by decide), e4, sti_s]
/-- what the class has done by one instruction -/
abbrev MKX : List Nat := [78, 79, 81, 82, 84, 85, 86, 88, 89, 90, 92]
def KOX (K : KRS) (a x n : Int32) (c : Sto) (r : Int32 × Sto) : Prop := FR MKX [] c r.2 ∧ RXX a K.2.2.1 r.2 ∧ (K.1 = 0 → r.1 = x + 1 ∧ SKX K.2.1 r.2 ∧ r.2.1 84 0 = 0 ∧ r.2.1 86 = c.1 86) ∧ (K.1 = 1 → r.1 = n ∧ SKX K.2.1 r.2 ∧ r.2.1 84 0 = 0 ∧ r.2.1 86 = c.1 86) ∧ (K.1 = 2 → THX K.2.2.2 x.toNatClampNeg c r) ∧ (K.1 = 3 → r.1 = -1 ∧ r.2.1 86 = c.1 86) ∧ K.1 ≤ 3
theorem t_isBin {x : Int32} : PC (f_X11_isBinary x) (fun v => v = 0 ↔ ¬ isBi x.toInt) := by
  have k_0 : (0 : Int32).toInt = 0 := by decide +kernel
  refine pc_imp (pc_ok (s_X11_isBinary (x1 := x))) (fun v q => ?_)
  obtain ⟨q1, q2⟩ := q
  rw [fa_eq, k_0]
  unfold opB at q2
  omega
theorem t_oper1 {x u : Int32} {S : List Int32} {c : Sto} (hx : x.toInt = 33 ∨ x.toInt = 110) (h : SKX (u :: S) c) (hl : S.length < 8) : PC (f_X5_operate x c) (fun d => FR [79, 81] [] c d ∧ SKX ((if x.toInt = 33 then (if u = 0 then 1 else 0) else -u) :: S) d) := by
  unfold f_X5_operate
  refine pc_calv (t_popK h) (fun v1 s1 q => ?_)
  obtain ⟨q1, q2, q3⟩ := q
  (try dsimp only at q1 q2 q3)
  refine pc_calp t_isBin (fun v2 w => ?_)
  refine pc_ite (fun _ => ?_) (fun z => absurd (w.mpr (by omega)) z)
  refine pc_calp t_outcome (fun v4 y => ?_)
  refine pc_cals (t_pushK (v := v4) q2 hl) (fun s5 p => pc_ret ⟨FR.cal (FR.cal FR.rf q1 rfl rfl) p.1 rfl rfl, ?_⟩)
  have e : v4 = if x.toInt = 33 then (if u = 0 then 1 else 0) else -u := by
    by_cases c33 : x.toInt = 33
    · rw [if_pos c33, y.1 c33, q3]
    · rw [if_neg c33, y.2.1 (by omega), q3]
  rw [← e]
  exact p.2
theorem t_oper2 {x u l : Int32} {S : List Int32} {c : Sto} (hx : isBi x.toInt) (h : SKX (u :: l :: S) c) (hl : S.length < 8) : PC (f_X5_operate x c) (fun d => FR [79, 81, 84] [] c d ∧ ((dvz x.toInt u ∧ d.1 84 0 = 1) ∨ (¬ dvz x.toInt u ∧ d.1 84 0 = 0 ∧ SKX (opv x.toInt l u :: S) d))) := by
  unfold f_X5_operate
  refine pc_calv (t_popK h) (fun v1 s1 q => ?_)
  obtain ⟨q1, q2, q3⟩ := q
  (try dsimp only at q1 q2 q3)
  refine pc_calp t_isBin (fun v2 w => ?_)
  refine pc_ite (fun z => absurd hx (w.mp z)) (fun _ => ?_)
  refine pc_calv (t_popK q2) (fun v6 s6 r => ?_)
  obtain ⟨r1, r2, r3⟩ := r
  (try dsimp only at r1 r2 r3)
  have f6 : FR [81] [] c s6 := FR.cal q1 r1 rfl rfl
  subst q3
  subst r3
  refine pc_calp t_dvz (fun v7 y => ?_)
  refine pc_bz (fun _ => ?_)
  refine pc_lt fun s8 e8 => ?_
  have f8 : FR [81, 84] [] c s8 := by rw [e8]; exact FR.st (FR.cal FR.rf f6 rfl rfl) (by decide)
  have k8 : SKX S s8 := r2.fr (ms := [84]) (ml := []) (by rw [e8]; exact FR.st FR.rf (by decide)) rfl
  refine pc_calp t_outcome (fun v10 p => ?_)
  refine pc_cals (t_pushK (v := v10) k8 hl) (fun s11 o => pc_ret ⟨FR.cal (FR.cal FR.rf f8 rfl rfl) o.1 rfl rfl, ?_⟩)
  have a84 : s11.1 84 0 = v7 := by rw [o.1.1 84 (by decide), e8, sti_s]
  rcases y with ⟨y1, y2⟩ | ⟨y1, y2⟩
  · exact Or.inl ⟨y2, by rw [a84]; exact y1⟩
  · refine Or.inr ⟨y2, by rw [a84]; exact y1, ?_⟩
    rw [← p.2.2 hx y2]
    exact o.2
theorem t_obey {a x n : Int32} {R : RUS} {c : Sto} {St : List Int32} {g : Int} (hg : (c.1 6 x.toNatClampNeg).toInt = g) (hn : c.1 7 x.toNatClampNeg = n) (hx : 0 ≤ x.toInt) (hR : RXX a R c) (hS : SKX St c) (h84 : c.1 84 0 = 0) (nd : ndI g ≤ (St.length : Int)) (s6 : St.length ≤ 6) (hi : INS g n.toInt) (on : gOnI g → ¬ c.1 4 0 ≤ x + 1) : PC (f_X5_obey x c) (KOX (kStep g n St R) a x n c) := by
  have k_0 : (0 : Int32).toInt = 0 := by decide +kernel
  unfold f_X5_obey
  refine pc_ix (fun _ => ?_)
  refine pc_lt fun v1 e1 => ?_
  refine pc_ix (fun _ => ?_)
  refine pc_lt fun v2 e2 => ?_
  rw [hn] at e2
  rw [← e1] at hg
  subst e2
  refine pc_jnI1 (fun t => gOnI g ∧ (kStep g v2 St R).1 = 0 ∧ FR MKX [] c t ∧ RXX a (kStep g v2 St R).2.2.1 t ∧ SKX (kStep g v2 St R).2.1 t ∧ t.1 84 0 = 0 ∧ t.1 86 = c.1 86) (fun t ht => ?_) (fun k hk => ?_)
  · obtain ⟨t1, t2, t3, t4, t5, t6, t7⟩ := ht
    refine pc_ite (fun z => ?_) (fun _ => ?_)
    · rw [t3.1 4 (by decide)] at z
      exact absurd z (on t1)
    · exact pc_ret ⟨t3, t4, fun _ => ⟨rfl, t5, t6, t7⟩, fun z => by omega, fun z => by omega, fun z => by omega, by omega⟩
  refine pc_ite (fun z => ?_) (fun z1 => ?_)
  · -- d, w
    unfold f_X5_shuffle
    have k_119 : (119 : Int32).toInt = 119 := by decide +kernel
    rw [hg] at z
    rcases z with z | z
    · subst z
      obtain ⟨u, S, rfl⟩ := ls1 (St := St) nd
      rw [List.length_cons] at s6
      refine pc_cals (Q := fun d => FR [79, 81] [] c d ∧ SKX (u :: u :: S) d) ?_ (fun s6_ q => hk s6_ ⟨by decide, rfl, FR.cal FR.rf q.1 rfl rfl, (hR.fr q.1 rfl : RXX a R s6_), (q.2 : SKX (u :: u :: S) s6_), by rw [q.1.1 84 (by decide)]; exact h84, q.1.1 86 (by decide)⟩)
      refine pc_calv (t_popK hS) (fun w1 s1 q => ?_)
      obtain ⟨q1, q2, q3⟩ := q
      (try dsimp only at q1 q2 q3)
      refine pc_jnI2 (fun t s => t = u ∧ FR [81] [] c s ∧ SKX S s) (fun t s h => ?_) (fun k2 hk2 => ?_)
      · obtain ⟨h1, h2, h3_⟩ := h
        refine pc_cals (t_pushK (v := w1) h3_ (by omega)) (fun s3 p => ?_)
        refine pc_cals (t_pushK (v := t) p.2 (by rw [List.length_cons]; omega)) (fun s4 o => pc_ret ⟨FR.cal (FR.cal (FR.cal FR.rf h2 rfl rfl) p.1 rfl rfl) o.1 rfl rfl, ?_⟩)
        have := o.2
        rw [h1, q3] at this
        exact this
      · refine pc_ite (fun z => ?_) (fun _ => hk2 w1 s1 ⟨q3, q1, q2⟩)
        rw [fa_eq, k_119] at z
        omega
    · subst z
      obtain ⟨u, l, S, rfl⟩ := ls2 (St := St) nd
      rw [List.length_cons, List.length_cons] at s6
      refine pc_cals (Q := fun d => FR [79, 81] [] c d ∧ SKX (l :: u :: S) d) ?_ (fun s6_ q => hk s6_ ⟨by decide, rfl, FR.cal FR.rf q.1 rfl rfl, (hR.fr q.1 rfl : RXX a R s6_), (q.2 : SKX (l :: u :: S) s6_), by rw [q.1.1 84 (by decide)]; exact h84, q.1.1 86 (by decide)⟩)
      refine pc_calv (t_popK hS) (fun w1 s1 q => ?_)
      obtain ⟨q1, q2, q3⟩ := q
      (try dsimp only at q1 q2 q3)
      refine pc_jnI2 (fun t s => t = l ∧ FR [81] [] c s ∧ SKX S s) (fun t s h => ?_) (fun k2 hk2 => ?_)
      · obtain ⟨h1, h2, h3_⟩ := h
        refine pc_cals (t_pushK (v := w1) h3_ (by omega)) (fun s3 p => ?_)
        refine pc_cals (t_pushK (v := t) p.2 (by rw [List.length_cons]; omega)) (fun s4 o => pc_ret ⟨FR.cal (FR.cal (FR.cal FR.rf h2 rfl rfl) p.1 rfl rfl) o.1 rfl rfl, ?_⟩)
        have := o.2
        rw [h1, q3] at this
        exact this
      · refine pc_ite (fun _ => ?_) (fun z => ?_)
        · refine pc_calv (t_popK q2) (fun w6 s6_ p => hk2 w6 s6_ ⟨p.2.2, FR.cal q1 p.1 rfl rfl, p.2.1⟩)
        · rw [fa_eq, k_119] at z
          omega
  rw [hg] at z1
  refine pc_ite (fun z => ?_) (fun z2 => ?_)
  · rw [hg] at z
    subst z
    exact pc_ret ⟨FR.rf, hR, fun z => kne (i := 1) (j := 0) (by decide) z, fun _ => ⟨rfl, hS, h84, rfl⟩, fun z => kne (i := 1) (j := 2) (by decide) z, fun z => kne (i := 1) (j := 3) (by decide) z, (show (1 : Nat) ≤ 3 by decide)⟩
  rw [hg] at z2
  refine pc_ite (fun z => ?_) (fun z3 => ?_)
  · rw [hg] at z
    subst z
    refine pc_calv (t_draw hR) (fun w7 s7 q => ?_)
    obtain ⟨q1, q2, q3⟩ := q
    (try dsimp only at q1 q2 q3)
    refine pc_cals (t_pushK (v := w7) (hS.fr q1 rfl) (by omega)) (fun s8 p => ?_)
    have f : FR MKX [] c s8 := FR.cal (FR.cal FR.rf q1 rfl rfl) p.1 rfl rfl
    have p2 := p.2
    rw [q3] at p2
    exact hk s8 ⟨by decide, rfl, f, (q2.fr p.1 rfl : RXX a (rDraw R) s8), p2, by rw [p.1.1 84 (by decide), q1.1 84 (by decide)]; exact h84, by rw [p.1.1 86 (by decide), q1.1 86 (by decide)]⟩
  rw [hg] at z3
  refine pc_ite (fun z => ?_) (fun z4 => ?_)
  · rw [hg] at z
    subst z
    refine pc_cals (t_pushK (v := v2) hS (by omega)) (fun s9 p => ?_)
    exact hk s9 ⟨by decide, rfl, FR.cal FR.rf p.1 rfl rfl, (hR.fr p.1 rfl : RXX a R s9), p.2, by rw [p.1.1 84 (by decide)]; exact h84, p.1.1 86 (by decide)⟩
  rw [hg] at z4
  refine pc_ite (fun z => ?_) (fun z5 => ?_)
  · rw [hg] at z
    subst z
    refine pc_ix (fun b => ?_)
    refine pc_lt fun v10 e10 => ?_
    refine pc_cals (t_pushK (v := v10) hS (by omega)) (fun s11 p => ?_)
    have p2 := p.2
    have cb := clamp_I b.1
    rw [e10, hR.1 _ (by omega)] at p2
    exact hk s11 ⟨by decide, rfl, FR.cal FR.rf p.1 rfl rfl, (hR.fr p.1 rfl : RXX a R s11), p2, by rw [p.1.1 84 (by decide)]; exact h84, p.1.1 86 (by decide)⟩
  rw [hg] at z5
  refine pc_ite (fun z => ?_) (fun z6 => ?_)
  · rw [hg] at z
    subst z
    obtain ⟨u, S, rfl⟩ := ls1 (St := St) nd
    refine pc_calv (t_popK hS) (fun w1 s12 q => ?_)
    obtain ⟨q1, q2, q3⟩ := q
    (try dsimp only at q1 q2 q3)
    refine pc_cals (t_tellOut (v := w1) (hR.fr q1 rfl)) (fun s13 p => ?_)
    have p2 := p.2
    rw [q3] at p2
    exact hk s13 ⟨by decide, rfl, FR.cal (FR.cal FR.rf q1 rfl rfl) p.1 rfl rfl, p2, (q2.fr p.1 rfl : SKX S s13), by rw [p.1.1 84 (by decide), q1.1 84 (by decide)]; exact h84, by rw [p.1.1 86 (by decide), q1.1 86 (by decide)]⟩
  rw [hg] at z6
  refine pc_ite (fun z => ?_) (fun z7 => ?_)
  · rw [hg] at z
    subst z
    obtain ⟨u, S, rfl⟩ := ls1 (St := St) nd
    refine pc_calv (t_popK hS) (fun w1 s12 q => ?_)
    obtain ⟨q1, q2, q3⟩ := q
    (try dsimp only at q1 q2 q3)
    exact hk s12 ⟨by decide, rfl, FR.cal FR.rf q1 rfl rfl, (hR.fr q1 rfl : RXX a R s12), q2, by rw [q1.1 84 (by decide)]; exact h84, q1.1 86 (by decide)⟩
  rw [hg] at z7
  refine pc_ite (fun z => ?_) (fun z8 => ?_)
  · rw [hg] at z
    subst z
    exact pc_ret ⟨FR.rf, hR, fun z => kne (i := 3) (j := 0) (by decide) z, fun z => kne (i := 3) (j := 1) (by decide) z, fun z => kne (i := 3) (j := 2) (by decide) z, fun _ => ⟨rfl, rfl⟩, (show (3 : Nat) ≤ 3 by decide)⟩
  rw [hg] at z8
  refine pc_ite (fun z => ?_) (fun z9 => ?_)
  · rw [hg] at z
    subst z
    obtain ⟨u, S, rfl⟩ := ls1 (St := St) nd
    refine pc_calv (t_popK hS) (fun w1 s12 q => ?_)
    obtain ⟨q1, q2, q3⟩ := q
    (try dsimp only at q1 q2 q3)
    refine pc_ix (fun _ => ?_)
    refine pc_lt fun s16 e16 => ?_
    have f16 : FR [78] [] s12 s16 := by rw [e16]; exact FR.st FR.rf (by decide)
    have r16 := (hR.fr q1 rfl).set e16
    rw [q3] at r16
    exact hk s16 ⟨by decide, rfl, FR.cal (FR.cal FR.rf q1 rfl rfl) f16 rfl rfl, r16, (q2.fr f16 rfl : SKX S s16), by rw [f16.1 84 (by decide), q1.1 84 (by decide)]; exact h84, by rw [f16.1 86 (by decide), q1.1 86 (by decide)]⟩
  rw [hg] at z9
  refine pc_ite (fun z => ?_) (fun z10 => ?_)
  · rw [hg] at z
    subst z
    obtain ⟨u, S, rfl⟩ := ls1 (St := St) nd
    refine pc_calv (t_popK hS) (fun w1 s17 q => ?_)
    obtain ⟨q1, q2, q3⟩ := q
    (try dsimp only at q1 q2 q3)
    refine pc_calv (t_throwFrom (v := w1) hx) (fun w18 s18 p => ?_)
    obtain ⟨p1, p2⟩ := p
    (try dsimp only at p1 p2)
    rw [q3] at p2
    exact pc_ret ⟨FR.cal (FR.cal FR.rf q1 rfl rfl) p1 rfl rfl, ((hR.fr q1 rfl).fr p1 rfl : RXX a R s18), fun z => kne (i := 2) (j := 0) (by decide) z, fun z => kne (i := 2) (j := 1) (by decide) z, fun _ => p2.cg (q1.1 5 (by decide)) (q1.1 9 (by decide)) (q1.1 10 (by decide)) (q1.1 11 (by decide)) (q1.1 86 (by decide)), fun z => kne (i := 2) (j := 3) (by decide) z, (show (2 : Nat) ≤ 3 by decide)⟩
  rw [hg] at z10
  refine pc_ite (fun z => ?_) (fun z11 => ?_)
  · rw [hg] at z
    subst z
    obtain ⟨u, S, rfl⟩ := ls1 (St := St) nd
    refine pc_calv (t_popK hS) (fun w1 s19 q => ?_)
    obtain ⟨q1, q2, q3⟩ := q
    (try dsimp only at q1 q2 q3)
    have f19 : FR MKX [] c s19 := FR.cal FR.rf q1 rfl rfl
    have eK : kStep 122 v2 (u :: S) R = (if u = 0 then 1 else 0, S, R, 0) := rfl
    have a84 : s19.1 84 0 = 0 := by rw [q1.1 84 (by decide)]; exact h84
    rw [eK] at hk ⊢
    refine pc_ite (fun y => ?_) (fun y => ?_)
    · rw [q3] at y
      rw [if_pos y]
      exact pc_ret ⟨f19, hR.fr q1 rfl, fun z => kne (i := 1) (j := 0) (by decide) z, fun _ => ⟨rfl, q2, a84, q1.1 86 (by decide)⟩, fun z => kne (i := 1) (j := 2) (by decide) z, fun z => kne (i := 1) (j := 3) (by decide) z, (show (1 : Nat) ≤ 3 by decide)⟩
    · rw [q3] at y
      rw [if_neg y] at hk ⊢
      exact hk s19 ⟨by decide, rfl, f19, hR.fr q1 rfl, q2, a84, q1.1 86 (by decide)⟩
  rw [hg] at z11
  have hb : g = 33 ∨ g = 110 ∨ isBi g := by
    unfold INS bareI at hi
    omega
  by_cases c1 : g = 33 ∨ g = 110
  · have n1 : ndI g = 1 := by
      rcases c1 with c1 | c1
      · rw [c1]; rfl
      · rw [c1]; rfl
    have og : gOnI g := by omega
    rw [n1] at nd
    obtain ⟨u, S, rfl⟩ := ls1 (St := St) nd
    rw [List.length_cons] at s6
    have eK : kStep g v2 (u :: S) R = (0, (if g = 33 then (if u = 0 then 1 else 0) else -u) :: S, R, 0) := by
      rcases c1 with c1 | c1
      · rw [c1]; rfl
      · rw [c1]; rfl
    rw [eK] at hk ⊢
    refine pc_cals (t_oper1 (by rw [hg]; exact c1) hS (by omega)) (fun s21 p => ?_)
    obtain ⟨p1, p2⟩ := p
    rw [hg] at p2
    have a84 : s21.1 84 0 = 0 := by rw [p1.1 84 (by decide)]; exact h84
    refine pc_ite (fun _ => ?_) (fun y => absurd a84 y)
    exact hk s21 ⟨og, rfl, FR.cal FR.rf p1 rfl rfl, hR.fr p1 rfl, p2, a84, p1.1 86 (by decide)⟩
  · have b : isBi g := by omega
    have n2 : ndI g = 2 := by
      unfold ndI
      rw [if_pos (by omega)]
    have og : gOnI g := by omega
    rw [n2] at nd
    obtain ⟨u, l, S, rfl⟩ := ls2 (St := St) nd
    rw [List.length_cons, List.length_cons] at s6
    rw [kStep_b b] at hk ⊢
    refine pc_cals (t_oper2 (by rw [hg]; exact b) hS (by omega)) (fun s21 p => ?_)
    obtain ⟨p1, p2⟩ := p
    rw [hg] at p2
    refine pc_ite (fun y => ?_) (fun y => ?_)
    · have p3 : ¬ dvz g u ∧ SKX (opv g l u :: S) s21 := by
        rcases p2 with w | w
        · rw [w.2] at y
          exact absurd y (by decide)
        · exact ⟨w.1, w.2.2⟩
      have p4 : ¬ ((g = 47 ∨ g = 37) ∧ (u :: l :: S).headD 0 = 0) := p3.1
      rw [if_neg p4] at hk ⊢
      exact hk s21 ⟨og, rfl, FR.cal FR.rf p1 rfl rfl, hR.fr p1 rfl, p3.2, y, p1.1 86 (by decide)⟩
    · have p3 : dvz g u := by
        rcases p2 with w | w
        · exact w.1
        · exact absurd w.2.1 y
      have p4 : (g = 47 ∨ g = 37) ∧ (u :: l :: S).headD 0 = 0 := p3
      rw [if_pos p4]
      refine pc_calv (t_throwFrom (v := 99) hx) (fun w23 s23 o => ?_)
      obtain ⟨o1, o2⟩ := o
      (try dsimp only at o1 o2)
      exact pc_ret ⟨FR.cal (FR.cal FR.rf p1 rfl rfl) o1 rfl rfl, (hR.fr p1 rfl).fr o1 rfl, fun z => kne (i := 2) (j := 0) (by decide) z, fun z => kne (i := 2) (j := 1) (by decide) z, fun _ => o2.cg (p1.1 5 (by decide)) (p1.1 9 (by decide)) (p1.1 10 (by decide)) (p1.1 11 (by decide)) (p1.1 86 (by decide)), fun z => kne (i := 2) (j := 3) (by decide) z, (show (2 : Nat) ≤ 3 by decide)⟩
