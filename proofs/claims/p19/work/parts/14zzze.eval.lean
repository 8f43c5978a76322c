/-- whether an x is in it -/
def tXn (x : Nat) : Term → Bool
  | .string _ i => decide (i = x)
  | .length t => tXn x t
  | .sum t => tXn x t
  | .add (.int _) (.sub l r) => tXn x l || tXn x r
  | _ => false
/-- the value of an expression, the run behind it, whether it threw -/
def evT (T X : Nat → Int32) : Term → RUS → Int32 × RUS × Bool
  | .int n, R => (n, R, false)
  | .arg v, R => (R.1 v, R, false)
  | .index k, R => (T k, R, false)
  | .string _ x, R => (X x, R, false)
  | .null, R => (drO (drN R.2.1), rDraw R, false)
  | .length t, R => (if (evT T X t R).1 = 0 then 1 else 0, (evT T X t R).2)
  | .sum t, R => (-(evT T X t R).1, (evT T X t R).2)
  | .add (.int op) (.sub l r), R =>
    if (evT T X l R).2.2 = true then (0, (evT T X l R).2) else
    if (evT T X r (evT T X l R).2.1).2.2 = true then (0, (evT T X r (evT T X l R).2.1).2) else
    if (op.toInt = 47 ∨ op.toInt = 37) ∧ (evT T X r (evT T X l R).2.1).1 = 0 then (0, (evT T X r (evT T X l R).2.1).2.1, true) else
    (opv op.toInt (evT T X l R).1 (evT T X r (evT T X l R).2.1).1, (evT T X r (evT T X l R).2.1).2.1, false)
  | _, R => (0, R, false)
theorem evT_n (T X : Nat → Int32) (t : Term) (R : RUS) : evT T X (.length t) R = (if (evT T X t R).1 = 0 then 1 else 0, (evT T X t R).2) := rfl
theorem evT_s (T X : Nat → Int32) (t : Term) (R : RUS) : evT T X (.sum t) R = (-(evT T X t R).1, (evT T X t R).2) := rfl
theorem evT_b (T X : Nat → Int32) (op : Int32) (l r : Term) (R : RUS) : evT T X (bn op l r) R =
    if (evT T X l R).2.2 = true then (0, (evT T X l R).2) else
    if (evT T X r (evT T X l R).2.1).2.2 = true then (0, (evT T X r (evT T X l R).2.1).2) else
    if (op.toInt = 47 ∨ op.toInt = 37) ∧ (evT T X r (evT T X l R).2.1).1 = 0 then (0, (evT T X r (evT T X l R).2.1).2.1, true) else
    (opv op.toInt (evT T X l R).1 (evT T X r (evT T X l R).2.1).1, (evT T X r (evT T X l R).2.1).2.1, false) := rfl
/-- names of an expression stand as told -/
def NMT (r82 r83 : Nat → Int32) (T X : Nat → Int32) (t : Term) : Prop := (∀ k, tTn k t = true → r82 k = T k) ∧ ∀ x, tXn x t = true → r83 x = X x
theorem NMT.n {a b T X : Nat → Int32} {t : Term} (h : NMT a b T X (.length t)) : NMT a b T X t := h
theorem NMT.s {a b T X : Nat → Int32} {t : Term} (h : NMT a b T X (.sum t)) : NMT a b T X t := h
theorem NMT.b {a b T X : Nat → Int32} {op : Int32} {l r : Term} (h : NMT a b T X (bn op l r)) : NMT a b T X l ∧ NMT a b T X r := by
  obtain ⟨h1, h2⟩ := h
  have h1 : ∀ k, (tTn k l || tTn k r) = true → a k = T k := h1
  have h2 : ∀ x, (tXn x l || tXn x r) = true → b x = X x := h2
  exact ⟨⟨fun k z => h1 k (by rw [z]; rfl), fun x z => h2 x (by rw [z]; rfl)⟩, ⟨fun k z => h1 k (by rw [z, Bool.or_true]), fun x z => h2 x (by rw [z, Bool.or_true])⟩⟩
/-- what the class has of an expression's value -/
def EVX (a : Int32) (E : Int32 × RUS × Bool) (c : Sto) (r : Int32 × Sto) : Prop := FR [82, 84, 88] [] c r.2 ∧ RXX a E.2.1 r.2 ∧ ((E.2.2 = false ∧ r.1 = E.1 ∧ r.2.1 84 0 = 0) ∨ (E.2.2 = true ∧ r.2.1 84 0 = 1))
theorem EVX.ok {a : Int32} {E : Int32 × RUS × Bool} {c : Sto} {r : Int32 × Sto} (f : FR [82, 84, 88] [] c r.2) (h : RXX a E.2.1 r.2) (e1 : E.2.2 = false) (e2 : r.1 = E.1) (e3 : r.2.1 84 0 = 0) : EVX a E c r := ⟨f, h, Or.inl ⟨e1, e2, e3⟩⟩
theorem t_value {n : Nat} {tr : Nat → Term} {a : Int32} {T X : Nat → Int32} : ∀ (d : Nat) (v dep : Int32) (c : Sto) (t : Term) (R : RUS), PLX c n tr → EXV v n tr (some t) → RXX a R c → c.1 84 0 = 0 → NMT (c.1 79) (c.1 80) T X t → 0 ≤ dep.toInt → dep.toInt + tSz t ≤ 61 → PC (f_X5_value d v dep c) (EVX a (evT T X t R) c)
  | 0, _, _, _, _, _, _, _, _, _, _, _, _ => pc_no
  | d + 1, v, dep, c, t, R, h, hv, hR, h84, hN, d0, ds => by
    have k_0 : (0 : Int32).toInt = 0 := by decide +kernel
    have k_60 : (60 : Int32).toInt = 60 := by decide +kernel
    have sp := tSz_pos t
    have ed : (dep + 1).toInt = dep.toInt + 1 := i1 (by omega)
    have nm1 := hv.nm1
    obtain ⟨e, v1, v2, v3, v4⟩ := hv.so
    obtain ⟨wf, q, _⟩ := h.2.2.1 e v2
    rw [v3] at q
    show PC (b_X5_value (g_X5_value d) v dep c) _
    unfold b_X5_value
    refine pc_ite (fun z => absurd z nm1) (fun _ => ?_)
    refine pc_ite (fun z => ?_) (fun _ => ?_)
    · rw [fa_lt, k_60] at z
      omega
    refine pc_ite (fun _ => ?_) (fun z => absurd h84 z)
    refine pc_ix (fun _ => ?_)
    rw [v4]
    refine pc_lt fun g eg => ?_
    refine pc_ix (fun _ => ?_)
    refine pc_lt fun lf el => ?_
    have ways := h.ways v2
    rw [v3] at ways
    rw [← eg] at wf q ways
    rw [← el] at wf q ways
    refine pc_ite (fun z => ?_) (fun z1 => ?_)
    · rw [mkX_t z] at q
      refine pc_ix (fun _ => ?_)
      refine pc_lt fun w e7 => pc_ret ?_
      rw [q] at hN ⊢
      exact EVX.ok FR.rf hR rfl (by (try dsimp only); rw [e7]; exact hN.1 _ (decide_eq_true rfl)) h84
    refine pc_ite (fun z => ?_) (fun z2 => ?_)
    · rw [mkX_x z] at q
      refine pc_ix (fun _ => ?_)
      refine pc_lt fun w e8 => pc_ret ?_
      rw [q] at hN ⊢
      exact EVX.ok FR.rf hR rfl (by (try dsimp only); rw [e8]; exact hN.2 _ (decide_eq_true rfl)) h84
    refine pc_ite (fun z => ?_) (fun z3 => ?_)
    · rw [mkX_i z] at q
      rw [q]
      refine pc_calv (t_draw hR) (fun w s u => pc_ret ?_)
      obtain ⟨u1, u2, u3⟩ := u
      (try dsimp only at u1 u2 u3)
      exact EVX.ok (FR.cal FR.rf u1 rfl rfl) u2 rfl u3 (by (try dsimp only); rw [u1.1 84 (by decide)]; exact h84)
    refine pc_ite (fun z => ?_) (fun z4 => ?_)
    · rw [mkX_k z] at q
      rw [q]
      exact pc_ret (EVX.ok FR.rf hR rfl rfl h84)
    refine pc_ite (fun z => ?_) (fun z5 => ?_)
    · rw [mkX_l z] at q
      have l6 : 0 ≤ lf.toInt ∧ lf.toInt < 6 := by
        rcases wf with w | w | w | w | w | w | w <;> omega
      have cl := clamp_I l6.1
      refine pc_ix (fun _ => ?_)
      refine pc_lt fun w e10 => pc_ret ?_
      rw [q]
      exact EVX.ok FR.rf hR rfl (by (try dsimp only); rw [e10]; exact hR.1 _ (by omega)) h84
    rcases ways with ⟨gb, l, r_, w1, w2, w3⟩ | ⟨nb, hu, l, _, w1, w2⟩ | ⟨_, w, _⟩
    · -- one of two
      have ez : tSz t = 1 + (tSz l + tSz r_) := by rw [w1]; rfl
      have sl := tSz_pos l
      have sr := tSz_pos r_
      rw [w1] at hN ⊢
      obtain ⟨nl, nr⟩ := hN.b
      rw [evT_b]
      refine pc_calv (t_value d lf (dep + 1) c l R h (w2.wk (by omega)) hR h84 nl (by omega) (by omega)) (fun v11 s11 u => ?_)
      obtain ⟨u1, u2, u3⟩ := u
      (try dsimp only at u1 u2 u3)
      generalize evT T X l R = El at *
      refine pc_calp t_isBin (fun v12 hb => ?_)
      refine pc_jnI2 (fun t13 s13 => FR [82, 84, 88] [] c s13 ∧ ((El.2.2 = true ∧ s13.1 84 0 = 1 ∧ RXX a El.2.1 s13) ∨ (El.2.2 = false ∧ RXX a (evT T X r_ El.2.1).2.1 s13 ∧ (((evT T X r_ El.2.1).2.2 = false ∧ t13 = (evT T X r_ El.2.1).1 ∧ s13.1 84 0 = 0) ∨ ((evT T X r_ El.2.1).2.2 = true ∧ s13.1 84 0 = 1))))) (fun t13 s13 p => ?_) (fun k162 h162 => ?_)
      · obtain ⟨p1, p2⟩ := p
        generalize evT T X r_ El.2.1 = Er at *
        -- behind both
        have fin : ∀ t14 : Int32, ((t14 = 1 ∧ ((El.2.2 = true ∧ RXX a El.2.1 s13) ∨ (El.2.2 = false ∧ RXX a Er.2.1 s13 ∧ (Er.2.2 = true ∨ (Er.2.2 = false ∧ dvz g.toInt Er.1))))) ∨ (t14 = 0 ∧ El.2.2 = false ∧ RXX a Er.2.1 s13 ∧ Er.2.2 = false ∧ t13 = Er.1 ∧ ¬ dvz g.toInt Er.1)) → PC (bz t14 <| lt (sti s13 84 0 t14) fun s_15 => if (s_15.1 84 0) = 0 then (calp (f_X11_outcome g v11 t13) fun v_18 => some (v_18, s_15)) else (some ((0 : Int32), s_15))) (EVX a (if El.2.2 = true then (0, El.2) else if Er.2.2 = true then (0, Er.2) else if (g.toInt = 47 ∨ g.toInt = 37) ∧ Er.1 = 0 then (0, Er.2.1, true) else (opv g.toInt El.1 Er.1, Er.2.1, false)) c) := by
          intro t14 ht
          refine pc_bz (fun _ => ?_)
          refine pc_lt fun s15 e15 => ?_
          have a84 : s15.1 84 0 = t14 := by rw [e15, sti_s]
          have f15 : FR [84] [] s13 s15 := by rw [e15]; exact FR.st FR.rf (by decide)
          have F15 : FR [82, 84, 88] [] c s15 := FR.cal p1 f15 rfl rfl
          rcases ht with ⟨y1, y2⟩ | ⟨y1, y2, y3, y4, y5, y6⟩
          · refine pc_ite (fun z => ?_) (fun _ => pc_ret ?_)
            · rw [a84, y1] at z
              exact absurd z (by decide)
            · rcases y2 with ⟨y2, y3⟩ | ⟨y2, y3, y4⟩
              · rw [if_pos y2]
                exact ⟨F15, y3.fr f15 rfl, Or.inr ⟨y2, a84.trans y1⟩⟩
              · have n1 : ¬ El.2.2 = true := by rw [y2]; decide
                rw [if_neg n1]
                rcases y4 with y4 | ⟨y4, y5⟩
                · rw [if_pos y4]
                  exact ⟨F15, y3.fr f15 rfl, Or.inr ⟨y4, a84.trans y1⟩⟩
                · have n2 : ¬ Er.2.2 = true := by rw [y4]; decide
                  have y5 : (g.toInt = 47 ∨ g.toInt = 37) ∧ Er.1 = 0 := y5
                  rw [if_neg n2, if_pos y5]
                  exact ⟨F15, y3.fr f15 rfl, Or.inr ⟨rfl, a84.trans y1⟩⟩
          · have n1 : ¬ El.2.2 = true := by rw [y2]; decide
            have n2 : ¬ Er.2.2 = true := by rw [y4]; decide
            have n3 : ¬ ((g.toInt = 47 ∨ g.toInt = 37) ∧ Er.1 = 0) := y6
            rw [if_neg n1, if_neg n2, if_neg n3]
            refine pc_ite (fun _ => ?_) (fun z => absurd (a84.trans y1) z)
            refine pc_calp t_outcome (fun v18 o => pc_ret ?_)
            have e11 : v11 = El.1 := by
              rcases u3 with u3 | u3
              · exact u3.2.1
              · exact absurd u3.1 n1
            refine EVX.ok F15 (y3.fr f15 rfl) rfl ?_ (a84.trans y1)
            (try dsimp only)
            rw [o.2.2 gb (by rw [y5]; exact y6), y5, e11]
        refine pc_jnI1 (fun t14 => (t14 = 1 ∧ ((El.2.2 = true ∧ RXX a El.2.1 s13) ∨ (El.2.2 = false ∧ RXX a Er.2.1 s13 ∧ (Er.2.2 = true ∨ (Er.2.2 = false ∧ dvz g.toInt Er.1))))) ∨ (t14 = 0 ∧ El.2.2 = false ∧ RXX a Er.2.1 s13 ∧ Er.2.2 = false ∧ t13 = Er.1 ∧ ¬ dvz g.toInt Er.1)) (fun t14 ht => fin t14 ht) (fun k186 h186 => ?_)
        refine pc_jnI0 ((El.2.2 = true ∧ RXX a El.2.1 s13) ∨ (El.2.2 = false ∧ RXX a Er.2.1 s13 ∧ (Er.2.2 = true ∨ (Er.2.2 = false ∧ dvz g.toInt Er.1)))) (fun y => h186 1 (Or.inl ⟨rfl, y⟩)) (fun k181 h181 => ?_)
        refine pc_ite (fun z => ?_) (fun z => h181 ?_)
        · have pp : El.2.2 = false ∧ RXX a Er.2.1 s13 ∧ Er.2.2 = false ∧ t13 = Er.1 := by
            rcases p2 with ⟨_, y, _⟩ | ⟨y1, y2, ⟨y3, y4, _⟩ | ⟨_, y⟩⟩
            · rw [y] at z
              exact absurd z (by decide)
            · exact ⟨y1, y2, y3, y4⟩
            · rw [y] at z
              exact absurd z (by decide)
          obtain ⟨y1, y2, y3, y4⟩ := pp
          refine pc_calp t_dvz (fun v21 w => ?_)
          rw [y4] at w
          refine pc_ite (fun y => h186 0 (Or.inr ⟨rfl, y1, y2, y3, y4, ?_⟩)) (fun y => h181 (Or.inr ⟨y1, y2, Or.inr ⟨y3, ?_⟩⟩))
          · rcases w with w | w
            · rw [w.1] at y
              exact absurd y (by decide)
            · exact w.2
          · rcases w with w | w
            · exact w.2
            · exact absurd w.1 y
        · rcases p2 with ⟨y1, _, y2⟩ | ⟨y1, y2, ⟨_, _, y⟩ | ⟨y, _⟩⟩
          · exact Or.inl ⟨y1, y2⟩
          · exact absurd y z
          · exact Or.inr ⟨y1, y2, Or.inl y⟩
      · refine pc_ite (fun z => absurd gb (hb.mp z)) (fun _ => ?_)
        refine pc_ix (fun _ => ?_)
        refine pc_lt fun rt er => ?_
        rw [u1.1 49 (by decide)] at er
        rw [← er] at w3
        rcases u3 with ⟨y1, y2, y3⟩ | ⟨y1, y2⟩
        · have nr11 : NMT (s11.1 79) (s11.1 80) T X r_ := by
            rw [u1.1 79 (by decide), u1.1 80 (by decide)]
            exact nr
          refine pc_calv (t_value d rt (dep + 1) s11 r_ El.2.1 (h.cg (fun k hk => u1.1 k (by simp; omega))) (w3.wk (by omega)) u2 y3 nr11 (by omega) (by omega)) (fun v25 s25 o => ?_)
          obtain ⟨o1, o2, o3⟩ := o
          (try dsimp only at o1 o2 o3)
          exact h162 v25 s25 ⟨FR.cal u1 o1 rfl rfl, Or.inr ⟨y1, o2, o3⟩⟩
        · -- it threw: nothing is drawn any more
          have stop : ∀ (q_ : Nat) (x y : Int32), PC (g_X5_value q_ x y s11) (fun r => r.2 = s11) := by
            intro q_ x y
            cases q_ with
            | zero => exact (pc_no : PC (none : Option (Int32 × Sto)) _)
            | succ q_ =>
              show PC (b_X5_value (g_X5_value q_) x y s11) _
              unfold b_X5_value
              refine pc_ite (fun _ => pc_ret rfl) (fun _ => ?_)
              refine pc_ite (fun _ => pc_ret rfl) (fun _ => ?_)
              refine pc_ite (fun z => ?_) (fun _ => pc_ret rfl)
              rw [y2] at z
              exact absurd z (by decide)
          refine pc_calv (stop d rt (dep + 1)) (fun v25 s25 o => ?_)
          (try dsimp only at o)
          subst o
          exact h162 v25 s25 ⟨u1, Or.inl ⟨y1, y2, u2⟩⟩
    · -- one of one
      unfold opU at hu
      have es : ∃ b : Bool, t = (if b = true then .length l else .sum l) ∧ (b = true ↔ g.toInt = 33) := by
        rcases w1 with y | y
        · exact ⟨true, y.1, by rw [y.2]; simp⟩
        · exact ⟨false, y.1, by rw [y.2]; simp⟩
      obtain ⟨b, et, eb⟩ := es
      have ez : tSz t = 1 + tSz l := by rw [et]; cases b <;> rfl
      have nl : NMT (c.1 79) (c.1 80) T X l := by
        rw [et] at hN
        cases b
        · exact hN.s
        · exact hN.n
      have eE : evT T X t R = (if b = true then (if (evT T X l R).1 = 0 then 1 else 0) else -(evT T X l R).1, (evT T X l R).2) := by
        rw [et]; cases b <;> rfl
      rw [eE]
      refine pc_calv (t_value d lf (dep + 1) c l R h (w2.wk (by omega)) hR h84 nl (by omega) (by omega)) (fun v11 s11 u => ?_)
      obtain ⟨u1, u2, u3⟩ := u
      (try dsimp only at u1 u2 u3)
      generalize evT T X l R = El at *
      refine pc_calp t_isBin (fun v12 hb => ?_)
      refine pc_jnI2 (fun t13 s13 => s13 = s11 ∧ t13 = 0) (fun t13 s13 p => ?_) (fun k162 h162 => ?_)
      · obtain ⟨p1, p2⟩ := p
        subst p1
        refine pc_jnI1 (fun t14 => (t14 = 1 ∧ El.2.2 = true) ∨ (t14 = 0 ∧ El.2.2 = false)) (fun t14 ht => ?_) (fun k186 h186 => ?_)
        · refine pc_bz (fun _ => ?_)
          refine pc_lt fun s15 e15 => ?_
          have a84 : s15.1 84 0 = t14 := by rw [e15, sti_s]
          have f15 : FR [84] [] s13 s15 := by rw [e15]; exact FR.st FR.rf (by decide)
          have F15 : FR [82, 84, 88] [] c s15 := FR.cal u1 f15 rfl rfl
          rcases ht with ⟨y1, y2⟩ | ⟨y1, y2⟩
          · refine pc_ite (fun z => ?_) (fun _ => pc_ret ⟨F15, u2.fr f15 rfl, Or.inr ⟨y2, a84.trans y1⟩⟩)
            rw [a84, y1] at z
            exact absurd z (by decide)
          · refine pc_ite (fun _ => ?_) (fun z => absurd (a84.trans y1) z)
            refine pc_calp t_outcome (fun v18 o => pc_ret ?_)
            have e11 : v11 = El.1 := by
              rcases u3 with u3 | u3
              · exact u3.2.1
              · rw [u3.1] at y2
                exact absurd y2 (by decide)
            refine EVX.ok F15 (u2.fr f15 rfl) y2 ?_ (a84.trans y1)
            (try dsimp only)
            rw [← e11]
            cases b
            · rw [if_neg (by decide)]
              exact o.2.1 (by
                have : ¬ g.toInt = 33 := fun z => absurd (eb.mpr z) (by decide)
                omega)
            · rw [if_pos rfl]
              exact o.1 (eb.mp rfl)
        · refine pc_jnI0 (El.2.2 = true) (fun y => h186 1 (Or.inl ⟨rfl, y⟩)) (fun k181 h181 => ?_)
          refine pc_ite (fun z => ?_) (fun z => h181 ?_)
          · have y2 : El.2.2 = false := by
              rcases u3 with u3 | u3
              · exact u3.1
              · rw [u3.2] at z
                exact absurd z (by decide)
            refine pc_calp t_dvz (fun v21 w => ?_)
            refine pc_ite (fun y => h186 0 (Or.inr ⟨rfl, y2⟩)) (fun y => ?_)
            rcases w with w | w
            · exfalso
              have := w.2.1
              omega
            · exact absurd w.1 y
          · rcases u3 with u3 | u3
            · exact absurd u3.2.2 z
            · exact u3.1
      · refine pc_ite (fun _ => h162 0 s11 ⟨rfl, rfl⟩) (fun z => absurd (hb.mpr nb) z)
    · exfalso
      unfold opU at w
      rcases wf with u | u | u | u | u | u | u <;> omega
/-- what the reference has of an expression's value -/
def EVM (E : Int32 × RUS × Bool) (m : Sto) (r : Int32 × Sto) : Prop := FR [72, 76, 78, 79] [] m r.2 ∧ RMM E.2.1 r.2 ∧ ((E.2.2 = false ∧ r.1 = E.1 ∧ r.2.1 78 0 = 0) ∨ (E.2.2 = true ∧ r.2.1 78 0 = 1 ∧ r.2.1 79 0 = 99))
theorem EVM.ok {E : Int32 × RUS × Bool} {m : Sto} {r : Int32 × Sto} (f : FR [72, 76, 78, 79] [] m r.2) (h : RMM E.2.1 r.2) (e1 : E.2.2 = false) (e2 : r.1 = E.1) (e3 : r.2.1 78 0 = 0) : EVM E m r := ⟨f, h, Or.inl ⟨e1, e2, e3⟩⟩
theorem m_value {n : Nat} {tr : Nat → Term} {T X : Nat → Int32} : ∀ (d : Nat) (v : Int32) (m : Sto) (t : Term) (R : RUS), PLM m n tr → EXV v n tr (some t) → RMM R m → m.1 78 0 = 0 → NMT (m.1 82) (m.1 83) T X t → PC (f_X12_valueOf d v m) (EVM (evT T X t R) m)
  | 0, _, _, _, _, _, _, _, _, _ => pc_no
  | d + 1, v, m, t, R, h, hv, hR, h78, hN => by
    obtain ⟨e, v1, v2, v3, v4⟩ := hv.so
    obtain ⟨wf, q⟩ := h.2 e v2
    rw [v3] at q
    show PC (b_X12_valueOf (g_X12_valueOf d) v m) _
    unfold b_X12_valueOf
    refine pc_ix (fun _ => ?_)
    rw [v4]
    refine pc_lt fun g eg => ?_
    have ways := h.ways v2
    rw [v3] at ways
    rw [← eg] at wf q ways
    refine pc_ite (fun z => ?_) (fun z0 => ?_)
    · rw [mkM_0 z] at q
      refine pc_ix (fun _ => ?_)
      refine pc_lt fun w3 e3 => pc_ret ?_
      rw [q]
      exact EVM.ok FR.rf hR rfl e3 h78
    refine pc_ite (fun z => ?_) (fun z1 => ?_)
    · rw [mkM_1 z] at q
      refine pc_ix (fun _ => ?_)
      refine pc_lt fun w4 e4 => ?_
      refine pc_ix (fun b => ?_)
      refine pc_lt fun w5 e5 => pc_ret ?_
      have cb := clamp_I b.1
      rw [q, ← e4]
      exact EVM.ok FR.rf hR rfl (by (try dsimp only); rw [e5]; exact hR.1 _ (by omega)) h78
    refine pc_ite (fun z => ?_) (fun z2 => ?_)
    · rw [mkM_2 z] at q
      refine pc_ix (fun _ => ?_)
      refine pc_lt fun w6 e6 => ?_
      refine pc_ix (fun _ => ?_)
      refine pc_lt fun w7 e7 => pc_ret ?_
      rw [q] at hN ⊢
      rw [← e6] at hN ⊢
      exact EVM.ok FR.rf hR rfl (by (try dsimp only); rw [e7]; exact hN.1 _ (decide_eq_true rfl)) h78
    refine pc_ite (fun z => ?_) (fun z3 => ?_)
    · rw [mkM_3 z] at q
      refine pc_ix (fun _ => ?_)
      refine pc_lt fun w8 e8 => ?_
      refine pc_ix (fun _ => ?_)
      refine pc_lt fun w9 e9 => pc_ret ?_
      rw [q] at hN ⊢
      rw [← e8] at hN ⊢
      exact EVM.ok FR.rf hR rfl (by (try dsimp only); rw [e9]; exact hN.2 _ (decide_eq_true rfl)) h78
    refine pc_ite (fun z => ?_) (fun z4 => ?_)
    · rw [mkM_4 z] at q
      rw [q]
      refine pc_calv (m_input hR) (fun w s u => pc_ret ?_)
      obtain ⟨u1, u2, u3⟩ := u
      (try dsimp only at u1 u2 u3)
      exact EVM.ok (FR.cal FR.rf u1 rfl rfl) u2 rfl u3 (by (try dsimp only); rw [u1.1 78 (by decide)]; exact h78)
    refine pc_ite (fun z => ?_) (fun z5 => ?_)
    · rcases ways with ⟨w, _⟩ | ⟨_, l, w1, w2⟩ | ⟨_, w, _⟩
      · omega
      · rcases w1 with y | y
        · rw [y.1] at hN ⊢
          rw [evT_n]
          refine pc_ix (fun _ => ?_)
          refine pc_lt fun w11 e11 => ?_
          rw [← e11] at w2
          refine pc_calv (m_value d w11 m l R h (w2.wk (by omega)) hR h78 hN.n) (fun v12 s12 u => ?_)
          obtain ⟨u1, u2, u3⟩ := u
          (try dsimp only at u1 u2 u3)
          rcases u3 with ⟨y1, y2, y3⟩ | ⟨y1, y2, y3⟩
          · rw [← y2]
            exact pc_ite (fun z => pc_ret (EVM.ok u1 u2 y1 (if_pos z).symm y3)) (fun z => pc_ret (EVM.ok u1 u2 y1 (if_neg z).symm y3))
          · exact pc_ite (fun _ => pc_ret ⟨u1, u2, Or.inr ⟨y1, y2, y3⟩⟩) (fun _ => pc_ret ⟨u1, u2, Or.inr ⟨y1, y2, y3⟩⟩)
        · omega
      · omega
    refine pc_ite (fun z => ?_) (fun z6 => ?_)
    · rcases ways with ⟨w, _⟩ | ⟨_, l, w1, w2⟩ | ⟨_, w, _⟩
      · omega
      · rcases w1 with y | y
        · omega
        · rw [y.1] at hN ⊢
          rw [evT_s]
          refine pc_ix (fun _ => ?_)
          refine pc_lt fun w14 e14 => ?_
          rw [← e14] at w2
          refine pc_calv (m_value d w14 m l R h (w2.wk (by omega)) hR h78 hN.s) (fun v15 s15 u => ?_)
          obtain ⟨u1, u2, u3⟩ := u
          (try dsimp only at u1 u2 u3)
          rcases u3 with ⟨y1, y2, y3⟩ | ⟨y1, y2, y3⟩
          · exact pc_ret (EVM.ok u1 u2 y1 (by (try dsimp only); rw [y2]) y3)
          · exact pc_ret ⟨u1, u2, Or.inr ⟨y1, y2, y3⟩⟩
      · omega
    · rcases ways with ⟨gb, l, r_, w1, w2, w3⟩ | ⟨w, _⟩ | ⟨w, w', _⟩
      · rw [w1] at hN ⊢
        obtain ⟨nl, nr⟩ := hN.b
        rw [evT_b]
        refine pc_ix (fun _ => ?_)
        refine pc_lt fun w16 e16 => ?_
        rw [← e16] at w2
        refine pc_calv (m_value d w16 m l R h (w2.wk (by omega)) hR h78 nl) (fun v17 s17 u => ?_)
        obtain ⟨u1, u2, u3⟩ := u
        (try dsimp only at u1 u2 u3)
        generalize evT T X l R = El at *
        rcases u3 with ⟨y1, y2, y3⟩ | ⟨y1, y2, y3⟩
        · have n1 : ¬ El.2.2 = true := by rw [y1]; decide
          rw [if_neg n1]
          refine pc_ite (fun _ => ?_) (fun z => absurd y3 z)
          refine pc_ix (fun _ => ?_)
          refine pc_lt fun w19 e19 => ?_
          rw [u1.1 40 (by decide)] at e19
          rw [← e19] at w3
          have nr17 : NMT (s17.1 82) (s17.1 83) T X r_ := by
            rw [u1.1 82 (by decide), u1.1 83 (by decide)]
            exact nr
          refine pc_calv (m_value d w19 s17 r_ El.2.1 (h.cg (fun k hk => u1.1 k (by simp; omega))) (w3.wk (by omega)) u2 y3 nr17) (fun v20 s20 o => ?_)
          obtain ⟨o1, o2, o3⟩ := o
          (try dsimp only at o1 o2 o3)
          have F20 : FR [72, 76, 78, 79] [] m s20 := FR.cal u1 o1 rfl rfl
          generalize evT T X r_ El.2.1 = Er at *
          rcases o3 with ⟨p1, p2, p3⟩ | ⟨p1, p2, p3⟩
          · have n2 : ¬ Er.2.2 = true := by rw [p1]; decide
            rw [if_neg n2]
            refine pc_ite (fun _ => ?_) (fun z => absurd p3 z)
            refine pc_ix (fun _ => ?_)
            refine pc_lt fun g22 e22 => ?_
            rw [F20.1 38 (by decide), ← eg] at e22
            subst e22
            refine pc_calv (m_result gb) (fun v23 s23 w => pc_ret ?_)
            rw [p2, y2] at w
            (try dsimp only at w)
            rcases w with ⟨x1, x2, x3⟩ | ⟨x1, x2, x3, x4, x5⟩
            · have n3 : ¬ ((g22.toInt = 47 ∨ g22.toInt = 37) ∧ Er.1 = 0) := x1
              rw [if_neg n3]
              subst x2
              exact EVM.ok F20 o2 rfl x3 p3
            · have n3 : (g22.toInt = 47 ∨ g22.toInt = 37) ∧ Er.1 = 0 := x1
              rw [if_pos n3]
              exact ⟨FR.cal F20 x4 rfl rfl, o2.fr x4 rfl, Or.inr ⟨rfl, x2, x3⟩⟩
          · rw [if_pos p1]
            refine pc_ite (fun z => ?_) (fun _ => pc_ret ⟨F20, o2, Or.inr ⟨p1, p2, p3⟩⟩)
            rw [p2] at z
            exact absurd z (by decide)
        · rw [if_pos y1]
          refine pc_ite (fun z => ?_) (fun _ => pc_ret ⟨u1, u2, Or.inr ⟨y1, y2, y3⟩⟩)
          rw [y2] at z
          exact absurd z (by decide)
      · omega
      · omega
