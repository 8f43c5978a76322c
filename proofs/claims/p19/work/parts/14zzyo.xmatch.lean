/-- one step of matching, by its cases -/
theorem mst_cases {l : List Ln} {s : MSt} {i : Nat} {k : Int} (P : MSt → Prop) (h0 : P s) (h1 : opK k → s.1 < 120 → P (s.1 + 1, upN s.2.1 s.1 i, s.2.2)) (h2 : k = 4 → 0 < s.1 → P (s.1, upN s.2.1 (s.1 - 1) i, upN s.2.2 (s.2.1 (s.1 - 1)) (i : Int))) (h3 : clK k → 0 < s.1 → P (s.1 - 1, s.2.1, upN (upN s.2.2 (s.2.1 (s.1 - 1)) (i : Int)) i (kdL l (s.2.1 (s.1 - 1))))) : P (mst1 l s i k) := by
  unfold mst1
  by_cases a : opK k
  · rw [if_pos a]
    by_cases b : s.1 < 120
    · rw [if_pos b]; exact h1 a b
    · rw [if_neg b]; exact h0
  · rw [if_neg a]
    by_cases b : k = 4
    · rw [if_pos b]
      by_cases c : 0 < s.1
      · rw [if_pos c]; exact h2 b c
      · rw [if_neg c]; exact h0
    · rw [if_neg b]
      by_cases c : clK k
      · rw [if_pos c]
        by_cases d : 0 < s.1
        · rw [if_pos d]; exact h3 c d
        · rw [if_neg d]; exact h0
      · rw [if_neg c]; exact h0
/-- what lies open are lines ahead, and no plain ones -/
theorem mrun_st {l : List Ln} {k0 : Nat → Int} : ∀ i, (mrun l k0 i).1 ≤ 120 ∧ ∀ j, j < (mrun l k0 i).1 → (mrun l k0 i).2.1 j < i ∧ ¬ plK (kdL l ((mrun l k0 i).2.1 j))
  | 0 => ⟨Nat.zero_le _, fun j hj => absurd hj (Nat.not_lt_zero j)⟩
  | i + 1 => by
    have ih := mrun_st (l := l) (k0 := k0) i
    show (mst1 l (mrun l k0 i) i (kdL l i)).1 ≤ 120 ∧ ∀ j, j < (mst1 l (mrun l k0 i) i (kdL l i)).1 → (mst1 l (mrun l k0 i) i (kdL l i)).2.1 j < i + 1 ∧ ¬ plK (kdL l ((mst1 l (mrun l k0 i) i (kdL l i)).2.1 j))
    generalize mrun l k0 i = s at ih ⊢
    obtain ⟨h1, h2⟩ := ih
    refine mst_cases (fun t => t.1 ≤ 120 ∧ ∀ j, j < t.1 → t.2.1 j < i + 1 ∧ ¬ plK (kdL l (t.2.1 j))) ?_ ?_ ?_ ?_
    · exact ⟨h1, fun j hj => ⟨by have := (h2 j hj).1; omega, (h2 j hj).2⟩⟩
    · intro a b
      refine ⟨by show s.1 + 1 ≤ 120; omega, fun j hj => ?_⟩
      show upN s.2.1 s.1 i j < i + 1 ∧ ¬ plK (kdL l (upN s.2.1 s.1 i j))
      by_cases q : j = s.1
      · rw [q, upN_s]
        exact ⟨by omega, fun z => z.1 a⟩
      · have hj' : j < s.1 + 1 := hj
        have w := h2 j (by omega)
        rw [upN_o q]
        exact ⟨by have := w.1; omega, w.2⟩
    · intro a b
      refine ⟨h1, fun j hj => ?_⟩
      show upN s.2.1 (s.1 - 1) i j < i + 1 ∧ ¬ plK (kdL l (upN s.2.1 (s.1 - 1) i j))
      by_cases q : j = s.1 - 1
      · rw [q, upN_s]
        exact ⟨by omega, fun z => z.2.1 a⟩
      · have w := h2 j hj
        rw [upN_o q]
        exact ⟨by have := w.1; omega, w.2⟩
    · intro a b
      refine ⟨by show s.1 - 1 ≤ 120; omega, fun j hj => ?_⟩
      have hj' : j < s.1 - 1 := hj
      have w := h2 j (by omega)
      exact ⟨by show s.2.1 j < i + 1; have := w.1; omega, w.2⟩
/-- plain lines lead where they led -/
theorem mrun_pl {l : List Ln} {k0 : Nat → Int} : ∀ i j, plK (kdL l j) → (mrun l k0 i).2.2 j = k0 j
  | 0, _, _ => rfl
  | i + 1, j, hp => by
    have ih := mrun_pl (l := l) (k0 := k0) i j hp
    have st := (mrun_st (l := l) (k0 := k0) i).2
    show (mst1 l (mrun l k0 i) i (kdL l i)).2.2 j = k0 j
    generalize mrun l k0 i = s at ih st ⊢
    refine mst_cases (fun t => t.2.2 j = k0 j) ih (fun _ _ => ih) ?_ ?_
    · intro a b
      show upN s.2.2 (s.2.1 (s.1 - 1)) (i : Int) j = k0 j
      rw [upN_o (fun z => (st (s.1 - 1) (by omega)).2 (by rw [← z]; exact hp))]
      exact ih
    · intro a b
      show upN (upN s.2.2 (s.2.1 (s.1 - 1)) (i : Int)) i (kdL l (s.2.1 (s.1 - 1))) j = k0 j
      rw [upN_o (fun z => hp.2.2 (by rw [z]; exact a)), upN_o (fun z => (st (s.1 - 1) (by omega)).2 (by rw [← z]; exact hp))]
      exact ih
/-- the class's rows say these lines -/
def ATX (τ : Sto) (l : List Ln) : Prop := (τ.1 68 0).toInt = (l.length : Int) ∧ ∀ i x, l[i]? = some x → (τ.1 69 i).toInt = x.1 ∧ (τ.1 70 i).toInt = x.2.1
theorem t_mark {x : Int32} {τ : Sto} : PC (f_X2_mark x τ) (fun s => FR [73, 74, 75] [] τ s) := by
  unfold f_X2_mark
  refine pc_ix (fun _ => ?_)
  refine pc_lt fun v1 _ => ?_
  refine pc_ite (fun _ => ?_) (fun _ => ?_)
  · refine pc_ix (fun _ => ?_)
    refine pc_lt fun v3 _ => ?_
    refine pc_ix (fun _ => ?_)
    exact pc_lt fun s4 e4 => pc_ret (by rw [e4]; exact FR.st FR.rf (by decide))
  · refine pc_ix (fun _ => ?_)
    refine pc_lt fun v5 _ => ?_
    refine pc_ite (fun _ => ?_) (fun _ => ?_)
    · refine pc_ix (fun _ => ?_)
      refine pc_lt fun v7 _ => ?_
      refine pc_ix (fun _ => ?_)
      exact pc_lt fun s8 e8 => pc_ret (by rw [e8]; exact FR.st FR.rf (by decide))
    · refine pc_ix (fun _ => ?_)
      refine pc_lt fun v9 _ => ?_
      refine pc_ite (fun _ => ?_) (fun _ => pc_ret FR.rf)
      refine pc_ix (fun _ => ?_)
      refine pc_lt fun v11 _ => ?_
      refine pc_ite (fun _ => ?_) (fun _ => pc_ret FR.rf)
      refine pc_ix (fun _ => ?_)
      refine pc_lt fun v13 _ => ?_
      refine pc_ix (fun _ => ?_)
      exact pc_lt fun s14 e14 => pc_ret (by rw [e14]; exact FR.st FR.rf (by decide))
theorem t_match {τ : Sto} {l : List Ln} (hA : ATX τ l) : PC (f_X2_match τ) (fun s => FR [72, 73, 74, 75, 76] [] τ s ∧ ∀ j, (s.1 72 j).toInt = (mrun l (fun j => (τ.1 72 j).toInt) l.length).2.2 j) := by
  have k_0 : (0 : Int32).toInt = 0 := by decide +kernel
  have k_120 : (120 : Int32).toInt = 120 := by decide +kernel
  have c0 : (0 : Int32).toNatClampNeg = 0 := by have := clamp_I (x := 0) (by omega); omega
  unfold f_X2_match
  refine pc_itr3 (fun x i s => 0 ≤ i.toInt ∧ i.toInt ≤ (l.length : Int) ∧ FR [72, 73, 74, 75, 76] [] τ s ∧ x.toInt = ((mrun l (fun j => (τ.1 72 j).toInt) i.toNatClampNeg).1 : Int) ∧ (∀ j, j < (mrun l (fun j => (τ.1 72 j).toInt) i.toNatClampNeg).1 → (s.1 76 j).toInt = ((mrun l (fun j => (τ.1 72 j).toInt) i.toNatClampNeg).2.1 j : Int)) ∧ ∀ j, (s.1 72 j).toInt = (mrun l (fun j => (τ.1 72 j).toInt) i.toNatClampNeg).2.2 j) ?_ ⟨by omega, by omega, FR.rf, by rw [c0]; exact k_0, fun j hj => by rw [c0] at hj; exact absurd hj (Nat.not_lt_zero j), fun j => by rw [c0]; rfl⟩
  intro ag x i s I ih
  obtain ⟨i0, il, f, hx, h76, h72⟩ := I
  have ci := clamp_I i0
  have f68 := f.1 68 (by decide)
  have f69 := f.1 69 (by decide)
  have f70 := f.1 70 (by decide)
  refine pc_ite (fun c => ?_) (fun c => ?_)
  · rw [fa_le, f68, hA.1] at c
    rw [show i.toNatClampNeg = l.length by omega] at h72
    exact pc_ret ⟨f, h72⟩
  · rw [fa_le, f68, hA.1] at c
    have iL : i.toNatClampNeg < l.length := by omega
    have hy : l[i.toNatClampNeg]? = some l[i.toNatClampNeg] := List.getElem?_eq_getElem iL
    generalize l[i.toNatClampNeg] = y at hy
    have a0 := hA.2 _ _ hy
    have st := mrun_st (l := l) (k0 := fun j => (τ.1 72 j).toInt) i.toNatClampNeg
    have nx := mrun_s (k0 := fun j => (τ.1 72 j).toInt) hy
    refine pc_ix (fun ib => ?_)
    have ei : (i + 1).toInt = i.toInt + 1 := i1 (by omega)
    have di : (i + 1).toNatClampNeg = i.toNatClampNeg + 1 := by have := clamp_I (x := i + 1) (by omega); omega
    rw [f69]
    refine pc_lt fun v3 e3 => ?_
    have v3y : v3.toInt = y.1 := by rw [e3]; exact a0.1
    generalize hm : mrun l (fun j => (τ.1 72 j).toInt) i.toNatClampNeg = m at hx h76 h72 st nx
    obtain ⟨m1, m2⟩ := st
    -- what stands behind the choice
    refine pc_jnI2 (fun x' s' => FR [72, 73, 74, 75, 76] [] τ s' ∧ x'.toInt = ((mst1 l m i.toNatClampNeg y.1).1 : Int) ∧ (∀ j, j < (mst1 l m i.toNatClampNeg y.1).1 → (s'.1 76 j).toInt = ((mst1 l m i.toNatClampNeg y.1).2.1 j : Int)) ∧ ∀ j, (s'.1 72 j).toInt = (mst1 l m i.toNatClampNeg y.1).2.2 j) (fun x' s' J => ?_) (fun k hk => ?_)
    · obtain ⟨j1, j2, j3, j4⟩ := J
      refine pc_cals t_mark (fun s5 f5 => ?_)
      refine pc_lt fun x6 e6 => ?_
      subst e6
      have g72 := f5.1 72 (by decide)
      have g76 := f5.1 76 (by decide)
      refine ih x' (i + 1) s5 ⟨by omega, by omega, FR.cal j1 f5 rfl rfl, ?_, fun j hj => ?_, fun j => ?_⟩
      · rw [di, nx]; exact j2
      · rw [di, nx] at hj ⊢
        rw [g76]; exact j3 j hj
      · rw [di, nx, g72]; exact j4 j
    · have same : ∀ {y1 : Int}, mst1 l m i.toNatClampNeg y1 = m → y1 = y.1 → PC (k x s) _ := fun {y1} e q => hk x s ⟨f, by rw [← q, e]; exact hx, fun j hj => by rw [← q, e] at hj ⊢; exact h76 j hj, fun j => by rw [← q, e]; exact h72 j⟩
      refine pc_ite (fun c3 => ?_) (fun c3 => ?_)
      · have o : opK y.1 := by unfold opK; rw [← v3y]; exact c3
        refine pc_ite (fun c4 => ?_) (fun c4 => ?_)
        · rw [fa_le, k_120] at c4
          exact same (by unfold mst1; rw [if_pos o, if_neg (by omega)]) rfl
        · rw [fa_le, k_120] at c4
          have e := mst_o (l := l) (s := m) (i := i.toNatClampNeg) o (by omega)
          have cx := clamp_I (x := x) (by omega)
          have xm : x.toNatClampNeg = m.1 := by omega
          refine pc_ix (fun _ => ?_)
          refine pc_lt fun s9 e9 => ?_
          refine pc_lt fun x10 e10 => ?_
          have e10' : x10.toInt = x.toInt + 1 := by rw [e10]; exact i1 (by omega)
          refine hk x10 s9 ⟨by rw [e9]; exact FR.st f (by decide), by rw [e]; show x10.toInt = ((m.1 + 1 : Nat) : Int); omega, fun j hj => ?_, fun j => ?_⟩
          · rw [e] at hj ⊢
            show (s9.1 76 j).toInt = ((upN m.2.1 m.1 i.toNatClampNeg j : Nat) : Int)
            have hj' : j < m.1 + 1 := hj
            rw [e9, sti_if, xm]
            by_cases q : j = m.1
            · rw [if_pos q, q, upN_s]; omega
            · rw [if_neg q, upN_o q]
              exact h76 j (by omega)
          · rw [e, e9, sti_o (by decide)]
            exact h72 j
      · have no : ¬ opK y.1 := by unfold opK; rw [← v3y]; exact c3
        refine pc_ite (fun c4 => ?_) (fun c4 => ?_)
        · have y4 : y.1 = 4 := by omega
          refine pc_ite (fun c5 => ?_) (fun c5 => ?_)
          · rw [fa_le, k_0] at c5
            exact same (by unfold mst1; rw [if_neg no, if_pos y4, if_neg (by omega)]) rfl
          · rw [fa_le, k_0] at c5
            have e := mst_e (l := l) (s := m) (i := i.toNatClampNeg) y4 (by omega)
            have tx : (x - 1).toInt = x.toInt - 1 := i32_m1 (by omega)
            have cx : (x - 1).toNatClampNeg = m.1 - 1 := by have := clamp_I (x := x - 1) (by omega); omega
            have tp := h76 (m.1 - 1) (by omega)
            refine pc_ix (fun _ => ?_)
            rw [cx]
            refine pc_lt fun v12 e12 => ?_
            have q12 : v12.toNatClampNeg = m.2.1 (m.1 - 1) := by have := clamp_I (x := v12) (by rw [e12]; omega); rw [e12] at this ⊢; omega
            refine pc_ix (fun _ => ?_)
            refine pc_lt fun s13 e13 => ?_
            refine pc_ix (fun _ => ?_)
            refine pc_lt fun s14 e14 => ?_
            refine hk x s14 ⟨by rw [e14, e13]; exact FR.st (FR.st f (by decide)) (by decide), by rw [e]; exact hx, fun j hj => ?_, fun j => ?_⟩
            · rw [e] at hj ⊢
              show (s14.1 76 j).toInt = ((upN m.2.1 (m.1 - 1) i.toNatClampNeg j : Nat) : Int)
              rw [e14, sti_if, e13, sti_o (by decide)]
              by_cases q : j = m.1 - 1
              · rw [if_pos q, q, upN_s]; omega
              · rw [if_neg q, upN_o q]
                exact h76 j hj
            · rw [e]
              show (s14.1 72 j).toInt = upN m.2.2 (m.2.1 (m.1 - 1)) (i.toNatClampNeg : Int) j
              rw [e14, sti_o (by decide), e13, sti_if, q12]
              by_cases q : j = m.2.1 (m.1 - 1)
              · rw [if_pos q, q, upN_s]; omega
              · rw [if_neg q, upN_o q]
                exact h72 j
        · have n4 : ¬ y.1 = 4 := by omega
          refine pc_ite (fun c5 => ?_) (fun c5 => ?_)
          · have cl : clK y.1 := by unfold clK; rw [← v3y]; exact c5
            refine pc_ite (fun c6 => ?_) (fun c6 => ?_)
            · rw [fa_le, k_0] at c6
              exact same (by unfold mst1; rw [if_neg no, if_neg n4, if_pos cl, if_neg (by omega)]) rfl
            · rw [fa_le, k_0] at c6
              have e := mst_c (l := l) (s := m) (i := i.toNatClampNeg) cl (by omega)
              refine pc_lt fun x16 e16 => ?_
              have tx : x16.toInt = x.toInt - 1 := by rw [e16]; exact i_m1 (by omega) (by omega)
              have cx : x16.toNatClampNeg = m.1 - 1 := by have := clamp_I (x := x16) (by omega); omega
              have tp := h76 (m.1 - 1) (by omega)
              have tl := (m2 (m.1 - 1) (by omega)).1
              refine pc_ix (fun _ => ?_)
              rw [cx]
              refine pc_lt fun v17 e17 => ?_
              have q17 : v17.toNatClampNeg = m.2.1 (m.1 - 1) := by have := clamp_I (x := v17) (by rw [e17]; omega); rw [e17] at this ⊢; omega
              refine pc_ix (fun _ => ?_)
              refine pc_lt fun s18 e18 => ?_
              refine pc_ix (fun _ => ?_)
              have r76 : s18.1 76 = s.1 76 := by rw [e18, sti_o (by decide)]
              have r69 : s18.1 69 = τ.1 69 := by rw [e18, sti_o (by decide), f69]
              rw [r76]
              refine pc_lt fun v19 e19 => ?_
              have q19 : v19 = v17 := by rw [e19, e17]
              rw [q19]
              refine pc_ix (fun _ => ?_)
              rw [r69, q17]
              refine pc_lt fun v20 e20 => ?_
              have ho : l[m.2.1 (m.1 - 1)]? = some l[m.2.1 (m.1 - 1)] := List.getElem?_eq_getElem (by omega)
              have q20 : v20.toInt = kdL l (m.2.1 (m.1 - 1)) := by rw [e20, kdL_s ho]; exact (hA.2 _ _ ho).1
              refine pc_ix (fun _ => ?_)
              refine pc_lt fun s21 e21 => ?_
              refine hk x16 s21 ⟨by rw [e21, e18]; exact FR.st (FR.st f (by decide)) (by decide), by rw [e]; show x16.toInt = ((m.1 - 1 : Nat) : Int); omega, fun j hj => ?_, fun j => ?_⟩
              · rw [e] at hj ⊢
                have hj' : j < m.1 - 1 := hj
                show (s21.1 76 j).toInt = ((m.2.1 j : Nat) : Int)
                rw [e21, sti_o (by decide), r76]
                exact h76 j (by omega)
              · rw [e]
                show (s21.1 72 j).toInt = upN (upN m.2.2 (m.2.1 (m.1 - 1)) (i.toNatClampNeg : Int)) i.toNatClampNeg (kdL l (m.2.1 (m.1 - 1))) j
                rw [e21, sti_if]
                by_cases q : j = i.toNatClampNeg
                · rw [if_pos q, q, upN_s]; exact q20
                · rw [if_neg q, upN_o q, e18, sti_if, q17]
                  by_cases r : j = m.2.1 (m.1 - 1)
                  · rw [if_pos r, r, upN_s]; omega
                  · rw [if_neg r, upN_o r]
                    exact h72 j
          · have nc : ¬ clK y.1 := by unfold clK; rw [← v3y]; exact c5
            exact same (mst_p ⟨no, n4, nc⟩) rfl
