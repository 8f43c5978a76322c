/-- marks that matching sets: where each name, each LOOP, each END of a block was met last -/
def MKI (l : List Ln) (k0 : Nat → Int) (n : Nat) (s : Sto) : Prop := ∀ j x, j < n → l[j]? = some x → 0 ≤ x.2.1 → (x.1 = 11 → ∃ i y, j ≤ i ∧ i < n ∧ l[i]? = some y ∧ y.1 = 11 ∧ y.2.1 = x.2.1 ∧ (s.1 73 x.2.1.toNat).toInt = ((i : Nat) : Int)) ∧ (x.1 = 1 → ∃ i y, j ≤ i ∧ i < n ∧ l[i]? = some y ∧ y.1 = 1 ∧ y.2.1 = x.2.1 ∧ (s.1 74 x.2.1.toNat).toInt = ((i : Nat) : Int)) ∧ (x.1 = 5 → (mrun l k0 (j + 1)).2.2 j = 2 → ∃ i y, j ≤ i ∧ i < n ∧ l[i]? = some y ∧ y.1 = 5 ∧ y.2.1 = x.2.1 ∧ (mrun l k0 (i + 1)).2.2 i = 2 ∧ (s.1 75 x.2.1.toNat).toInt = ((i : Nat) : Int))
/-- what one mark does -/
def MK1 (τ : Sto) (k lk : Int) (b : Nat) (v : Int32) (s : Sto) : Prop := (k = 11 ∧ s = sti τ 73 b v) ∨ (k = 1 ∧ s = sti τ 74 b v) ∨ (k = 5 ∧ lk = 2 ∧ s = sti τ 75 b v) ∨ (k ≠ 11 ∧ k ≠ 1 ∧ ¬ (k = 5 ∧ lk = 2) ∧ s = τ)
theorem t_mark2 {x : Int32} {τ : Sto} : PC (f_X2_mark x τ) (fun s => FR [73, 74, 75] [] τ s ∧ MK1 τ (τ.1 69 x.toNatClampNeg).toInt (τ.1 72 x.toNatClampNeg).toInt (τ.1 70 x.toNatClampNeg).toNatClampNeg x s) := by
  have k_11 : (11 : Int32).toInt = 11 := by decide +kernel
  have k_1 : (1 : Int32).toInt = 1 := by decide +kernel
  have k_5 : (5 : Int32).toInt = 5 := by decide +kernel
  have k_2 : (2 : Int32).toInt = 2 := by decide +kernel
  unfold f_X2_mark
  refine pc_ix (fun _ => ?_)
  refine pc_lt fun v1 e1 => ?_
  refine pc_ite (fun c => ?_) (fun c => ?_)
  · rw [fa_eq, k_11, e1] at c
    refine pc_ix (fun _ => ?_)
    refine pc_lt fun v3 e3 => ?_
    refine pc_ix (fun _ => ?_)
    exact pc_lt fun s4 e4 => pc_ret ⟨by rw [e4]; exact FR.st FR.rf (by decide), Or.inl ⟨c, by rw [e4, e3]⟩⟩
  · rw [fa_eq, k_11, e1] at c
    refine pc_ix (fun _ => ?_)
    refine pc_lt fun v5 e5 => ?_
    refine pc_ite (fun d => ?_) (fun d => ?_)
    · rw [fa_eq, k_1, e5] at d
      refine pc_ix (fun _ => ?_)
      refine pc_lt fun v7 e7 => ?_
      refine pc_ix (fun _ => ?_)
      exact pc_lt fun s8 e8 => pc_ret ⟨by rw [e8]; exact FR.st FR.rf (by decide), Or.inr (Or.inl ⟨d, by rw [e8, e7]⟩)⟩
    · rw [fa_eq, k_1, e5] at d
      refine pc_ix (fun _ => ?_)
      refine pc_lt fun v9 e9 => ?_
      refine pc_ite (fun z => ?_) (fun z => ?_)
      · rw [fa_eq, k_5, e9] at z
        refine pc_ix (fun _ => ?_)
        refine pc_lt fun v11 e11 => ?_
        refine pc_ite (fun w => ?_) (fun w => ?_)
        · rw [fa_eq, k_2, e11] at w
          refine pc_ix (fun _ => ?_)
          refine pc_lt fun v13 e13 => ?_
          refine pc_ix (fun _ => ?_)
          exact pc_lt fun s14 e14 => pc_ret ⟨by rw [e14]; exact FR.st FR.rf (by decide), Or.inr (Or.inr (Or.inl ⟨z, w, by rw [e14, e13]⟩))⟩
        · rw [fa_eq, k_2, e11] at w
          exact pc_ret ⟨FR.rf, Or.inr (Or.inr (Or.inr ⟨c, d, fun y => w y.2, rfl⟩))⟩
      · rw [fa_eq, k_5, e9] at z
        exact pc_ret ⟨FR.rf, Or.inr (Or.inr (Or.inr ⟨c, d, fun y => z y.1, rfl⟩))⟩
theorem MKI.nx {l : List Ln} {k0 : Nat → Int} {n : Nat} {s s2 t : Sto} {y : Ln} (h : MKI l k0 n s) (hy : l[n]? = some y) (q : MK1 s2 y.1 ((mrun l k0 (n + 1)).2.2 n) y.2.1.toNat (nI n) t) (e73 : s2.1 73 = s.1 73) (e74 : s2.1 74 = s.1 74) (e75 : s2.1 75 = s.1 75) (y0 : 0 ≤ y.2.1) (hn : n < 2147483648) : MKI l k0 (n + 1) t := by
  have nn : (nI n).toInt = (n : Int) := nI_toInt (by omega)
  intro j x hj hx x0
  refine ⟨fun x1 => ?_, fun x1 => ?_, fun x1 x2 => ?_⟩
  · by_cases b : y.1 = 11 ∧ y.2.1 = x.2.1
    · refine ⟨n, y, by omega, by omega, hy, b.1, b.2, ?_⟩
      rcases q with ⟨q1, q2⟩ | ⟨q1, q2⟩ | ⟨q1, q3, q2⟩ | ⟨q1, q3, q4, q2⟩
      · rw [q2, b.2, sti_s]; exact nn
      · have := b.1; omega
      · have := b.1; omega
      · exact absurd b.1 q1
    · have jn : j < n := by
        by_cases z : j = n
        · subst z
          rw [hx] at hy
          have e := Option.some.inj hy
          exact absurd ⟨by rw [← e]; exact x1, by rw [e]⟩ b
        · omega
      obtain ⟨i, u, i1, i2, i3, i4, i5, i6⟩ := (h j x jn hx x0).1 x1
      refine ⟨i, u, i1, by omega, i3, i4, i5, ?_⟩
      rcases q with ⟨q1, q2⟩ | ⟨q1, q2⟩ | ⟨q1, q3, q2⟩ | ⟨q1, q3, q4, q2⟩
      · rw [q2, sti_j (fun w => b ⟨q1, by omega⟩), e73]; exact i6
      · rw [q2, sti_o (by decide), e73]; exact i6
      · rw [q2, sti_o (by decide), e73]; exact i6
      · rw [q2, e73]; exact i6
  · by_cases b : y.1 = 1 ∧ y.2.1 = x.2.1
    · refine ⟨n, y, by omega, by omega, hy, b.1, b.2, ?_⟩
      rcases q with ⟨q1, q2⟩ | ⟨q1, q2⟩ | ⟨q1, q3, q2⟩ | ⟨q1, q3, q4, q2⟩
      · have := b.1; omega
      · rw [q2, b.2, sti_s]; exact nn
      · have := b.1; omega
      · exact absurd b.1 q3
    · have jn : j < n := by
        by_cases z : j = n
        · subst z
          rw [hx] at hy
          have e := Option.some.inj hy
          exact absurd ⟨by rw [← e]; exact x1, by rw [e]⟩ b
        · omega
      obtain ⟨i, u, i1, i2, i3, i4, i5, i6⟩ := (h j x jn hx x0).2.1 x1
      refine ⟨i, u, i1, by omega, i3, i4, i5, ?_⟩
      rcases q with ⟨q1, q2⟩ | ⟨q1, q2⟩ | ⟨q1, q3, q2⟩ | ⟨q1, q3, q4, q2⟩
      · rw [q2, sti_o (by decide), e74]; exact i6
      · rw [q2, sti_j (fun w => b ⟨q1, by omega⟩), e74]; exact i6
      · rw [q2, sti_o (by decide), e74]; exact i6
      · rw [q2, e74]; exact i6
  · by_cases b : (y.1 = 5 ∧ y.2.1 = x.2.1) ∧ (mrun l k0 (n + 1)).2.2 n = 2
    · refine ⟨n, y, by omega, by omega, hy, b.1.1, b.1.2, b.2, ?_⟩
      rcases q with ⟨q1, q2⟩ | ⟨q1, q2⟩ | ⟨q1, q3, q2⟩ | ⟨q1, q3, q4, q2⟩
      · have := b.1.1; omega
      · have := b.1.1; omega
      · rw [q2, b.1.2, sti_s]; exact nn
      · exact absurd ⟨b.1.1, b.2⟩ q4
    · have jn : j < n := by
        by_cases z : j = n
        · subst z
          rw [hx] at hy
          have e := Option.some.inj hy
          exact absurd ⟨⟨by rw [← e]; exact x1, by rw [e]⟩, x2⟩ b
        · omega
      obtain ⟨i, u, i1, i2, i3, i4, i5, i7, i6⟩ := (h j x jn hx x0).2.2 x1 x2
      refine ⟨i, u, i1, by omega, i3, i4, i5, i7, ?_⟩
      rcases q with ⟨q1, q2⟩ | ⟨q1, q2⟩ | ⟨q1, q3, q2⟩ | ⟨q1, q3, q4, q2⟩
      · rw [q2, sti_o (by decide), e75]; exact i6
      · rw [q2, sti_o (by decide), e75]; exact i6
      · rw [q2, sti_j (fun w => b ⟨⟨q1, by omega⟩, q3⟩), e75]; exact i6
      · rw [q2, e75]; exact i6
/-- what is open is a { or an else -/
theorem mrun_st2 {l : List Ln} {k0 : Nat → Int} : ∀ i, ∀ j, j < (mrun l k0 i).1 → ¬ clK (kdL l ((mrun l k0 i).2.1 j))
  | 0 => fun j hj => absurd hj (Nat.not_lt_zero j)
  | i + 1 => by
    have ih := mrun_st2 (l := l) (k0 := k0) i
    show ∀ j, j < (mst1 l (mrun l k0 i) i (kdL l i)).1 → ¬ clK (kdL l ((mst1 l (mrun l k0 i) i (kdL l i)).2.1 j))
    generalize mrun l k0 i = s at ih ⊢
    refine mst_cases (fun t => ∀ j, j < t.1 → ¬ clK (kdL l (t.2.1 j))) ih (fun a _ j hj => ?_) (fun a b j hj => ?_) (fun a b j hj => ?_)
    · have hj : j < s.1 + 1 := hj
      show ¬ clK (kdL l (upN s.2.1 s.1 i j))
      by_cases z : j = s.1
      · rw [z, upN_s]
        unfold opK at a
        unfold clK
        omega
      · rw [upN_o z]; exact ih j (by omega)
    · have hj : j < s.1 := hj
      show ¬ clK (kdL l (upN s.2.1 (s.1 - 1) i j))
      by_cases z : j = s.1 - 1
      · rw [z, upN_s, a]
        unfold clK
        omega
      · rw [upN_o z]; exact ih j hj
    · have hj : j < s.1 - 1 := hj
      exact ih j (by omega)
/-- a } leads where it led as it was met -/
theorem mrun_cl {l : List Ln} {k0 : Nat → Int} {j : Nat} (hc : clK (kdL l j)) : ∀ n, (mrun l k0 (j + 1 + n)).2.2 j = (mrun l k0 (j + 1)).2.2 j
  | 0 => rfl
  | n + 1 => by
    have ih := mrun_cl (l := l) (k0 := k0) hc n
    have st := mrun_st2 (l := l) (k0 := k0) (j + 1 + n)
    show (mst1 l (mrun l k0 (j + 1 + n)) (j + 1 + n) (kdL l (j + 1 + n))).2.2 j = _
    generalize mrun l k0 (j + 1 + n) = s at ih st ⊢
    refine mst_cases (fun t => t.2.2 j = (mrun l k0 (j + 1)).2.2 j) ih (fun _ _ => ih) (fun a b => ?_) (fun a b => ?_)
    · show upN s.2.2 (s.2.1 (s.1 - 1)) ((j + 1 + n : Nat) : Int) j = _
      rw [upN_o (fun z => st (s.1 - 1) (by omega) (by rw [← z]; exact hc))]
      exact ih
    · show upN (upN s.2.2 (s.2.1 (s.1 - 1)) ((j + 1 + n : Nat) : Int)) (j + 1 + n) _ j = _
      rw [upN_o (by omega), upN_o (fun z => st (s.1 - 1) (by omega) (by rw [← z]; exact hc))]
      exact ih
theorem t_match2 {τ : Sto} {l : List Ln} (hA : ATX τ l) (hl8 : l.length ≤ 800) (hP : ∀ (i : Nat) (z : Ln), l[i]? = some z → 0 ≤ z.2.1) : PC (f_X2_match τ) (fun s => FR [72, 73, 74, 75, 76] [] τ s ∧ (∀ j, (s.1 72 j).toInt = (mrun l (fun j => (τ.1 72 j).toInt) l.length).2.2 j) ∧ MKI l (fun j => (τ.1 72 j).toInt) l.length s) := by
  have k_0 : (0 : Int32).toInt = 0 := by decide +kernel
  have k_120 : (120 : Int32).toInt = 120 := by decide +kernel
  have c0 : (0 : Int32).toNatClampNeg = 0 := by have := clamp_I (x := 0) (by omega); omega
  unfold f_X2_match
  refine pc_itr3 (fun x i s => 0 ≤ i.toInt ∧ i.toInt ≤ (l.length : Int) ∧ FR [72, 73, 74, 75, 76] [] τ s ∧ x.toInt = ((mrun l (fun j => (τ.1 72 j).toInt) i.toNatClampNeg).1 : Int) ∧ (∀ j, j < (mrun l (fun j => (τ.1 72 j).toInt) i.toNatClampNeg).1 → (s.1 76 j).toInt = ((mrun l (fun j => (τ.1 72 j).toInt) i.toNatClampNeg).2.1 j : Int)) ∧ (∀ j, (s.1 72 j).toInt = (mrun l (fun j => (τ.1 72 j).toInt) i.toNatClampNeg).2.2 j) ∧ MKI l (fun j => (τ.1 72 j).toInt) i.toNatClampNeg s) ?_ ⟨by omega, by omega, FR.rf, by rw [c0]; exact k_0, fun j hj => by rw [c0] at hj; exact absurd hj (Nat.not_lt_zero j), fun j => by rw [c0]; rfl, by rw [c0]; exact fun j x hj => absurd hj (Nat.not_lt_zero j)⟩
  intro ag x i s I ih
  obtain ⟨i0, il, f, hx, h76, h72, hmk⟩ := I
  have ci := clamp_I i0
  have f68 := f.1 68 (by decide)
  have f69 := f.1 69 (by decide)
  have f70 := f.1 70 (by decide)
  refine pc_ite (fun c => ?_) (fun c => ?_)
  · rw [fa_le, f68, hA.1] at c
    rw [show i.toNatClampNeg = l.length by omega] at h72 hmk
    exact pc_ret ⟨f, h72, hmk⟩
  · rw [fa_le, f68, hA.1] at c
    have iL : i.toNatClampNeg < l.length := by omega
    have hy : l[i.toNatClampNeg]? = some l[i.toNatClampNeg] := List.getElem?_eq_getElem iL
    generalize l[i.toNatClampNeg] = y at hy
    have a0 := hA.2 _ _ hy
    have st := mrun_st (l := l) (k0 := fun j => (τ.1 72 j).toInt) i.toNatClampNeg
    have nx := mrun_s (k0 := fun j => (τ.1 72 j).toInt) hy
    refine pc_ix (fun ib => ?_)
    have ei : (i + 1).toInt = i.toInt + 1 := i1 (by omega)
    have di : (i + 1).toNatClampNeg = i.toNatClampNeg + 1 := by have := clamp_I (x := i + 1) (by omega); omega
    rw [f69]
    refine pc_lt fun v3 e3 => ?_
    have v3y : v3.toInt = y.1 := by rw [e3]; exact a0.1
    generalize hm : mrun l (fun j => (τ.1 72 j).toInt) i.toNatClampNeg = m at hx h76 h72 st nx
    obtain ⟨m1, m2⟩ := st
    -- what stands behind the choice
    refine pc_jnI2 (fun x' s' => FR [72, 76] [] s s' ∧ x'.toInt = ((mst1 l m i.toNatClampNeg y.1).1 : Int) ∧ (∀ j, j < (mst1 l m i.toNatClampNeg y.1).1 → (s'.1 76 j).toInt = ((mst1 l m i.toNatClampNeg y.1).2.1 j : Int)) ∧ ∀ j, (s'.1 72 j).toInt = (mst1 l m i.toNatClampNeg y.1).2.2 j) (fun x' s' J => ?_) (fun k hk => ?_)
    · obtain ⟨j1, j2, j3, j4⟩ := J
      have F := FR.cal (ms := [72, 73, 74, 75, 76]) f j1 rfl rfl
      refine pc_cals t_mark2 (fun s5 q5 => ?_)
      obtain ⟨f5, q5⟩ := q5
      refine pc_lt fun x6 e6 => ?_
      subst e6
      have g72 := f5.1 72 (by decide)
      have g76 := f5.1 76 (by decide)
      refine ih x' (i + 1) s5 ⟨by omega, by omega, FR.cal F f5 rfl rfl, ?_, fun j hj => ?_, fun j => ?_, ?_⟩
      · rw [di, nx]; exact j2
      · rw [di, nx] at hj ⊢
        rw [g76]; exact j3 j hj
      · rw [di, nx, g72]; exact j4 j
      · rw [di]
        have l72 : (s'.1 72 i.toNatClampNeg).toInt = (mrun l (fun j => (τ.1 72 j).toInt) (i.toNatClampNeg + 1)).2.2 i.toNatClampNeg := by rw [nx]; exact j4 _
        refine hmk.nx hy ?_ (j1.1 73 (by decide)) (j1.1 74 (by decide)) (j1.1 75 (by decide)) ?_ (by omega)
        rotate_left
        · exact hP _ _ hy
        rw [F.1 69 (by decide), F.1 70 (by decide), a0.1, l72] at q5
        have b0 : (τ.1 70 i.toNatClampNeg).toNatClampNeg = y.2.1.toNat := by
          show (τ.1 70 i.toNatClampNeg).toInt.toNat = _
          rw [a0.2]
        rw [b0, show i = nI i.toNatClampNeg from nI_id i0] at q5
        have b1 : (nI i.toNatClampNeg).toNatClampNeg = i.toNatClampNeg := by rw [← nI_id i0]
        rw [b1] at q5
        exact q5
    · have same : ∀ {y1 : Int}, mst1 l m i.toNatClampNeg y1 = m → y1 = y.1 → PC (k x s) _ := fun {y1} e q => hk x s ⟨FR.rf, by rw [← q, e]; exact hx, fun j hj => by rw [← q, e] at hj ⊢; exact h76 j hj, fun j => by rw [← q, e]; exact h72 j⟩
      refine pc_ite (fun c3 => ?_) (fun c3 => ?_)
      · have o : opK y.1 := by unfold opK; rw [← v3y]; exact c3
        refine pc_ite (fun c4 => ?_) (fun c4 => ?_)
        · rw [fa_le, k_120] at c4
          exact same (by unfold mst1; rw [if_pos o, if_neg (by omega)]) rfl
        · rw [fa_le, k_120] at c4
          have e := mst_o (l := l) (s := m) (i := i.toNatClampNeg) o (by omega)
          have cx := clamp_I (x := x) (by omega)
          have xm : x.toNatClampNeg = m.1 := by omega
          refine pc_ix (fun _ => ?_)
          refine pc_lt fun s9 e9 => ?_
          refine pc_lt fun x10 e10 => ?_
          have e10' : x10.toInt = x.toInt + 1 := by rw [e10]; exact i1 (by omega)
          refine hk x10 s9 ⟨by rw [e9]; exact FR.st FR.rf (by decide), by rw [e]; show x10.toInt = ((m.1 + 1 : Nat) : Int); omega, fun j hj => ?_, fun j => ?_⟩
          · rw [e] at hj ⊢
            show (s9.1 76 j).toInt = ((upN m.2.1 m.1 i.toNatClampNeg j : Nat) : Int)
            have hj' : j < m.1 + 1 := hj
            rw [e9, sti_if, xm]
            by_cases q : j = m.1
            · rw [if_pos q, q, upN_s]; omega
            · rw [if_neg q, upN_o q]
              exact h76 j (by omega)
          · rw [e, e9, sti_o (by decide)]
            exact h72 j
      · have no : ¬ opK y.1 := by unfold opK; rw [← v3y]; exact c3
        refine pc_ite (fun c4 => ?_) (fun c4 => ?_)
        · have y4 : y.1 = 4 := by omega
          refine pc_ite (fun c5 => ?_) (fun c5 => ?_)
          · rw [fa_le, k_0] at c5
            exact same (by unfold mst1; rw [if_neg no, if_pos y4, if_neg (by omega)]) rfl
          · rw [fa_le, k_0] at c5
            have e := mst_e (l := l) (s := m) (i := i.toNatClampNeg) y4 (by omega)
            have tx : (x - 1).toInt = x.toInt - 1 := i32_m1 (by omega)
            have cx : (x - 1).toNatClampNeg = m.1 - 1 := by have := clamp_I (x := x - 1) (by omega); omega
            have tp := h76 (m.1 - 1) (by omega)
            refine pc_ix (fun _ => ?_)
            rw [cx]
            refine pc_lt fun v12 e12 => ?_
            have q12 : v12.toNatClampNeg = m.2.1 (m.1 - 1) := by have := clamp_I (x := v12) (by rw [e12]; omega); rw [e12] at this ⊢; omega
            refine pc_ix (fun _ => ?_)
            refine pc_lt fun s13 e13 => ?_
            refine pc_ix (fun _ => ?_)
            refine pc_lt fun s14 e14 => ?_
            refine hk x s14 ⟨by rw [e14, e13]; exact FR.st (FR.st FR.rf (by decide)) (by decide), by rw [e]; exact hx, fun j hj => ?_, fun j => ?_⟩
            · rw [e] at hj ⊢
              show (s14.1 76 j).toInt = ((upN m.2.1 (m.1 - 1) i.toNatClampNeg j : Nat) : Int)
              rw [e14, sti_if, e13, sti_o (by decide)]
              by_cases q : j = m.1 - 1
              · rw [if_pos q, q, upN_s]; omega
              · rw [if_neg q, upN_o q]
                exact h76 j hj
            · rw [e]
              show (s14.1 72 j).toInt = upN m.2.2 (m.2.1 (m.1 - 1)) (i.toNatClampNeg : Int) j
              rw [e14, sti_o (by decide), e13, sti_if, q12]
              by_cases q : j = m.2.1 (m.1 - 1)
              · rw [if_pos q, q, upN_s]; omega
              · rw [if_neg q, upN_o q]
                exact h72 j
        · have n4 : ¬ y.1 = 4 := by omega
          refine pc_ite (fun c5 => ?_) (fun c5 => ?_)
          · have cl : clK y.1 := by unfold clK; rw [← v3y]; exact c5
            refine pc_ite (fun c6 => ?_) (fun c6 => ?_)
            · rw [fa_le, k_0] at c6
              exact same (by unfold mst1; rw [if_neg no, if_neg n4, if_pos cl, if_neg (by omega)]) rfl
            · rw [fa_le, k_0] at c6
              have e := mst_c (l := l) (s := m) (i := i.toNatClampNeg) cl (by omega)
              refine pc_lt fun x16 e16 => ?_
              have tx : x16.toInt = x.toInt - 1 := by rw [e16]; exact i_m1 (by omega) (by omega)
              have cx : x16.toNatClampNeg = m.1 - 1 := by have := clamp_I (x := x16) (by omega); omega
              have tp := h76 (m.1 - 1) (by omega)
              have tl := (m2 (m.1 - 1) (by omega)).1
              refine pc_ix (fun _ => ?_)
              rw [cx]
              refine pc_lt fun v17 e17 => ?_
              have q17 : v17.toNatClampNeg = m.2.1 (m.1 - 1) := by have := clamp_I (x := v17) (by rw [e17]; omega); rw [e17] at this ⊢; omega
              refine pc_ix (fun _ => ?_)
              refine pc_lt fun s18 e18 => ?_
              refine pc_ix (fun _ => ?_)
              have r76 : s18.1 76 = s.1 76 := by rw [e18, sti_o (by decide)]
              have r69 : s18.1 69 = τ.1 69 := by rw [e18, sti_o (by decide), f69]
              rw [r76]
              refine pc_lt fun v19 e19 => ?_
              have q19 : v19 = v17 := by rw [e19, e17]
              rw [q19]
              refine pc_ix (fun _ => ?_)
              rw [r69, q17]
              refine pc_lt fun v20 e20 => ?_
              have ho : l[m.2.1 (m.1 - 1)]? = some l[m.2.1 (m.1 - 1)] := List.getElem?_eq_getElem (by omega)
              have q20 : v20.toInt = kdL l (m.2.1 (m.1 - 1)) := by rw [e20, kdL_s ho]; exact (hA.2 _ _ ho).1
              refine pc_ix (fun _ => ?_)
              refine pc_lt fun s21 e21 => ?_
              refine hk x16 s21 ⟨by rw [e21, e18]; exact FR.st (FR.st FR.rf (by decide)) (by decide), by rw [e]; show x16.toInt = ((m.1 - 1 : Nat) : Int); omega, fun j hj => ?_, fun j => ?_⟩
              · rw [e] at hj ⊢
                have hj' : j < m.1 - 1 := hj
                show (s21.1 76 j).toInt = ((m.2.1 j : Nat) : Int)
                rw [e21, sti_o (by decide), r76]
                exact h76 j (by omega)
              · rw [e]
                show (s21.1 72 j).toInt = upN (upN m.2.2 (m.2.1 (m.1 - 1)) (i.toNatClampNeg : Int)) i.toNatClampNeg (kdL l (m.2.1 (m.1 - 1))) j
                rw [e21, sti_if]
                by_cases q : j = i.toNatClampNeg
                · rw [if_pos q, q, upN_s]; exact q20
                · rw [if_neg q, upN_o q, e18, sti_if, q17]
                  by_cases r : j = m.2.1 (m.1 - 1)
                  · rw [if_pos r, r, upN_s]; omega
                  · rw [if_neg r, upN_o r]
                    exact h72 j
          · have nc : ¬ clK y.1 := by unfold clK; rw [← v3y]; exact c5
            exact same (mst_p ⟨no, n4, nc⟩) rfl
/-- where lines of the class lead -/
def LKX (l : List Ln) (s : Sto) : Prop := ∃ (f : List Ln) (k0 : Nat → Int), KLS l f ∧ (∀ m x, f[m]? = some x → MTd f (fun j => (s.1 72 j).toInt) m x) ∧ MKI f k0 f.length s ∧ ∀ j, (s.1 72 j).toInt = (mrun f k0 f.length).2.2 j
theorem t_tellAll2 {σ s : Sto} {l : List Ln} {d : Nat} (W : WTL σ s) (t : TEL s d 0 0 0 l) (hn : l.length ≤ 800) : PC (f_X2_tellAll σ) (LKX l) := by
  have k_0 : (0 : Int32).toInt = 0 := by decide +kernel
  have c0 : (0 : Int32).toNatClampNeg = 0 := by have := clamp_I (x := 0) (by omega); omega
  have w1 := W.1
  have hb1 := w1.2.2.2.2.2.2.2.2
  have g33 := gM_33 w1.1 0
  have rn := TEL.rng w1 _ _ _ _ _ t
  have o5 := (TEL.onc w1 (by omega) t).on5
  have st := TEL.str _ _ _ _ _ t
  unfold f_X2_tellAll
  refine pc_lt fun s1 e1 => ?_
  refine pc_lt fun s2 e2 => ?_
  have f2 : FR MSl [] σ s2 := by
    rw [e2]; refine FR.st ?_ (by decide)
    rw [e1]; exact FR.st FR.rf (by decide)
  have z2 : (s2.1 68 0).toInt = ((0 : Nat) : Int) := by rw [e2, sti_o (by decide), e1, sti_s]; exact k_0
  refine pc_cals ((d_all W 250).1 0 0 s2 0 d l (by omega) (by rw [c0]; omega) (by omega) (by rw [c0]; unfold oR; omega) f2 (by rw [c0]; exact t) z2 (by omega)) (fun s3 a3 => ?_)
  obtain ⟨f3, n3, _, r3, d3⟩ := a3
  rw [Nat.zero_add] at n3 d3
  have A3 : ATX s3 l := ⟨n3, fun i x hx => by
    have q := r3 i x hx
    rw [Nat.zero_add] at q
    exact ⟨q.1, q.2.1⟩⟩
  have D3 := d3 ⟨by rw [e2, sti_s]; rfl, fun i hi => absurd hi (Nat.not_lt_zero i)⟩
  refine pc_cals (t_match A3) (fun s4 a4 => ?_)
  obtain ⟨f4, r4⟩ := a4
  have m := TEL.mt w1 (k0 := fun j => (s3.1 72 j).toInt) t
  unfold SEG at m
  rw [Nat.zero_add] at m
  have M4 : ∀ i z, l[i]? = some z → MTc l (fun j => (s4.1 72 j).toInt) i z := fun i z hz => by
    have il := (List.getElem?_eq_some_iff.mp hz).1
    exact (m.2.2.2 i z (Nat.zero_le _) (by omega) hz).1.cg (r4 i)
  have A4 : ATX s4 l := ⟨by rw [f4.1 68 (by decide)]; exact n3, fun i x hx => by
    rw [f4.1 69 (by decide), f4.1 70 (by decide)]
    exact A3.2 i x hx⟩
  refine pc_cals (t_leaveOut hn (fun i z hz => (rn.at_ hz).1) A4 M4 o5 st (fun i z hz => (rn.at_ hz).2)) (fun s5 a5 => ?_)
  obtain ⟨f5, r5⟩ := a5
  have at_ : ∀ i, i < l.length → l[i]? = some l[i]! := fun i hi => by
    rw [List.getElem?_eq_getElem hi, getElem!_pos l i hi]
  refine pc_cals (t_close (n := l.length) (by rw [f5.1 68 (by decide)]; exact A4.1) (kpl l) (fun i hi => ?_)) (fun s6 a6 => ?_)
  · have hz := at_ i hi
    have q := r5 i _ hz
    have k11 := (rn.at_ hz).2
    constructor
    · intro z w
      have := q.1 z
      omega
    · exact fun z => Classical.byContradiction fun w => z (q.2 w)
  obtain ⟨f6, n6, r6⟩ := a6
  obtain ⟨f, K⟩ := kls_ex l
  have A6 : ATX s6 f := ⟨by rw [K.1]; exact n6, fun m x hm => by
    have jl := lt_len hm
    rw [K.1] at jl
    obtain ⟨i, i1, i2, i3⟩ := fb_ct_kth jl
    have hi : l[i]? = some l[i] := List.getElem?_eq_getElem i1
    have fi := K.2 i _ hi i2
    have i3 : ppl l i = m := i3
    rw [i3, hm] at fi
    have e := Option.some.inj fi
    obtain ⟨y1, y2, y3, y4⟩ := r6 i i1 i2
    have k5 := (r5 i _ hi).1 i2
    have p3 := r3 i _ hi
    rw [Nat.zero_add] at p3
    have i3 : fb_ct (kpl l) i = m := i3
    rw [i3] at y1 y2
    rw [e]
    refine ⟨by rw [y1]; exact k5, ?_⟩
    rw [y2, f5.1 70 (by decide), f4.1 70 (by decide)]
    exact p3.2.1⟩
  have hP : ∀ (i : Nat) (z : Ln), f[i]? = some z → 0 ≤ z.2.1 := fun m x hm => by
    have jl := lt_len hm
    rw [K.1] at jl
    obtain ⟨i, i1, i2, i3⟩ := fb_ct_kth jl
    have hi : l[i]? = some l[i] := List.getElem?_eq_getElem i1
    have fi := K.2 i _ hi i2
    have i3 : ppl l i = m := i3
    rw [i3, hm] at fi
    rw [Option.some.inj fi]
    exact (rn.at_ hi).1
  have fl : f.length ≤ 800 := by
    have := fb_ct_le (kpl l) l.length
    rw [K.1]
    unfold ppl
    omega
  refine pc_cals (t_match2 A6 fl hP) (fun s7 a7 => ?_)
  obtain ⟨f7, r7, m7⟩ := a7
  have sg := TEL.mt2 w1 (k0 := fun j => (s6.1 72 j).toInt) K t
  unfold SGM at sg
  rw [Nat.zero_add] at sg
  refine pc_ret ⟨f, fun j => (s6.1 72 j).toInt, K, fun m x hm => ?_, m7, r7⟩
  exact (sg.2.2.2 m x (Nat.zero_le _) (by have := lt_len hm; omega) hm).1.cg (r7 m)
