theorem i32_p2 {x : Int32} (h : 0 ≤ x.toInt ∧ x.toInt ≤ 2147483000) : (x + 2).toInt = x.toInt + 2 := by
  have k : (2 : Int32).toInt = 2 := by decide +kernel
  have := fb_addI (x := x) (y := 2) (by omega) (by omega)
  omega
/-- the class's breaks that are idle -/
theorem t_endsAnyway {τ : Sto} {l : List Ln} {x : Int32} {y : Ln} (hl8 : l.length ≤ 800) (hP : ∀ (i : Nat) (z : Ln), l[i]? = some z → 0 ≤ z.2.1) (h68 : (τ.1 68 0).toInt = (l.length : Int)) (hR : ∀ (i : Nat) (z : Ln), x.toNatClampNeg < i → l[i]? = some z → (τ.1 69 i).toInt = z.1 ∧ (τ.1 70 i).toInt = z.2.1 ∧ MTc l (fun j => (τ.1 72 j).toInt) i z) (hO : ON5 l) (hx : 0 ≤ x.toInt) (hy : l[x.toNatClampNeg]? = some y) (hb : (τ.1 70 x.toNatClampNeg).toInt = y.2.1) : PC (f_X2_endsAnyway x τ) (fun v => v ≠ 0 ↔ IDLE l y.2.1 (x.toNatClampNeg + 1)) := by
  have n1 : (1 : Int32) ≠ 0 := by decide
  have k_0 : (0 : Int32).toInt = 0 := by decide +kernel
  have k_2 : (2 : Int32).toInt = 2 := by decide +kernel
  have k_4 : (4 : Int32).toInt = 4 := by decide +kernel
  have k_5 : (5 : Int32).toInt = 5 := by decide +kernel
  have cx := clamp_I hx
  have xl := (List.getElem?_eq_some_iff.mp hy).1
  unfold f_X2_endsAnyway
  refine pc_lt fun x1 e1 => ?_
  have ex : x1.toInt = x.toInt + 1 := by rw [e1]; exact i1 (by omega)
  have c1x : x1.toNatClampNeg = x.toNatClampNeg + 1 := by have := clamp_I (x := x1) (by omega); omega
  refine pc_itr2 (fun a t => 0 ≤ t.toInt ∧ t.toInt + x.toInt + 1 ≤ a.toInt ∧ a.toInt ≤ 801 ∧ (IDLE l y.2.1 a.toNatClampNeg ↔ IDLE l y.2.1 (x.toNatClampNeg + 1))) ?_ ⟨by omega, by omega, by omega, by rw [c1x]⟩
  intro ag a t I ih
  obtain ⟨t0, ta, a8, hI⟩ := I
  have ca := clamp_I (x := a) (by omega)
  refine pc_ite (fun c1 => ?_) (fun c1 => ?_)
  · rw [fa_le, h68] at c1
    exact pc_ret ⟨fun z => absurd rfl z, fun z => absurd (hI.mpr z) (idl_x (by omega))⟩
  rw [fa_le, h68] at c1
  refine pc_ite (fun c2 => ?_) (fun c2 => ?_)
  · rw [fa_le, h68] at c2
    exact pc_ret ⟨fun z => absurd rfl z, fun z => absurd (hI.mpr z) (idl_x (by omega))⟩
  rw [fa_le, h68] at c2
  have al : a.toNatClampNeg < l.length := by omega
  have hz : l[a.toNatClampNeg]? = some l[a.toNatClampNeg] := List.getElem?_eq_getElem al
  generalize l[a.toNatClampNeg] = z at hz
  obtain ⟨r1, r2, r3⟩ := hR _ _ (by omega) hz
  have zp := hP _ _ hz
  refine pc_ix (fun _ => ?_)
  refine pc_lt fun v5 e5 => ?_
  refine pc_jnI1 (fun u => a.toInt + 1 ≤ u.toInt ∧ u.toInt ≤ 801 ∧ (IDLE l y.2.1 u.toNatClampNeg ↔ IDLE l y.2.1 a.toNatClampNeg)) (fun u hu => ?_) (fun k hk => ?_)
  · obtain ⟨u1, u2, u3⟩ := hu
    refine pc_lt fun x3 e3 => ?_
    have ex3 : x3.toInt = t.toInt + 1 := by rw [e3]; exact i1 (by omega)
    exact ih u x3 ⟨by omega, by omega, u2, u3.trans hI⟩
  · refine pc_ite (fun c3 => ?_) (fun c3 => ?_)
    · rw [fa_eq, k_4, e5, r1] at c3
      obtain ⟨j, j1, j2, j3⟩ := r3.2 c3
      have jl := (List.getElem?_eq_some_iff.mp j3).1
      have j2' : (τ.1 72 a.toNatClampNeg).toInt = (j : Int) := j2
      refine pc_ix (fun _ => ?_)
      refine pc_lt fun v9 e9 => ?_
      refine pc_lt fun x10 e10 => ?_
      have v9j : v9.toInt = (j : Int) := by rw [e9]; exact j2'
      have e10' : x10.toInt = (j : Int) + 1 := by rw [e10, i1 (by omega)]; omega
      have c10 : x10.toNatClampNeg = j + 1 := by have := clamp_I (x := x10) (by omega); omega
      refine hk x10 ⟨by omega, by omega, ?_⟩
      rw [c10]
      exact (idl_4 hz c3 zp hO j1 j3).symm
    · rw [fa_eq, k_4, e5, r1] at c3
      refine pc_ix (fun _ => ?_)
      refine pc_lt fun v11 e11 => ?_
      refine pc_ite (fun c4 => ?_) (fun c4 => ?_)
      · rw [fa_eq, k_5, e11, r1] at c4
        have lk := r3.1 c4
        have lk' : (τ.1 72 a.toNatClampNeg).toInt = z.2.2 ∨ (z.2.2 = 3 ∧ (τ.1 72 a.toNatClampNeg).toInt = 4) := lk
        refine pc_ix (fun _ => ?_)
        refine pc_lt fun v13 e13 => ?_
        refine pc_jnI0 (¬ (z.2.2 = 2 ∧ z.2.1 = y.2.1)) (fun hn => ?_) (fun k83 hk83 => ?_)
        · refine pc_lt fun x15 e15 => ?_
          have e15' : x15.toInt = a.toInt + 1 := by rw [e15]; exact i1 (by omega)
          have c15 : x15.toNatClampNeg = a.toNatClampNeg + 1 := by have := clamp_I (x := x15) (by omega); omega
          refine hk x15 ⟨by omega, by omega, ?_⟩
          rw [c15]
          exact (idl_n hz c4 hn).symm
        · refine pc_ite (fun c5 => ?_) (fun c5 => ?_)
          · rw [fa_eq, k_2, e13] at c5
            have z2 : z.2.2 = 2 := by omega
            refine pc_ix (fun _ => ?_)
            refine pc_lt fun v17 e17 => ?_
            refine pc_ix (fun _ => ?_)
            refine pc_lt fun v18 e18 => ?_
            refine pc_ite (fun c6 => ?_) (fun c6 => ?_)
            · rw [fa_eq, e17, e18, r2, hb] at c6
              exact pc_ret ⟨fun _ => hI.mp (idl_e hz c4 ⟨z2, c6⟩), fun _ => n1⟩
            · rw [fa_eq, e17, e18, r2, hb] at c6
              exact hk83 (fun w => c6 w.2)
          · rw [fa_eq, k_2, e13] at c5
            exact hk83 (fun w => by omega)
      · rw [fa_eq, k_5, e11, r1] at c4
        exact pc_ret ⟨fun w => absurd rfl w, fun w => absurd (hI.mpr w) (idl_o hz c3 c4)⟩
/-- lines that are marked as left out -/
theorem t_leaveOut {τ : Sto} {l : List Ln} (hl8 : l.length ≤ 800) (hP : ∀ (i : Nat) (z : Ln), l[i]? = some z → 0 ≤ z.2.1) (hA : ATX τ l) (hM : ∀ (i : Nat) (z : Ln), l[i]? = some z → MTc l (fun j => (τ.1 72 j).toInt) i z) (hO : ON5 l) (hS : STR l) (hK : ∀ (i : Nat) (z : Ln), l[i]? = some z → z.1 ≤ 11) : PC (f_X2_leaveOut τ) (fun s => FR [69] [] τ s ∧ ∀ i z, l[i]? = some z → (kpl l i = true → (s.1 69 i).toInt = z.1) ∧ (¬ kpl l i = true → (s.1 69 i).toInt = 12)) := by
  have k_0 : (0 : Int32).toInt = 0 := by decide +kernel
  have k_4 : (4 : Int32).toInt = 4 := by decide +kernel
  have k_6 : (6 : Int32).toInt = 6 := by decide +kernel
  have k_12 : (12 : Int32).toInt = 12 := by decide +kernel
  have c0 : (0 : Int32).toNatClampNeg = 0 := by have := clamp_I (x := 0) (by omega); omega
  have h68 := hA.1
  unfold f_X2_leaveOut
  refine pc_itr2 (fun x s => 0 ≤ x.toInt ∧ x.toInt ≤ (l.length : Int) ∧ FR [69] [] τ s ∧ ∀ i z, l[i]? = some z → ((i < x.toNatClampNeg ∧ OU1 l i) → (s.1 69 i).toInt = 12) ∧ (¬ (i < x.toNatClampNeg ∧ OU1 l i) → (s.1 69 i).toInt = z.1)) ?_ ⟨by omega, by omega, FR.rf, fun i z hz => ⟨fun w => by rw [c0] at w; exact absurd w.1 (Nat.not_lt_zero i), fun _ => (hA.2 i z hz).1⟩⟩
  intro ag x s I ih
  obtain ⟨x0, xl, f, h69⟩ := I
  have cx := clamp_I x0
  have f68 := f.1 68 (by decide)
  have f70 := f.1 70 (by decide)
  have f72 := f.1 72 (by decide)
  refine pc_ite (fun c1 => ?_) (fun c1 => ?_)
  · rw [fa_le, f68, h68] at c1
    have xe : x.toNatClampNeg = l.length := by omega
    have il : ∀ {i : Nat} {z : Ln}, l[i]? = some z → i < l.length := fun hz => (List.getElem?_eq_some_iff.mp hz).1
    have all : ∀ i z, l[i]? = some z → (OU1 l i → (s.1 69 i).toInt = 12) ∧ (¬ OU1 l i → (s.1 69 i).toInt = z.1) := fun i z hz => by
      have q := h69 i z hz
      have := il hz
      exact ⟨fun w => q.1 ⟨by omega, w⟩, fun w => q.2 (fun v => w v.2)⟩
    refine pc_itr2 (fun y u => 0 ≤ y.toInt ∧ y.toInt ≤ (l.length : Int) ∧ FR [69] [] τ u ∧ ∀ i z, l[i]? = some z → ((OU1 l i ∨ (i < y.toNatClampNeg ∧ OU2 l i)) → (u.1 69 i).toInt = 12) ∧ (¬ (OU1 l i ∨ (i < y.toNatClampNeg ∧ OU2 l i)) → (u.1 69 i).toInt = z.1)) ?_ ⟨by omega, by omega, f, fun i z hz => ⟨fun w => (all i z hz).1 (w.elim id (fun v => by rw [c0] at v; exact absurd v.1 (Nat.not_lt_zero i))), fun w => (all i z hz).2 (fun v => w (Or.inl v))⟩⟩
    intro ag2 y u I2 ih2
    obtain ⟨y0, yl, fu, u69⟩ := I2
    have cy := clamp_I y0
    have ey : (y + 1).toInt = y.toInt + 1 := i1 (by omega)
    have ny : (y + 1).toNatClampNeg = y.toNatClampNeg + 1 := by have := clamp_I (x := y + 1) (by omega); omega
    have g68' := fu.1 68 (by decide)
    have g72' := fu.1 72 (by decide)
    refine pc_ite (fun c2 => ?_) (fun c2 => ?_)
    · rw [fa_le, g68', h68, ey] at c2
      refine pc_ret ⟨fu, fun i z hz => ?_⟩
      have q := u69 i z hz
      have hi := il hz
      have last : OU2 l i → i < y.toNatClampNeg := fun ⟨_, v, v1, _⟩ => by
        have := il v1
        omega
      constructor
      · intro w
        obtain ⟨w1, w2⟩ := kpl_t.mp w
        exact q.2 (fun v => v.elim w1 (fun v => w2 v.2))
      · intro w
        refine q.1 (Classical.byContradiction fun v => w (kpl_t.mpr ⟨fun a => v (Or.inl a), fun a => v (Or.inr ⟨last a, a⟩)⟩))
    · rw [fa_le, g68', h68, ey] at c2
      have hy : l[y.toNatClampNeg]? = some l[y.toNatClampNeg] := List.getElem?_eq_getElem (by omega)
      generalize l[y.toNatClampNeg] = a at hy
      have hy1 : l[y.toNatClampNeg + 1]? = some l[y.toNatClampNeg + 1] := List.getElem?_eq_getElem (by omega)
      generalize l[y.toNatClampNeg + 1] = b at hy1
      have qa := u69 _ _ hy
      have qb := u69 _ _ hy1
      have b11 := hK _ _ hy1
      have xo : a.1 = 4 → ¬ OU1 l y.toNatClampNeg := fun h4 ⟨w, w1, w2, _⟩ => by
        rw [hy] at w1
        have e := Option.some.inj w1
        rw [← e] at w2
        omega
      have o4 : OU2 l y.toNatClampNeg ↔ a.1 = 4 ∧ OU1 l (y.toNatClampNeg + 1) := by
        constructor
        · rintro ⟨⟨w, w1, w2⟩, w3⟩
          rw [hy] at w1
          have e := Option.some.inj w1
          exact ⟨by rw [e]; exact w2, w3⟩
        · exact fun w => ⟨⟨a, hy, w.1⟩, w.2⟩
      refine pc_ix (fun _ => ?_)
      refine pc_lt fun v5 e5 => ?_
      refine pc_jnI1 (fun s6 => FR [69] [] τ s6 ∧ (∀ i, i ≠ y.toNatClampNeg → s6.1 69 i = u.1 69 i) ∧ (OU2 l y.toNatClampNeg → (s6.1 69 y.toNatClampNeg).toInt = 12) ∧ (¬ OU2 l y.toNatClampNeg → s6.1 69 y.toNatClampNeg = u.1 69 y.toNatClampNeg)) (fun s6 J => ?_) (fun k hk => ?_)
      · obtain ⟨j1, j3, j4, j5⟩ := J
        refine pc_lt fun x7 e7 => ?_
        subst e7
        refine ih2 (y + 1) s6 ⟨by omega, by omega, j1, fun i z hz => ?_⟩
        rw [ny]
        by_cases q : i = y.toNatClampNeg
        · rw [q] at hz ⊢
          rw [hy] at hz
          have e := Option.some.inj hz
          subst e
          by_cases w : OU2 l y.toNatClampNeg
          · exact ⟨fun _ => j4 w, fun v => absurd (Or.inr ⟨by omega, w⟩) v⟩
          · rw [j5 w]
            exact ⟨fun v => qa.1 (v.imp_right (fun v => absurd v.2 w)), fun v => qa.2 (fun r => v (r.imp_right (fun r => absurd r.2 w)))⟩
        · rw [j3 i q]
          have r := u69 i z hz
          exact ⟨fun v => r.1 (v.imp_right (fun v => ⟨by omega, v.2⟩)), fun v => r.2 (fun p => v (p.imp_right (fun p => ⟨by omega, p.2⟩)))⟩
      · have skip : ¬ OU2 l y.toNatClampNeg → PC (k u) _ := fun w => hk u ⟨fu, fun _ _ => rfl, fun v => absurd v w, fun _ => rfl⟩
        refine pc_ite (fun c3 => ?_) (fun c3 => ?_)
        · rw [fa_eq, k_4, e5] at c3
          have a4 : a.1 = 4 := by
            by_cases w : OU1 l y.toNatClampNeg
            · have := qa.1 (Or.inl w); omega
            · have := qa.2 (fun v => v.elim w (fun v => by omega)); omega
          refine pc_ix (fun _ => ?_)
          rw [ny]
          refine pc_lt fun v9 e9 => ?_
          refine pc_ite (fun c4 => ?_) (fun c4 => ?_)
          · rw [fa_eq, k_12, e9] at c4
            have o1 : OU1 l (y.toNatClampNeg + 1) := Classical.byContradiction fun w => by
              have := qb.2 (fun v => v.elim w (fun v => by omega))
              omega
            have w := o4.mpr ⟨a4, o1⟩
            obtain ⟨b', b1, b2, b3⟩ := hS y.toNatClampNeg a.2.1 a.2.2 (by rw [hy, ← a4])
            rw [hy1] at b1
            have e := Option.some.inj b1
            subst e
            obtain ⟨b'', d1, d2, _⟩ := id o1
            rw [hy1] at d1
            have e := Option.some.inj d1
            subst e
            have z5 := b3 d2
            obtain ⟨j, m1, m2, m3⟩ := (hM _ _ hy).2 a4
            have m2' : (τ.1 72 y.toNatClampNeg).toInt = (j : Int) := m2
            have ap := hP _ _ hy
            have ej := hO _ _ _ ap m3 z5
            have z5l := il z5
            have e2 : (y + 2).toInt = y.toInt + 2 := i32_p2 (by omega)
            refine pc_ix (fun _ => ?_)
            rw [g72']
            refine pc_lt fun v11 e11 => ?_
            refine pc_ite (fun c5 => ?_) (fun c5 => ?_)
            · refine pc_ix (fun _ => ?_)
              refine pc_lt fun s13 e13 => ?_
              refine hk s13 ⟨by rw [e13]; exact FR.st fu (by decide), fun i hi => by rw [e13, sti_if, if_neg hi], fun _ => by rw [e13, sti_s]; exact k_12, fun v => absurd w v⟩
            · rw [fa_eq, e11, m2', e2] at c5
              exact absurd (by omega) c5
          · rw [fa_eq, k_12, e9] at c4
            refine skip (fun w => c4 ?_)
            exact qb.1 (Or.inl (o4.mp w).2)
        · rw [fa_eq, k_4, e5] at c3
          refine skip (fun w => c3 ?_)
          have a4 := (o4.mp w).1
          rw [qa.2 (fun v => v.elim (xo a4) (fun v => by omega))]
          exact a4
  · rw [fa_le, f68, h68] at c1
    have hy : l[x.toNatClampNeg]? = some l[x.toNatClampNeg] := List.getElem?_eq_getElem (by omega)
    generalize l[x.toNatClampNeg] = y at hy
    have ex : (x + 1).toInt = x.toInt + 1 := i1 (by omega)
    have nx : (x + 1).toNatClampNeg = x.toNatClampNeg + 1 := by have := clamp_I (x := x + 1) (by omega); omega
    have q := (h69 _ _ hy).2 (fun w => by omega)
    have ou : OU1 l x.toNatClampNeg ↔ y.1 = 6 ∧ IDLE l y.2.1 (x.toNatClampNeg + 1) := by
      constructor
      · rintro ⟨w, w1, w2, w3⟩
        rw [hy] at w1
        have e := Option.some.inj w1
        subst e
        exact ⟨w2, w3⟩
      · exact fun w => ⟨y, hy, w⟩
    refine pc_ix (fun _ => ?_)
    refine pc_lt fun v14 e14 => ?_
    refine pc_jnI1 (fun s6 => FR [69] [] τ s6 ∧ (∀ i, i ≠ x.toNatClampNeg → s6.1 69 i = s.1 69 i) ∧ (OU1 l x.toNatClampNeg → (s6.1 69 x.toNatClampNeg).toInt = 12) ∧ (¬ OU1 l x.toNatClampNeg → s6.1 69 x.toNatClampNeg = s.1 69 x.toNatClampNeg)) (fun s6 J => ?_) (fun k hk => ?_)
    · obtain ⟨j1, j3, j4, j5⟩ := J
      refine pc_lt fun x16 e16 => ?_
      subst e16
      refine ih (x + 1) s6 ⟨by omega, by omega, j1, fun i z hz => ?_⟩
      rw [nx]
      by_cases r : i = x.toNatClampNeg
      · rw [r] at hz ⊢
        rw [hy] at hz
        have e := Option.some.inj hz
        subst e
        by_cases w : OU1 l x.toNatClampNeg
        · exact ⟨fun _ => j4 w, fun v => absurd ⟨by omega, w⟩ v⟩
        · rw [j5 w]
          exact ⟨fun v => absurd v.2 w, fun _ => q⟩
      · rw [j3 i r]
        have p := h69 i z hz
        exact ⟨fun v => p.1 ⟨by omega, v.2⟩, fun v => p.2 (fun w => v ⟨by omega, w.2⟩)⟩
    · have skip : ¬ OU1 l x.toNatClampNeg → PC (k s) _ := fun w => hk s ⟨f, fun _ _ => rfl, fun v => absurd v w, fun _ => rfl⟩
      refine pc_ite (fun c3 => ?_) (fun c3 => ?_)
      · rw [fa_eq, k_6, e14, q] at c3
        refine pc_calp (t_endsAnyway hl8 hP (by rw [f68]; exact h68) (fun i z hi hz => ⟨(h69 i z hz).2 (fun w => by omega), by rw [f70]; exact (hA.2 i z hz).2, by rw [f72]; exact hM i z hz⟩) hO x0 hy (by rw [f70]; exact (hA.2 _ _ hy).2)) (fun v18 h18 => ?_)
        refine pc_ite (fun c4 => skip (fun w => h18.mpr (ou.mp w).2 c4)) (fun c4 => ?_)
        refine pc_ix (fun _ => ?_)
        refine pc_lt fun s20 e20 => ?_
        exact hk s20 ⟨by rw [e20]; exact FR.st f (by decide), fun i hi => by rw [e20, sti_if, if_neg hi], fun _ => by rw [e20, sti_s]; exact k_12, fun v => absurd (ou.mpr ⟨c3, h18.mp c4⟩) v⟩
      · rw [fa_eq, k_6, e14, q] at c3
        exact skip (fun w => c3 (ou.mp w).1)
/-- those that are kept close up -/
theorem t_close {τ : Sto} {n : Nat} (h68 : (τ.1 68 0).toInt = (n : Int)) (p : Nat → Bool) (hp : ∀ i, i < n → (p i = true ↔ (τ.1 69 i).toInt ≠ 12)) : PC (f_X2_close τ) (fun s => FR [68, 69, 70, 71, 72] [] τ s ∧ (s.1 68 0).toInt = (fb_ct p n : Int) ∧ ∀ i, i < n → p i = true → s.1 69 (fb_ct p i) = τ.1 69 i ∧ s.1 70 (fb_ct p i) = τ.1 70 i ∧ s.1 71 (fb_ct p i) = τ.1 71 i ∧ s.1 72 (fb_ct p i) = τ.1 72 i) := by
  have k_0 : (0 : Int32).toInt = 0 := by decide +kernel
  have k_12 : (12 : Int32).toInt = 12 := by decide +kernel
  have c0 : (0 : Int32).toNatClampNeg = 0 := by have := clamp_I (x := 0) (by omega); omega
  unfold f_X2_close
  refine pc_itr3 (fun a b u => 0 ≤ b.toInt ∧ b.toInt ≤ (n : Int) ∧ a.toInt = (fb_ct p b.toNatClampNeg : Int) ∧ FR [69, 70, 71, 72] [] τ u ∧ (∀ k i, 69 ≤ k → k ≤ 72 → b.toNatClampNeg ≤ i → u.1 k i = τ.1 k i) ∧ ∀ k i, 69 ≤ k → k ≤ 72 → i < b.toNatClampNeg → p i = true → u.1 k (fb_ct p i) = τ.1 k i) ?_ ⟨by omega, by omega, by rw [c0]; exact k_0, FR.rf, fun _ _ _ _ _ => rfl, fun k i _ _ hi => by rw [c0] at hi; exact absurd hi (Nat.not_lt_zero i)⟩
  intro ag a b u I ih
  obtain ⟨b0, bn, ha, f, u3, u4⟩ := I
  have cb := clamp_I b0
  have e68 : u.1 68 = τ.1 68 := f.1 68 (by decide)
  have le2 : fb_ct p b.toNatClampNeg ≤ b.toNatClampNeg := fb_ct_le _ _
  have ca : (a.toNatClampNeg : Int) = a.toInt := clamp_I (by omega)
  refine pc_ite (fun c1 => ?_) (fun c1 => ?_)
  · rw [fa_le, e68, h68] at c1
    have eb : b.toNatClampNeg = n := by omega
    refine pc_lt fun s3 e3 => ?_
    rw [eb] at ha u4
    refine pc_ret ⟨by rw [e3]; exact FR.st (FR.cal FR.rf f rfl rfl) (by decide), by rw [e3, sti_s]; exact ha, fun i hi hk => ?_⟩
    have o : ∀ k, 69 ≤ k → k ≤ 72 → s3.1 k (fb_ct p i) = τ.1 k i := fun k k1 k2 => by
      rw [e3, sti_o (by omega)]
      exact u4 k i k1 k2 hi hk
    exact ⟨o 69 (by omega) (by omega), o 70 (by omega) (by omega), o 71 (by omega) (by omega), o 72 (by omega) (by omega)⟩
  · rw [fa_le, e68, h68] at c1
    have bl : b.toNatClampNeg < n := by omega
    have pb := hp _ bl
    refine pc_ix (fun ib => ?_)
    have nb : (b + 1).toInt = b.toInt + 1 ∧ (b + 1).toNatClampNeg = b.toNatClampNeg + 1 := by
      have h1 : (b + 1).toInt = b.toInt + 1 := i1 (by omega)
      have h2 := clamp_I (x := b + 1) (by omega)
      exact ⟨h1, by omega⟩
    refine pc_lt fun v4 e4 => ?_
    rw [u3 69 b.toNatClampNeg (by omega) (by omega) (Nat.le_refl _)] at e4
    refine pc_jn ?_
    refine pc_ite (fun c2 => ?_) (fun c2 => ?_)
    · rw [fa_eq, k_12, e4] at c2
      have np : ¬ p b.toNatClampNeg = true := fun z => pb.mp z c2
      have ks : fb_ct p (b.toNatClampNeg + 1) = fb_ct p b.toNatClampNeg := by rw [fb_ct_succ, if_neg np, Nat.add_zero]
      refine pc_lt fun x6 e6 => ?_
      subst e6
      refine ih a (b + 1) u ⟨by omega, by omega, by rw [nb.2, ks]; exact ha, f, fun k i k1 k2 hi => u3 k i k1 k2 (by rw [nb.2] at hi; omega), fun k i k1 k2 hi hk => ?_⟩
      rw [nb.2] at hi
      by_cases q : i = b.toNatClampNeg
      · rw [q] at hk; exact absurd hk np
      · exact u4 k i k1 k2 (by omega) hk
    · rw [fa_eq, k_12, e4] at c2
      have py : p b.toNatClampNeg = true := pb.mpr c2
      have ks : fb_ct p (b.toNatClampNeg + 1) = fb_ct p b.toNatClampNeg + 1 := by rw [fb_ct_succ, if_pos py]
      refine pc_ix (fun _ => ?_)
      refine pc_lt fun v8 e8 => ?_
      refine pc_ix (fun _ => ?_)
      refine pc_lt fun s9 e9 => ?_
      refine pc_ix (fun _ => ?_)
      refine pc_lt fun v10 e10 => ?_
      refine pc_ix (fun _ => ?_)
      refine pc_lt fun s11 e11 => ?_
      refine pc_ix (fun _ => ?_)
      refine pc_lt fun v12 e12 => ?_
      refine pc_ix (fun _ => ?_)
      refine pc_lt fun s13 e13 => ?_
      refine pc_ix (fun _ => ?_)
      refine pc_lt fun v14 e14 => ?_
      refine pc_ix (fun _ => ?_)
      refine pc_lt fun s15 e15 => ?_
      refine pc_lt fun x16 e16 => ?_
      have ex : x16.toInt = a.toInt + 1 := by rw [e16]; exact i1 (by omega)
      refine pc_lt fun x6 e6 => ?_
      subst e6
      rw [show s9.1 70 = u.1 70 by rw [e9, sti_o (by decide)]] at e10
      rw [show s11.1 71 = u.1 71 by rw [e11, sti_o (by decide), e9, sti_o (by decide)]] at e12
      rw [show s13.1 72 = u.1 72 by rw [e13, sti_o (by decide), e11, sti_o (by decide), e9, sti_o (by decide)]] at e14
      have F15 : FR [69, 70, 71, 72] [] τ s15 := by
        rw [e15]; refine FR.st ?_ (by decide)
        rw [e13]; refine FR.st ?_ (by decide)
        rw [e11]; refine FR.st ?_ (by decide)
        rw [e9]; exact FR.st f (by decide)
      have r69 : ∀ j, s15.1 69 j = if j = a.toNatClampNeg then u.1 69 b.toNatClampNeg else u.1 69 j := fun j => by
        rw [e15, sti_o (by decide), e13, sti_o (by decide), e11, sti_o (by decide), e9, sti_if, e8]
      have r70 : ∀ j, s15.1 70 j = if j = a.toNatClampNeg then u.1 70 b.toNatClampNeg else u.1 70 j := fun j => by
        rw [e15, sti_o (by decide), e13, sti_o (by decide), e11, sti_if, e9, sti_o (by decide), e10]
      have r71 : ∀ j, s15.1 71 j = if j = a.toNatClampNeg then u.1 71 b.toNatClampNeg else u.1 71 j := fun j => by
        rw [e15, sti_o (by decide), e13, sti_if, e11, sti_o (by decide), e9, sti_o (by decide), e12]
      have r72 : ∀ j, s15.1 72 j = if j = a.toNatClampNeg then u.1 72 b.toNatClampNeg else u.1 72 j := fun j => by
        rw [e15, sti_if, e13, sti_o (by decide), e11, sti_o (by decide), e9, sti_o (by decide), e14]
      have ln : ∀ k j, 69 ≤ k → k ≤ 72 → s15.1 k j = if j = a.toNatClampNeg then u.1 k b.toNatClampNeg else u.1 k j := fun k j k1 k2 => by
        by_cases z1 : k = 69
        · subst z1; exact r69 j
        · by_cases z2 : k = 70
          · subst z2; exact r70 j
          · by_cases z3 : k = 71
            · subst z3; exact r71 j
            · have z4 : k = 72 := by omega
              subst z4; exact r72 j
      refine ih x16 (b + 1) s15 ⟨by omega, by omega, by rw [nb.2, ks]; omega, F15, fun k i k1 k2 hi => ?_, fun k i k1 k2 hi hk => ?_⟩
      · rw [nb.2] at hi
        rw [ln k i k1 k2, if_neg (by omega)]
        exact u3 k i k1 k2 (by omega)
      · rw [nb.2] at hi
        by_cases q : i = b.toNatClampNeg
        · rw [q, ln k _ k1 k2, if_pos (by omega)]
          exact u3 k _ k1 k2 (Nat.le_refl _)
        · have il : i < b.toNatClampNeg := by omega
          have lt1 : fb_ct p (i + 1) = fb_ct p i + 1 := by rw [fb_ct_succ, if_pos hk]
          have lt2 := fb_ct_mono p (m := i + 1) (n := b.toNatClampNeg) (by omega)
          rw [ln k _ k1 k2, if_neg (by omega)]
          exact u4 k i k1 k2 il hk
