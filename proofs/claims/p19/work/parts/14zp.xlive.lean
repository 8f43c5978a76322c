abbrev lvX (σ : Sto) (L : Nat → Int32) (b : Nat) : Int32 := lvF (EVx σ) (ri (σ.1 6)) (σ.1 7) (fiN σ) (laN σ) (ri (σ.1 26)) L b
abbrev LDX (σ : Sto) (L : Nat → Int32) (b i : Nat) : Prop := LVD (EVx σ) (ri (σ.1 6)) (σ.1 7) (laN σ) (ri (σ.1 26)) L b i
/-- a block's edges stand together -/
def FEX (σ : Sto) (b : Nat) : Prop := 0 ≤ (σ.1 28 b).toInt ∧ (σ.1 28 b).toInt ≤ (σ.1 27 0).toInt ∧ (σ.1 28 (b + 1)).toInt ≤ (σ.1 27 0).toInt ∧ ∀ e : Nat, (e : Int) < (σ.1 27 0).toInt → (((σ.1 28 b).toInt ≤ e ↔ (b : Int) ≤ (σ.1 29 e).toInt) ∧ ((σ.1 28 (b + 1)).toInt ≤ e ↔ (b : Int) + 1 ≤ (σ.1 29 e).toInt))
def FIL (σ : Sto) (b : Nat) : Prop := 0 ≤ (σ.1 21 b).toInt ∧ (σ.1 21 b).toInt ≤ (σ.1 22 b).toInt
/-- dead from a place on -/
def DDX (σ u : Sto) (b : Nat) (j : Int) : Prop := ∀ i : Nat, bL (u.2 6 0) i = true ↔ (bL (σ.2 6 0) i = true ∨ (j < (i : Int) ∧ i ≤ laN σ b ∧ LDX σ (σ.1 66) b i))
theorem DDX.cg {σ u w : Sto} {b : Nat} {j : Int} (h : DDX σ u b j) (e : w.2 6 = u.2 6) : DDX σ w b j := fun i => by rw [e]; exact h i
def FTX (σ s : Sto) (b : Nat) : Prop := FR [66, 67] [6] σ s ∧ s.1 66 b = lvX σ (σ.1 66) b ∧ (∀ c, c ≠ b → s.1 66 c = σ.1 66 c) ∧ DDX σ s b ((fiN σ b : Int) - 1) ∧ s.1 67 b = bhF (EVx σ) (σ.1 66) b (EVx σ).1 ∧ ∀ c, c ≠ b → s.1 67 c = σ.1 67 c
theorem t_X4_flowThrough {x1 : Int32} {b : Nat} {σ : Sto} (hx : 0 ≤ x1.toInt) (hb : x1.toNatClampNeg = b) (hE : FEX σ b) (hF : FIL σ b) : PC (f_X4_flowThrough x1 σ) (fun s => FTX σ s b) := by
  have k_0 : (0 : Int32).toInt = 0 := by decide +kernel
  have k_m1 : ((-1) : Int32).toInt = -1 := by decide +kernel
  have k_108 : (108 : Int32).toInt = 108 := by decide +kernel
  have k_115 : (115 : Int32).toInt = 115 := by decide +kernel
  have cx := clamp_I hx
  obtain ⟨a1, a2, a3, a4⟩ := hE
  obtain ⟨f1, f2⟩ := hF
  unfold f_X4_flowThrough
  rw [hb] at cx
  rw [hb]
  refine pc_ix (fun ib => ?_)
  have c1 : (x1 + 1).toInt = x1.toInt + 1 := i1 (by omega)
  have cx1 : (x1 + 1).toNatClampNeg = b + 1 := by
    have := clamp_I (x := x1 + 1) (by omega)
    omega
  refine pc_lt fun s1 e1 => ?_
  refine pc_ix (fun _ => ?_)
  refine pc_lt fun v2 e2 => ?_
  have F1 : FR [67] [] σ s1 := by rw [e1]; exact FR.st FR.rf (by decide)
  have e28 : s1.1 28 = σ.1 28 := F1.1 28 (by decide)
  rw [e28] at e2
  have z2 : bhF (EVx σ) (σ.1 66) b v2.toNatClampNeg = 0 := by
    have hz := bhF_no (V := EVx σ) (L := σ.1 66) (b := b) (n := 0) v2.toNatClampNeg (fun k _ hk => by
      have cv := clamp_I (x := v2) (by rw [e2]; exact a1)
      rw [e2] at cv hk
      have hk2 : (k : Int) < (σ.1 27 0).toInt := by omega
      have q := (a4 k hk2).1
      show (σ.1 29 k).toInt ≠ (b : Int)
      omega)
    rw [Nat.zero_add] at hz
    exact hz
  refine pc_itr2 (fun e t => 0 ≤ e.toInt ∧ (σ.1 28 b).toInt ≤ e.toInt ∧ e.toInt ≤ (σ.1 27 0).toInt ∧ FR [67] [] σ t ∧ t.1 67 b = bhF (EVx σ) (σ.1 66) b e.toNatClampNeg ∧ ∀ c, c ≠ b → t.1 67 c = σ.1 67 c) ?_ ⟨by rw [e2]; exact a1, by rw [e2]; exact Int.le_refl _, by rw [e2]; exact a2, F1, by rw [z2, e1]; exact sti_s _ _ _ _, fun c hc => by rw [e1]; exact sti_j hc⟩
  intro ag e t I ih
  obtain ⟨i0, i1_, i2, i3, i4, i5⟩ := I
  have ft : ∀ {k : Nat}, k ≠ 67 → t.1 k = σ.1 k := fun {k} hk => i3.1 k (by simp [hk])
  have ce := clamp_I i0
  refine pc_ix (fun _ => ?_)
  rw [ft (show (28 : Nat) ≠ 67 by decide), cx1]
  refine pc_lt fun v4 e4 => ?_
  refine pc_ite (fun c => ?_) (fun c => ?_)
  · rw [fa_le, e4] at c
    have BH : t.1 67 b = bhF (EVx σ) (σ.1 66) b (EVx σ).1 := by
      have hE1 : (EVx σ).1 = (σ.1 27 0).toInt.toNat := rfl
      have hz := bhF_no (V := EVx σ) (L := σ.1 66) (b := b) (n := e.toNatClampNeg) ((EVx σ).1 - e.toNatClampNeg) (fun k h1 h2 => by
        rw [hE1] at h2
        have hk2 : (k : Int) < (σ.1 27 0).toInt := by omega
        have q := (a4 k hk2).2
        show (σ.1 29 k).toInt ≠ (b : Int)
        omega)
      rw [show e.toNatClampNeg + ((EVx σ).1 - e.toNatClampNeg) = (EVx σ).1 by rw [hE1]; omega] at hz
      rw [hz]; exact i4
    refine pc_ix (fun _ => ?_)
    rw [ft (show (26 : Nat) ≠ 67 by decide)]
    refine pc_lt fun v6 e6 => ?_
    refine pc_jnI1 (fun h => h = hdF (ri (σ.1 26)) (σ.1 66) b) (fun h eh => ?_) (fun k hk => ?_)
    · refine pc_ix (fun _ => ?_)
      refine pc_lt fun v8 e8 => ?_
      refine pc_ix (fun _ => ?_)
      rw [ft (show (22 : Nat) ≠ 67 by decide)]
      refine pc_lt fun v9 e9 => ?_
      have eB : v8 = bhF (EVx σ) (σ.1 66) b (EVx σ).1 := by rw [e8]; exact BH
      have cl := clamp_I (x := σ.1 22 b) (by omega)
      have cf := clamp_I (x := σ.1 21 b) (by omega)
      have hla : (laN σ b : Int) = (σ.1 22 b).toInt := cl
      have hfi : (fiN σ b : Int) = (σ.1 21 b).toInt := cf
      refine pc_itr3 (fun S j u => (fiN σ b : Int) - 1 ≤ j.toInt ∧ j.toInt ≤ (laN σ b : Int) ∧ FR [67] [6] σ u ∧ u.1 67 = t.1 67 ∧ S = goF (ri (σ.1 6)) (σ.1 7) h (laN σ b) ((laN σ b : Int) - j.toInt).toNat v8 ∧ DDX σ u b j.toInt) ?_ ⟨by rw [e9]; omega, by rw [e9]; omega, FR.cal FR.rf i3 rfl rfl, rfl, ?_, ?_⟩
      · intro ag2 S j u I ih2
        obtain ⟨j0, j1, j2, j67, j3, j4⟩ := I
        have fu : ∀ {k : Nat}, k ≠ 67 → u.1 k = σ.1 k := fun {k} hk => j2.1 k (by simp [hk])
        refine pc_ix (fun _ => ?_)
        rw [fu (show (21 : Nat) ≠ 67 by decide)]
        refine pc_lt fun v11 e11 => ?_
        refine pc_ite (fun c2 => ?_) (fun c2 => ?_)
        · rw [fa_lt, e11] at c2
          have ej : j.toInt = (fiN σ b : Int) - 1 := by omega
          refine pc_ix (fun _ => ?_)
          refine pc_lt fun s13 e13 => ?_
          have G : S = goF (ri (σ.1 6)) (σ.1 7) h (laN σ b) (laN σ b + 1 - fiN σ b) v8 := by
            rw [j3, show ((laN σ b : Int) - j.toInt).toNat = laN σ b + 1 - fiN σ b by omega]
          refine pc_ret ⟨by rw [e13]; exact FR.st (FR.cal FR.rf j2 rfl rfl) (by decide), ?_, fun c hc => ?_, ?_, ?_, fun c hc => ?_⟩
          · rw [e13, sti_s, G, eB, eh]; rfl
          · rw [e13, sti_j hc, fu (show (66 : Nat) ≠ 67 by decide)]
          · rw [← ej]
            exact j4.cg (by rw [e13]; rfl)
          · rw [e13, sti_o (by decide), j67, BH]
          · rw [e13, sti_o (by decide), j67]; exact i5 c hc
        · rw [fa_lt, e11] at c2
          have cj := clamp_I (x := j) (by omega)
          have em : ∀ x12 : Int32, x12 = j + (-1) → x12.toInt = j.toInt - 1 := fun x12 e12 => by rw [e12]; have := tI_rng j; exact i_m1 (by omega) (by omega)
          have lm : laN σ b - ((laN σ b : Int) - j.toInt).toNat = j.toNatClampNeg := by omega
          have lm2 : laN σ b - j.toNatClampNeg = ((laN σ b : Int) - j.toInt).toNat := by omega
          refine pc_ix (fun ij => ?_)
          rw [fu (show (7 : Nat) ≠ 67 by decide)]
          refine pc_lt fun v14 e14 => ?_
          refine pc_lt fun x5 e5 => ?_
          have E5 : x5 = mkI (σ.1 7 j.toNatClampNeg) := by rw [e5, e14]; rfl
          refine pc_ix (fun _ => ?_)
          rw [fu (show (6 : Nat) ≠ 67 by decide)]
          refine pc_lt fun v16 e16 => ?_
          have LD : LDX σ (σ.1 66) b j.toNatClampNeg ↔ ((σ.1 6 j.toNatClampNeg).toInt = 115 ∧ S &&& x5 = 0) := by
            show ((σ.1 6 j.toNatClampNeg).toInt = 115 ∧ _) ↔ _
            rw [lm2, E5, j3, eB, eh]
          refine pc_jnI2 (fun T w => FR [67] [6] σ w ∧ w.1 67 = t.1 67 ∧ T = stF (σ.1 6 j.toNatClampNeg).toInt (σ.1 7 j.toNatClampNeg) h S ∧ DDX σ w b (j.toInt - 1)) (fun T w J => ?_) (fun k2 hk2 => ?_)
          · obtain ⟨w1, w67, w2, w3⟩ := J
            refine pc_lt fun x18 e18 => ?_
            have ex := em x18 e18
            refine ih2 T x18 w ⟨by omega, by omega, w1, w67, ?_, by rw [ex]; exact w3⟩
            rw [w2, ex, show ((laN σ b : Int) - (j.toInt - 1)).toNat = ((laN σ b : Int) - j.toInt).toNat + 1 by omega, goF_s, lm, ← j3]
            rfl
          · refine pc_ite (fun c3 => ?_) (fun c3 => ?_)
            · rw [fa_eq, k_108, e16] at c3
              refine pc_lt fun x20 e20 => ?_
              refine hk2 x20 u ⟨j2, j67, ?_, ddn j4 rfl cj (fun z => ?_)⟩
              · unfold stF
                rw [if_neg (by omega), if_pos c3, e20, E5]
              · have := (LD.mp z).1
                omega
            · rw [fa_eq, k_108, e16] at c3
              refine pc_ix (fun _ => ?_)
              refine pc_lt fun v21 e21 => ?_
              refine pc_ite (fun c4 => ?_) (fun c4 => ?_)
              · rw [fa_eq, k_115, e21] at c4
                refine pc_jnI1 (fun w => FR [67] [6] σ w ∧ w.1 67 = t.1 67 ∧ DDX σ w b (j.toInt - 1)) (fun w J => ?_) (fun k3 hk3 => ?_)
                · refine pc_lt fun x24 e24 => ?_
                  refine hk2 x24 w ⟨J.1, J.2.1, ?_, J.2.2⟩
                  unfold stF
                  rw [if_pos c4, e24, E5]
                · refine pc_ite (fun c5 => ?_) (fun c5 => ?_)
                  · refine pc_lt fun s26 e26 => ?_
                    refine hk3 s26 ⟨by rw [e26]; exact FR.stl j2 (by decide), by rw [e26]; exact j67, ?_⟩
                    refine ddy (B := fun i => bL (s26.2 6 0) i = true) j4 rfl cj (by omega) (LD.mpr ⟨c4, c5⟩) (fun i => ?_)
                    show bL (s26.2 6 0) i = true ↔ (bL (u.2 6 0) i = true ∨ i = j.toNatClampNeg)
                    rw [e26, stl_s, bL_set (v := j) (by omega) (by omega), Bool.or_eq_true, decide_eq_true_eq]
                  · exact hk3 u ⟨j2, j67, ddn j4 rfl cj (fun z => c5 (LD.mp z).2)⟩
              · rw [fa_eq, k_115, e21] at c4
                refine hk2 S u ⟨j2, j67, ?_, ddn j4 rfl cj (fun z => c4 (LD.mp z).1)⟩
                unfold stF
                rw [if_neg c4, if_neg c3]
      · rw [e9, show ((laN σ b : Int) - (σ.1 22 b).toInt).toNat = 0 by omega]; rfl
      · intro i
        rw [e9, i3.2 6 (by decide)]
        constructor
        · exact fun z => Or.inl z
        · rintro (z | ⟨z1, z2, _⟩)
          · exact z
          · omega
    · refine pc_ite (fun c2 => ?_) (fun c2 => ?_)
      · rw [fa_eq, k_m1, e6] at c2
        refine hk 0 ?_
        unfold hdF ri
        rw [if_pos c2]
      · rw [fa_eq, k_m1, e6] at c2
        refine pc_ix (fun _ => ?_)
        refine pc_lt fun v28 e28 => ?_
        refine pc_ix (fun _ => ?_)
        rw [ft (show (66 : Nat) ≠ 67 by decide)]
        refine pc_lt fun v29 e29 => ?_
        refine hk v29 ?_
        unfold hdF ri
        rw [if_neg c2, e29, e28]
        rfl
  · rw [fa_le, e4] at c
    have hen : (e.toNatClampNeg : Int) < (σ.1 27 0).toInt := by omega
    have q := a4 e.toNatClampNeg hen
    have src : (σ.1 29 e.toNatClampNeg).toInt = (b : Int) := by omega
    have ex : (e + 1).toInt = e.toInt + 1 := i1 (by have := tI_rng (σ.1 27 0); omega)
    have cxe : (e + 1).toNatClampNeg = e.toNatClampNeg + 1 := by
      have := clamp_I (x := e + 1) (by omega)
      omega
    refine pc_ix (fun _ => ?_)
    refine pc_lt fun v30 e30 => ?_
    refine pc_ix (fun _ => ?_)
    rw [ft (show (30 : Nat) ≠ 67 by decide)]
    refine pc_lt fun v31 e31 => ?_
    refine pc_ix (fun _ => ?_)
    rw [ft (show (66 : Nat) ≠ 67 by decide)]
    refine pc_lt fun v32 e32 => ?_
    refine pc_ix (fun _ => ?_)
    refine pc_lt fun s33 e33 => ?_
    refine pc_lt fun x34 e34 => ?_
    subst e34
    refine ih (e + 1) s33 ⟨by omega, by omega, by omega, by rw [e33]; exact FR.st i3 (by decide), ?_, fun c hc => by rw [e33, sti_j hc]; exact i5 c hc⟩
    rw [cxe, bhF_s, e33, sti_s, e30, i4, if_pos (show (EVx σ).2.1 e.toNatClampNeg = (b : Int) from src), e32, e31]
    rfl
abbrev nX (σ : Sto) : Nat := (σ.1 20 0).toInt.toNat
theorem fiN_cg {σ s : Sto} (e : s.1 21 = σ.1 21) : fiN s = fiN σ := by
  funext b
  unfold fiN
  rw [e]
theorem X66.cg {σ s : Sto} (f : FR [66, 67] [6] σ s) : EVx s = EVx σ ∧ s.1 6 = σ.1 6 ∧ s.1 7 = σ.1 7 ∧ fiN s = fiN σ ∧ laN s = laN σ ∧ s.1 26 = σ.1 26 := ⟨EVw.cg (f.1 27 (by decide)) (f.1 29 (by decide)) (f.1 30 (by decide)) (f.1 31 (by decide)), f.1 6 (by decide), f.1 7 (by decide), fiN_cg (f.1 21 (by decide)), laN_cg (f.1 22 (by decide)), f.1 26 (by decide)⟩
/-- a block on the way, told of the start -/
def FTY (σ s t : Sto) (b : Nat) : Prop := FR [66, 67] [6] σ t ∧ t.1 66 b = lvX σ (s.1 66) b ∧ (∀ c, c ≠ b → t.1 66 c = s.1 66 c) ∧ (∀ i : Nat, bL (t.2 6 0) i = true ↔ (bL (s.2 6 0) i = true ∨ ((fiN σ b : Int) - 1 < (i : Int) ∧ i ≤ laN σ b ∧ LDX σ (s.1 66) b i))) ∧ t.1 67 b = bhF (EVx σ) (s.1 66) b (EVx σ).1 ∧ ∀ c, c ≠ b → t.1 67 c = s.1 67 c
theorem t_flowT {σ s : Sto} {x1 : Int32} {b : Nat} (f : FR [66, 67] [6] σ s) (hx : 0 ≤ x1.toInt) (hb : x1.toNatClampNeg = b) (hE : FEX σ b) (hF : FIL σ b) : PC (f_X4_flowThrough x1 s) (fun t => FTY σ s t b) := by
  obtain ⟨g1, g2, g3, g4, g5, g6⟩ := X66.cg f
  have E2 : FEX s b := by
    unfold FEX
    rw [f.1 27 (by decide), f.1 28 (by decide), f.1 29 (by decide)]
    exact hE
  have F2 : FIL s b := by
    unfold FIL
    rw [f.1 21 (by decide), f.1 22 (by decide)]
    exact hF
  refine pc_imp (t_X4_flowThrough hx hb E2 F2) (fun t q => ?_)
  obtain ⟨q1, q2, q3, q4, q5, q6⟩ := q
  unfold DDX LDX at q4
  unfold lvX at q2
  rw [g1, g2, g3, g4, g5, g6] at q2
  rw [g1, g2, g3, g4, g5, g6] at q4
  rw [g1] at q5
  exact ⟨FR.cal f q1 rfl rfl, q2, q3, q4, q5, q6⟩
def FIN (σ u : Sto) (j : Int) : Prop := (∀ c : Nat, j < (c : Int) → c < nX σ → lvX σ (u.1 66) c = u.1 66 c ∧ u.1 67 c = bhF (EVx σ) (u.1 66) c (EVx σ).1) ∧ ∀ i : Nat, bL (u.2 6 0) i = true ↔ ∃ c : Nat, j < (c : Int) ∧ c < nX σ ∧ fiN σ c ≤ i ∧ i ≤ laN σ c ∧ LDX σ (u.1 66) c i
abbrev LINx (σ u : Sto) : Prop := LIN (EVx σ) (ri (σ.1 6)) (σ.1 7) (fiN σ) (laN σ) (ri (σ.1 26)) (nX σ) (u.1 66)
abbrev LFXx (σ u : Sto) : Prop := LFX (EVx σ) (ri (σ.1 6)) (σ.1 7) (fiN σ) (laN σ) (ri (σ.1 26)) (nX σ) (u.1 66)
/-- what flow lays -/
def FLX (σ u : Sto) : Prop := LFXx σ u ∧ FIN σ u (-1)
theorem FIN.nx {σ u t : Sto} {j j2 : Int} {b : Nat} (h : FIN σ u j) (q : FTY σ u t b) (e : (b : Int) = j) (e2 : j2 = j - 1) (hb : b < nX σ) (hs : t.1 66 b = u.1 66 b) : FIN σ t j2 := by
  obtain ⟨q1, q2, q3, q4, q5, q6⟩ := q
  have e66 : t.1 66 = u.1 66 := funext fun c => by
    by_cases z : c = b
    · rw [z]; exact hs
    · exact q3 c z
  refine ⟨fun c h1 h2 => ?_, fun i => ?_⟩
  · rw [e66]
    by_cases z : c = b
    · subst z
      exact ⟨q2.symm.trans hs, q5⟩
    · rw [q6 c z]
      exact h.1 c (by omega) h2
  · rw [q4 i, h.2 i, e66]
    constructor
    · rintro (⟨c, z1, z2, z3⟩ | ⟨z1, z2, z3⟩)
      · exact ⟨c, by omega, z2, z3⟩
      · exact ⟨b, by omega, hb, by omega, z2, z3⟩
    · rintro ⟨c, z1, z2, z3, z4, z5⟩
      by_cases z : c = b
      · subst z
        exact Or.inr ⟨by omega, z4, z5⟩
      · exact Or.inl ⟨c, by omega, z2, z3, z4, z5⟩
theorem t_X4_flow {σ : Sto} (hn0 : 0 ≤ (σ.1 20 0).toInt) (hn : (σ.1 20 0).toInt ≤ 40) (hE : ∀ b, b < nX σ → FEX σ b) (hF : ∀ b, b < nX σ → FIL σ b) (hR : RGL (EVx σ) (ri (σ.1 26)) (nX σ)) : PC (f_X4_flow σ) (fun s => FR [66, 67] [6] σ s ∧ FLX σ s) := by
  have k_0 : (0 : Int32).toInt = 0 := by decide +kernel
  have k_M : (1000000 : Int32).toInt = 1000000 := by decide +kernel
  have n1 : (1 : Int32) ≠ 0 := by decide
  have hN : (nX σ : Int) = (σ.1 20 0).toInt := Int.toNat_of_nonneg hn0
  unfold f_X4_flow
  refine pc_itr2 (fun x s => 0 ≤ x.toInt ∧ FR [66, 67] [6] σ s ∧ ∀ c : Nat, (c : Int) < x.toInt → s.1 66 c = 0) ?_ ⟨by omega, FR.rf, fun c hc => by omega⟩
  intro ag x s I ih
  obtain ⟨x0, f, z⟩ := I
  have cx := clamp_I x0
  have f20 : s.1 20 = σ.1 20 := f.1 20 (by decide)
  refine pc_ite (fun c => ?_) (fun c => ?_)
  · rw [fa_le, f20] at c
    refine pc_itr3 (fun g r t => FR [66, 67] [6] σ t ∧ LINx σ t ∧ ((g = 0 ∧ FLX σ t) ∨ (g = 1 ∧ 0 ≤ r.toInt ∧ r.toInt ≤ (LSF (nX σ) (t.1 66) : Int)))) ?_ ⟨f, LIN.z (fun b hb => z b (by omega)), Or.inr ⟨rfl, by omega, by omega⟩⟩
    intro ag2 g r t I2 ih2
    obtain ⟨f2, hL, hg⟩ := I2
    have bd := LSF_bd (nb := nX σ) (L := t.1 66)
    refine pc_ite (fun c2 => ?_) (fun c2 => ?_)
    · rw [fa_le, k_M] at c2
      rcases hg with ⟨_, h⟩ | ⟨_, h0, h1⟩
      · exact pc_ret ⟨f2, h⟩
      · exfalso; omega
    rw [fa_le, k_M] at c2
    refine pc_ite (fun c3 => ?_) (fun c3 => ?_)
    · rcases hg with ⟨_, h⟩ | ⟨h, _⟩
      · exact pc_ret ⟨f2, h⟩
      · exact absurd (h.symm.trans c3) n1
    obtain ⟨_, r0, r1⟩ := hg.resolve_left (fun q => c3 q.1)
    refine pc_lt fun s6 e6 => ?_
    have f6 : FR [66, 67] [6] σ s6 := by rw [e6]; exact FR.stl f2 (by decide)
    have g66 : s6.1 66 = t.1 66 := by rw [e6]; rfl
    refine pc_lt fun x7 e7 => ?_
    have v7 : x7.toInt = (nX σ : Int) - 1 := by
      rw [e7, f6.1 20 (by decide)]
      have := i_sub (x := σ.1 20 0) (k := 1) (by decide) (by omega)
      rw [show (nI 1) = (1 : Int32) by decide +kernel] at this
      omega
    refine pc_itr3 (fun g2 j u => -1 ≤ j.toInt ∧ j.toInt < (nX σ : Int) ∧ FR [66, 67] [6] σ u ∧ LINx σ u ∧ LSF (nX σ) (t.1 66) ≤ LSF (nX σ) (u.1 66) ∧ ((g2 = 1 ∧ LSF (nX σ) (t.1 66) + 1 ≤ LSF (nX σ) (u.1 66)) ∨ (g2 = 0 ∧ FIN σ u j.toInt))) ?_ ⟨by omega, by omega, f6, by unfold LINx; rw [g66]; exact hL, by rw [g66]; exact Nat.le_refl _, Or.inr ⟨rfl, fun c h1 h2 => by omega, fun i => ?_⟩⟩
    · intro ag3 g2 j u I3 ih3
      obtain ⟨j0, j1, f3, hL3, le3, hg3⟩ := I3
      refine pc_ite (fun c4 => ?_) (fun c4 => ?_)
      · rw [fa_lt, k_0] at c4
        refine pc_lt fun x10 e10 => ?_
        have v10 : x10.toInt = r.toInt + 1 := by rw [e10]; exact i1 (by omega)
        refine ih2 g2 x10 u ⟨f3, hL3, ?_⟩
        rcases hg3 with ⟨h1, h2⟩ | ⟨h1, h2⟩
        · exact Or.inr ⟨h1, by omega, by omega⟩
        · rw [show j.toInt = -1 by omega] at h2
          exact Or.inl ⟨h1, ⟨fun b hb => (h2.1 b (by omega) hb).1, hL3.2⟩, h2⟩
      rw [fa_lt, k_0] at c4
      have cj := clamp_I (x := j) (by omega)
      have hj : j.toNatClampNeg < nX σ := by omega
      refine pc_ix (fun _ => ?_)
      refine pc_lt fun v11 e11 => ?_
      refine pc_cals (t_flowT f3 (by omega) rfl (hE _ hj) (hF _ hj)) (fun s12 q => ?_)
      have gr := hL3.gr q.2.1 q.2.2.1
      have le12 := LSF_le gr
      have hL12 : LINx σ s12 := hL3.st hR hj q.2.1 q.2.2.1
      have lt12 : s12.1 66 j.toNatClampNeg ≠ u.1 66 j.toNatClampNeg → LSF (nX σ) (t.1 66) + 1 ≤ LSF (nX σ) (s12.1 66) := fun hne => by
        have := LSF_lt gr hj hne
        omega
      refine pc_jnI1 (fun g4 => (g4 = 1 ∧ LSF (nX σ) (t.1 66) + 1 ≤ LSF (nX σ) (s12.1 66)) ∨ (g4 = 0 ∧ FIN σ s12 (j.toInt - 1))) (fun g4 J => ?_) (fun k hk => ?_)
      · refine pc_lt fun x14 e14 => ?_
        have v14 : x14.toInt = j.toInt - 1 := by rw [e14]; exact i_m1 (by omega) (by omega)
        exact ih3 g4 x14 s12 ⟨by omega, by omega, q.1, hL12, by omega, by rw [v14]; exact J⟩
      · refine pc_jnI0 (LSF (nX σ) (t.1 66) + 1 ≤ LSF (nX σ) (s12.1 66)) (fun h => hk 1 (Or.inl ⟨rfl, h⟩)) (fun k2 hk2 => ?_)
        refine pc_ite (fun c5 => ?_) (fun c5 => ?_)
        · refine pc_ix (fun _ => ?_)
          refine pc_lt fun v17 e17 => ?_
          have hF3 : FIN σ u j.toInt := by
            rcases hg3 with ⟨h1, _⟩ | ⟨_, h2⟩
            · exact absurd (h1.symm.trans c5) n1
            · exact h2
          refine pc_ite (fun c6 => ?_) (fun c6 => ?_)
          · rw [e17, e11] at c6
            exact hk 0 (Or.inr ⟨rfl, hF3.nx q cj rfl hj c6⟩)
          · rw [e17, e11] at c6
            exact hk2 (lt12 c6)
        · have := (hg3.resolve_right (fun q => c5 q.1)).2
          exact hk2 (by omega)
    · rw [e6, stl_s, bL_0]
      constructor
      · exact fun q => absurd q (by decide)
      · rintro ⟨c, h1, h2, _⟩
        omega
  · rw [fa_le, f20] at c
    have ex : (x + 1).toInt = x.toInt + 1 := i1 (by omega)
    refine pc_ix (fun _ => ?_)
    refine pc_lt fun s19 e19 => ?_
    refine pc_lt fun x20 e20 => ?_
    subst e20
    refine ih (x + 1) s19 ⟨by omega, by rw [e19]; exact FR.st f (by decide), fun c hc => ?_⟩
    rw [e19, sti_if]
    by_cases q : c = x.toNatClampNeg
    · rw [if_pos q]
    · rw [if_neg q]; exact z c (by omega)
