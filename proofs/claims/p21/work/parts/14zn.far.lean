theorem EDX.bits {s : Sto} (h : EDX s) {b g : Nat} (hb : b < (s.1 20 0).toInt.toNat) (hg : g < 64) : bL (s.2 0 b) g = true ↔ RE (EVx s) b g := by
  obtain ⟨⟨V, _, v⟩, _⟩ := h
  rw [v.2.2.2.1 b hb g hg]
  constructor
  · rintro ⟨e, z1, z2, z3⟩
    exact ⟨e, by show e < (s.1 27 0).toInt.toNat; omega, z2, z3⟩
  · rintro ⟨e, z1, z2, z3⟩
    have z1 : e < (s.1 27 0).toInt.toNat := z1
    exact ⟨e, by omega, z2, z3⟩
theorem t_leadingTo {V : EVt} {σ : Sto} {x1 : Int32} (h0 : 0 ≤ x1.toInt) (h1 : x1.toInt < (σ.1 20 0).toInt) (hn : (σ.1 20 0).toInt ≤ 40) (hb : ∀ b g, b < (σ.1 20 0).toInt.toNat → g < 64 → (bL (σ.2 0 b) g = true ↔ RE V b g)) (hr : ∀ x y, RE V x y → x < (σ.1 20 0).toInt.toNat ∧ y < (σ.1 20 0).toInt.toNat) : PC (f_X0_leadingTo x1 σ) (fun v => ∀ i, bL v i = true ↔ TCR V x1.toNatClampNeg i) := by
  have k_0 : (0 : Int32).toInt = 0 := by decide +kernel
  have cx := clamp_I h0
  have setb : ∀ (S : Int64) (i : Nat), bL (S ||| ((1 : Int64) <<< (x1.toInt64 &&& 63))) i = true ↔ (bL S i = true ∨ i = x1.toNatClampNeg) := fun S i => by rw [bL_set h0 (by omega), Bool.or_eq_true, decide_eq_true_eq]
  obtain ⟨nb, hnb⟩ : ∃ nb : Nat, nb = (σ.1 20 0).toInt.toNat := ⟨_, rfl⟩
  rw [← hnb] at hb hr
  unfold f_X0_leadingTo
  refine pc_itr3 (fun S G r => 0 ≤ r.toInt ∧ (∀ i, bL S i = true → TCR V x1.toNatClampNeg i) ∧ (∀ i, bL G i = true → bL S i = true ∨ i = x1.toNatClampNeg) ∧ (∀ b g, RE V b g → bL G g = true → bL S b = true) ∧ r.toInt ≤ (fb_ct (bL G) nb : Int)) ?_ ⟨by omega, fun i z => by (rw [bL_0] at z; exact absurd z (by decide)), fun i z => by (rw [bL_0] at z; exact absurd z (by decide)), fun b g _ z => by (rw [bL_0] at z; exact absurd z (by decide)), by omega⟩
  intro ag S G r I ih
  obtain ⟨r0, i1_, i2, i3, i4⟩ := I
  have cl := fb_ct_le (bL G) nb
  refine pc_ite (fun c1 => ?_) (fun c1 => ?_)
  · rw [fa_lt] at c1
    omega
  refine pc_ite (fun c2 => ?_) (fun c2 => ?_)
  · rw [lg_cmp_eq] at c2
    refine pc_ret fun i => ⟨i1_ i, fun z => z (fun i => bL S i = true) (fun x y h hy => i3 x y h ?_)⟩
    rw [c2]
    exact (setb S y).mpr (hy.elim Or.inr Or.inl)
  rw [lg_cmp_eq] at c2
  obtain ⟨i, ia, ib⟩ : ∃ i, bL (S ||| ((1 : Int64) <<< (x1.toInt64 &&& 63))) i = true ∧ bL G i = false := Classical.byContradiction fun z => c2 (bL_ext fun i => by
    cases a : bL (S ||| ((1 : Int64) <<< (x1.toInt64 &&& 63))) i with
    | false =>
      cases b : bL G i with
      | false => rfl
      | true =>
        have := (setb S i).mpr (i2 i b)
        rw [a] at this
        cases this
    | true =>
      cases b : bL G i with
      | false => exact absurd ⟨i, a, b⟩ z
      | true => rfl)
  have hi : i < nb := by
    rcases (setb S i).mp ia with z | z
    · obtain ⟨y, q⟩ := (i1_ i z).src
      exact (hr i y q).1
    · omega
  have ct := ct_lt (p := bL G) (q := bL (S ||| ((1 : Int64) <<< (x1.toInt64 &&& 63)))) (n := nb) (fun k _ z => (setb S k).mpr (i2 k z)) hi ib ia
  refine pc_lt fun G2 eG => ?_
  rw [← eG] at ct
  have cl2 := fb_ct_le (bL G2) nb
  have er : (r + 1).toInt = r.toInt + 1 := i1 (by omega)
  refine pc_itr2 (fun T b => 0 ≤ b.toInt ∧ (∀ i, bL T i = true → TCR V x1.toNatClampNeg i) ∧ (∀ i, bL S i = true → bL T i = true) ∧ (∀ c g : Nat, (c : Int) < b.toInt → RE V c g → bL G2 g = true → bL T c = true)) ?_ ⟨by omega, i1_, fun _ z => z, fun c g z => by omega⟩
  intro ag2 T b I2 ih2
  obtain ⟨b0, j1, j2, j3⟩ := I2
  have cb := clamp_I b0
  refine pc_ite (fun c3 => ?_) (fun c3 => ?_)
  · rw [fa_le] at c3
    refine pc_lt fun x6 e6 => ?_
    subst e6
    refine ih T G2 (r + 1) ⟨by omega, j1, fun i z => ?_, fun c g h hg => ?_, by omega⟩
    · rw [eG] at z
      exact ((setb S i).mp z).imp_left (j2 i)
    · have := (hr c g h).1
      exact j3 c g (by omega) h hg
  rw [fa_le] at c3
  refine pc_ix (fun ib_ => ?_)
  have eb : (b + 1).toInt = b.toInt + 1 := i1 (by omega)
  refine pc_lt fun v8 e8 => ?_
  refine pc_jnI1 (fun U => (∀ i, bL U i = true → TCR V x1.toNatClampNeg i) ∧ (∀ i, bL T i = true → bL U i = true) ∧ (∀ g, RE V b.toNatClampNeg g → bL G2 g = true → bL U b.toNatClampNeg = true)) (fun U hu => ?_) (fun k hk => ?_)
  · refine pc_lt fun x10 e10 => ?_
    subst e10
    refine ih2 U (b + 1) ⟨by omega, hu.1, fun i z => hu.2.1 i (j2 i z), fun c g z h hg => ?_⟩
    by_cases p : c = b.toNatClampNeg
    · rw [p] at h ⊢; exact hu.2.2 g h hg
    · exact hu.2.1 c (j3 c g (by omega) h hg)
  · have bn : b.toNatClampNeg < nb := by omega
    refine pc_ite (fun c4 => hk T ⟨j1, fun _ z => z, fun g h hg => ?_⟩) (fun c4 => ?_)
    · rw [lg_cmp_eq] at c4
      have g64 := (hr _ g h).2
      have q : bL (v8 &&& G2) g = true := by
        rw [bL_and, e8, (hb _ g bn (by omega)).mpr h, hg]
        rfl
      rw [c4, bL_0] at q
      cases q
    · rw [lg_cmp_eq] at c4
      obtain ⟨g, ga⟩ : ∃ g, bL (v8 &&& G2) g = true := Classical.byContradiction fun z => c4 (bL_ext fun i => by
        rw [bL_0]
        cases a : bL (v8 &&& G2) i with
        | false => rfl
        | true => exact absurd ⟨i, a⟩ z)
      rw [bL_and, Bool.and_eq_true] at ga
      have g64 : g < 64 := Classical.byContradiction fun z => by
        have := bL_hi (x := v8) (i := g) (by omega)
        rw [ga.1] at this
        cases this
      have h := (hb b.toNatClampNeg g bn g64).mp (by rw [← e8]; exact ga.1)
      have hg := ga.2
      rw [eG] at hg
      refine pc_lt fun x12 e12 => ?_
      have sb : ∀ i, bL x12 i = true ↔ (bL T i = true ∨ i = b.toNatClampNeg) := fun i => by rw [e12, bL_set b0 (by omega), Bool.or_eq_true, decide_eq_true_eq]
      refine hk x12 ⟨fun i z => ?_, fun i z => (sb i).mpr (Or.inl z), fun _ _ _ => (sb _).mpr (Or.inr rfl)⟩
      rcases (sb i).mp z with z | z
      · exact j1 i z
      · rw [z]
        exact TCR.st h (((setb S g).mp hg).elim (fun y => Or.inr (i1_ g y)) Or.inl)
theorem t_comesToX {V : EVt} {σ : Sto} {x1 : Int32} (hn : (σ.1 20 0).toInt ≤ 40) (hb : ∀ b g, b < (σ.1 20 0).toInt.toNat → g < 64 → (bL (σ.2 0 b) g = true ↔ RE V b g)) (hr : ∀ x y, RE V x y → x < (σ.1 20 0).toInt.toNat ∧ y < (σ.1 20 0).toInt.toNat) : PC (f_X11_comesTo x1 σ) (fun v => (¬ ((σ.1 0 0).toInt ≠ 0 ∧ 0 ≤ x1.toInt ∧ x1.toInt < (σ.1 20 0).toInt) → v = -1) ∧ (((σ.1 0 0).toInt ≠ 0 ∧ 0 ≤ x1.toInt ∧ x1.toInt < (σ.1 20 0).toInt) → ∀ i, bL v i = true ↔ TCR V x1.toNatClampNeg i)) := by
  have k_0 : (0 : Int32).toInt = 0 := by decide +kernel
  unfold f_X11_comesTo
  refine pc_calp t_isBlockX (fun v1 q => ?_)
  refine pc_ite (fun c => pc_ret ?_) (fun c => ?_)
  · rw [fa_eq, k_0] at c
    exact ⟨fun _ => rfl, fun z => absurd c (q.mpr z)⟩
  rw [fa_eq, k_0] at c
  have ib := q.mp c
  refine pc_calp (t_leadingTo ib.2.1 ib.2.2 hn hb hr) (fun v3 w => ?_)
  exact pc_ret ⟨fun z => absurd ib z, fun _ => w⟩
theorem t_way {V : EVt} {σ : Sto} {x1 x2 : Int32} (h0 : 0 ≤ x1.toInt) (h1 : x1.toInt < (σ.1 20 0).toInt) (h2 : 0 ≤ x2.toInt) (h3 : x2.toInt < (σ.1 20 0).toInt) (hn : (σ.1 20 0).toInt ≤ 40) (hb : ∀ b g, b < (σ.1 20 0).toInt.toNat → g < 64 → (bL (σ.2 0 b) g = true ↔ RE V b g)) (hr : ∀ x y, RE V x y → x < (σ.1 20 0).toInt.toNat ∧ y < (σ.1 20 0).toInt.toNat) : PC (f_X0_way x1 x2 σ) (fun v => FAR V x1.toNatClampNeg x2.toNatClampNeg v.toInt) := by
  have k_0 : (0 : Int32).toInt = 0 := by decide +kernel
  have k_m1 : ((-1) : Int32).toInt = -1 := by decide +kernel
  have cx := clamp_I h0
  have cy := clamp_I h2
  obtain ⟨nb, hnb⟩ : ∃ nb : Nat, nb = (σ.1 20 0).toInt.toNat := ⟨_, rfl⟩
  rw [← hnb] at hb hr
  have dn : ∀ k i, DST V x1.toNatClampNeg k i → i < nb := fun k => by
    induction k with
    | zero => intro i z; have z : i = x1.toNatClampNeg := z; omega
    | succ k ih =>
      intro i z
      rcases z with z | ⟨j, _, z⟩
      · exact ih i z
      · exact (hr j i z).2
  unfold f_X0_way
  refine pc_lt fun x3 e3 => ?_
  refine pc_itr2 (fun S k => 0 ≤ k.toInt ∧ k.toInt ≤ (nb : Int) + 1 ∧ (∀ i, bL S i = true ↔ DST V x1.toNatClampNeg k.toNatClampNeg i) ∧ ∀ j, j < k.toNatClampNeg → ¬ DST V x1.toNatClampNeg j x2.toNatClampNeg) ?_ ⟨by omega, by omega, fun i => ?_, fun j hj => absurd hj (Nat.not_lt_zero _)⟩
  rotate_left
  · rw [e3, bL_one h0 (by omega), decide_eq_true_eq]
    exact Iff.rfl
  intro ag S k I ih
  obtain ⟨a0, a1, a2, a3⟩ := I
  have ck := clamp_I a0
  refine pc_ite (fun c1 => ?_) (fun c1 => ?_)
  · rw [fa_lt] at c1
    exact pc_ret (Or.inl ⟨k_m1, DST.never (nb := nb) (by omega) (fun x y h => (hr x y h).2) (fun j hj => a3 j (by omega))⟩)
  rw [fa_lt] at c1
  refine pc_calp (pc_ok (s_X11_isIn (x1 := S) (x2 := x2))) (fun v4 y => ?_)
  have y1 := y.1
  have y2 := y.2 h2 (by omega)
  refine pc_ite (fun c2 => ?_) (fun c2 => ?_)
  · rw [fa_eq, k_0] at c2
    have no : ¬ DST V x1.toNatClampNeg k.toNatClampNeg x2.toNatClampNeg := fun z => by
      have := y2.mpr ((a2 _).mpr z)
      omega
    have ek : (k + 1).toInt = k.toInt + 1 := i1 (by omega)
    have nk : (k + 1).toNatClampNeg = k.toNatClampNeg + 1 := by have := clamp_I (x := k + 1) (by omega); omega
    refine pc_itr2 (fun T b => 0 ≤ b.toInt ∧ ∀ i, bL T i = true ↔ (DST V x1.toNatClampNeg k.toNatClampNeg i ∨ ∃ j : Nat, (j : Int) < b.toInt ∧ DST V x1.toNatClampNeg k.toNatClampNeg j ∧ RE V j i)) ?_ ⟨by omega, fun i => by
      rw [a2 i]
      exact ⟨Or.inl, fun z => z.elim id (fun ⟨j, z, _⟩ => by omega)⟩⟩
    intro ag2 T b I2 ih2
    obtain ⟨b0, b1⟩ := I2
    have cb := clamp_I b0
    refine pc_ite (fun c3 => ?_) (fun c3 => ?_)
    · rw [fa_le] at c3
      refine pc_lt fun x8 e8 => ?_
      subst e8
      refine ih T (k + 1) ⟨by omega, by omega, fun i => ?_, fun j hj => ?_⟩
      · rw [nk, b1 i]
        constructor
        · rintro (z | ⟨j, _, z1, z2⟩)
          · exact Or.inl z
          · exact Or.inr ⟨j, z1, z2⟩
        · rintro (z | ⟨j, z1, z2⟩)
          · exact Or.inl z
          · have := dn _ j z1
            exact Or.inr ⟨j, by omega, z1, z2⟩
      · by_cases p : j = k.toNatClampNeg
        · rw [p]; exact no
        · exact a3 j (by omega)
    rw [fa_le] at c3
    have eb : (b + 1).toInt = b.toInt + 1 := i1 (by omega)
    refine pc_calp (pc_ok (s_X11_isIn (x1 := S) (x2 := b))) (fun v9 w => ?_)
    have w1 := w.1
    have w2 := w.2 b0 (by omega)
    refine pc_jnI1 (fun U => ∀ i, bL U i = true ↔ (bL T i = true ∨ (DST V x1.toNatClampNeg k.toNatClampNeg b.toNatClampNeg ∧ RE V b.toNatClampNeg i))) (fun U hu => ?_) (fun q hq => ?_)
    · refine pc_lt fun x11 e11 => ?_
      subst e11
      refine ih2 U (b + 1) ⟨by omega, fun i => ?_⟩
      rw [hu i, b1 i]
      constructor
      · rintro ((z | ⟨j, z0, z1, z2⟩) | ⟨z1, z2⟩)
        · exact Or.inl z
        · exact Or.inr ⟨j, by omega, z1, z2⟩
        · exact Or.inr ⟨b.toNatClampNeg, by omega, z1, z2⟩
      · rintro (z | ⟨j, z0, z1, z2⟩)
        · exact Or.inl (Or.inl z)
        · by_cases p : j = b.toNatClampNeg
          · rw [p] at z1 z2; exact Or.inr ⟨z1, z2⟩
          · exact Or.inl (Or.inr ⟨j, by omega, z1, z2⟩)
    · refine pc_ite (fun c4 => hq T (fun i => ?_)) (fun c4 => ?_)
      · rw [fa_eq, k_0] at c4
        refine ⟨Or.inl, fun z => z.elim id (fun z => ?_)⟩
        have := w2.mpr ((a2 _).mpr z.1)
        omega
      · rw [fa_eq, k_0] at c4
        have hd := (a2 _).mp (w2.mp (by omega))
        refine pc_ix (fun _ => ?_)
        refine pc_lt fun v13 e13 => ?_
        refine pc_lt fun x14 e14 => ?_
        refine hq x14 (fun i => ?_)
        rw [e14, bL_or, Bool.or_eq_true, e13]
        by_cases g64 : i < 64
        · rw [hb b.toNatClampNeg i (by omega) g64]
          exact or_congr Iff.rfl ⟨fun z => ⟨hd, z⟩, fun z => z.2⟩
        · refine or_congr Iff.rfl ⟨fun z => ?_, fun z => ?_⟩
          · rw [bL_hi (by omega)] at z; cases z
          · have := (hr _ i z.2).2
            omega
  · rw [fa_eq, k_0] at c2
    exact pc_ret (Or.inr ⟨k.toNatClampNeg, ck.symm, (a2 _).mp (y2.mp (by omega)), a3⟩)
theorem t_farX {V : EVt} {σ : Sto} {x1 x2 : Int32} (hn : (σ.1 20 0).toInt ≤ 40) (hb : ∀ b g, b < (σ.1 20 0).toInt.toNat → g < 64 → (bL (σ.2 0 b) g = true ↔ RE V b g)) (hr : ∀ x y, RE V x y → x < (σ.1 20 0).toInt.toNat ∧ y < (σ.1 20 0).toInt.toNat) : PC (f_X11_far x1 x2 σ) (fun v => (¬ (((σ.1 0 0).toInt ≠ 0 ∧ 0 ≤ x1.toInt ∧ x1.toInt < (σ.1 20 0).toInt) ∧ 0 ≤ x2.toInt ∧ x2.toInt < (σ.1 20 0).toInt) → v.toInt = -1) ∧ ((((σ.1 0 0).toInt ≠ 0 ∧ 0 ≤ x1.toInt ∧ x1.toInt < (σ.1 20 0).toInt) ∧ 0 ≤ x2.toInt ∧ x2.toInt < (σ.1 20 0).toInt) → FAR V x1.toNatClampNeg x2.toNatClampNeg v.toInt)) := by
  have k_0 : (0 : Int32).toInt = 0 := by decide +kernel
  have k_m1 : ((-1) : Int32).toInt = -1 := by decide +kernel
  unfold f_X11_far
  refine pc_calp t_isBlockX (fun v1 q => ?_)
  refine pc_jn ?_
  refine pc_ite (fun c => pc_ret ?_) (fun c => ?_)
  · rw [fa_eq, k_0] at c
    exact ⟨fun _ => k_m1, fun z => absurd c (q.mpr z.1)⟩
  rw [fa_eq, k_0] at c
  have ib := q.mp c
  refine pc_calp t_isBlockX (fun v2 q2 => ?_)
  refine pc_ite (fun c2 => pc_ret ?_) (fun c2 => ?_)
  · rw [fa_eq, k_0] at c2
    exact ⟨fun _ => k_m1, fun z => absurd c2 (q2.mpr ⟨z.1.1, z.2⟩)⟩
  rw [fa_eq, k_0] at c2
  have ib2 := q2.mp c2
  refine pc_calp (t_way ib.2.1 ib.2.2 ib2.2.1 ib2.2.2 hn hb hr) (fun v6 w => ?_)
  exact pc_ret ⟨fun z => absurd ⟨ib, ib2.2⟩ z, fun _ => w⟩
/-- the reference's far -/
theorem t_farM {σ : Sto} {x1 x2 : Int32} (hB : BM σ) (hr : ∀ x y, RE (EVm σ) x y → x < nB σ ∧ y < nB σ) : PC (f_X12_far x1 x2 σ) (fun r => (¬ (((σ.1 21 0).toInt ≠ 0 ∧ 0 ≤ x1.toInt ∧ x1.toInt < (σ.1 26 0).toInt) ∧ 0 ≤ x2.toInt ∧ x2.toInt < (σ.1 26 0).toInt) → r.1.toInt = -1) ∧ ((((σ.1 21 0).toInt ≠ 0 ∧ 0 ≤ x1.toInt ∧ x1.toInt < (σ.1 26 0).toInt) ∧ 0 ≤ x2.toInt ∧ x2.toInt < (σ.1 26 0).toInt) → FAR (EVm σ) x1.toNatClampNeg x2.toNatClampNeg r.1.toInt)) := by
  have k_0 : (0 : Int32).toInt = 0 := by decide +kernel
  have k_m1 : ((-1) : Int32).toInt = -1 := by decide +kernel
  have g32 := gM_32 hB 0
  have g26 := gM_26 hB 0
  unfold f_X12_far
  refine pc_lt fun s1 e1 => ?_
  have B1 : BM s1 := by rw [e1]; exact pM_0 hB (by omega)
  have o : ∀ k, k ≠ 0 → s1.1 k = σ.1 k := fun k hk => by rw [e1, sti_o hk]
  refine pc_calp (t_isBlockM B1) (fun v2 q => ?_)
  rw [o 21 (by decide), o 26 (by decide)] at q
  refine pc_ite (fun c => pc_ret ?_) (fun c => ?_)
  · rw [fa_eq, k_0] at c
    exact ⟨fun _ => k_m1, fun z => absurd c (q.mpr z.1)⟩
  rw [fa_eq, k_0] at c
  have ib := q.mp c
  refine pc_calp (t_isBlockM B1) (fun v4 q2 => ?_)
  rw [o 21 (by decide), o 26 (by decide)] at q2
  refine pc_ite (fun c2 => pc_ret ?_) (fun c2 => ?_)
  · rw [fa_eq, k_0] at c2
    exact ⟨fun _ => k_m1, fun z => absurd c2 (q2.mpr ⟨z.1.1, z.2⟩)⟩
  rw [fa_eq, k_0] at c2
  have ib2 := q2.mp c2
  have cx := clamp_I ib.2.1
  have cy := clamp_I ib2.2.1
  rw [o 27 (by decide), o 28 (by decide), o 32 (by decide)]
  refine pc_imp (P := fun r => FAR (EVm σ) x1.toNatClampNeg x2.toNatClampNeg r.1.toInt) ?_ (fun r z => ⟨fun y => absurd ⟨ib, ib2.2⟩ y, fun _ => z⟩)
  refine pc_lt fun x3 e3 => ?_
  refine pc_itr2 (fun S k => 0 ≤ k.toInt ∧ (∀ i, bL S i = true ↔ DST (EVm σ) x1.toNatClampNeg k.toNatClampNeg i) ∧ (∀ j, j < k.toNatClampNeg → ¬ DST (EVm σ) x1.toNatClampNeg j x2.toNatClampNeg) ∧ ∀ j, j < k.toNatClampNeg → ∃ i, DST (EVm σ) x1.toNatClampNeg (j + 1) i ∧ ¬ DST (EVm σ) x1.toNatClampNeg j i) ?_ ⟨by omega, fun i => ?_, fun j hj => absurd hj (Nat.not_lt_zero _), fun j hj => absurd hj (Nat.not_lt_zero _)⟩
  rotate_left
  · rw [e3, bL_one ib.2.1 (by omega), decide_eq_true_eq]
    exact Iff.rfl
  intro ag S k I ih
  obtain ⟨a0, a2, a3, a4⟩ := I
  have ck := clamp_I a0
  have kn := DST.ct (V := EVm σ) (a := x1.toNatClampNeg) (nb := nB σ) (by unfold nB; omega) (fun x y h => (hr x y h).2) k.toNatClampNeg a4
  have kn2 := fb_ct_le (cDs (EVm σ) x1.toNatClampNeg k.toNatClampNeg) (nB σ)
  have hnB := nB_le hB
  refine pc_calp (pc_ok (s_X12_has (x1 := S) (x2 := x2))) (fun v8 y => ?_)
  have y1 := y.1
  have y2 := y.2 ib2.2.1 (by omega)
  refine pc_ite (fun c3 => ?_) (fun c3 => ?_)
  · rw [fa_eq, k_0] at c3
    have no : ¬ DST (EVm σ) x1.toNatClampNeg k.toNatClampNeg x2.toNatClampNeg := fun z => by
      have := y2.mpr ((a2 _).mpr z)
      omega
    have ek : (k + 1).toInt = k.toInt + 1 := i1 (by omega)
    have nk : (k + 1).toNatClampNeg = k.toNatClampNeg + 1 := by have := clamp_I (x := k + 1) (by omega); omega
    refine pc_itr2 (fun T e => 0 ≤ e.toInt ∧ ∀ i, bL T i = true ↔ (DST (EVm σ) x1.toNatClampNeg k.toNatClampNeg i ∨ ∃ d : Nat, (d : Int) < e.toInt ∧ d < nE σ ∧ DST (EVm σ) x1.toNatClampNeg k.toNatClampNeg (σ.1 27 d).toInt.toNat ∧ (σ.1 28 d).toInt = i)) ?_ ⟨by omega, fun i => by
      rw [a2 i]
      exact ⟨Or.inl, fun z => z.elim id (fun ⟨j, z, _⟩ => by omega)⟩⟩
    intro ag2 T e I2 ih2
    obtain ⟨b0, b1⟩ := I2
    have ce := clamp_I b0
    refine pc_ite (fun c4 => ?_) (fun c4 => ?_)
    · rw [fa_le] at c4
      have nx : ∀ i, bL T i = true ↔ DST (EVm σ) x1.toNatClampNeg (k.toNatClampNeg + 1) i := fun i => by
        rw [b1 i]
        constructor
        · rintro (z | ⟨d, _, z1, z2, z3⟩)
          · exact Or.inl z
          · have g27 := gM_27 hB d
            exact Or.inr ⟨_, z2, d, z1, by show (σ.1 27 d).toInt = _; omega, z3⟩
        · rintro (z | ⟨j, z1, d, z2, z3, z4⟩)
          · exact Or.inl z
          · have z2 : d < nE σ := z2
            have z3 : (σ.1 27 d).toInt = j := z3
            have z4 : (σ.1 28 d).toInt = i := z4
            refine Or.inr ⟨d, by unfold nE at z2; omega, z2, by rw [z3]; exact z1, z4⟩
      refine pc_ite (fun c5 => pc_ret (Or.inl ⟨k_m1, fun m z => ?_⟩)) (fun c5 => ?_)
      · rw [lg_cmp_eq] at c5
        subst c5
        have st : ∀ i, DST (EVm σ) x1.toNatClampNeg (k.toNatClampNeg + 1) i → DST (EVm σ) x1.toNatClampNeg k.toNatClampNeg i := fun i z => (a2 i).mp ((nx i).mpr z)
        exact no (DST.stable st m _ (DST.mono (by omega) z))
      · rw [lg_cmp_eq] at c5
        refine pc_lt fun x13 e13 => ?_
        subst e13
        refine ih T (k + 1) ⟨by omega, fun i => by rw [nk]; exact nx i, fun j hj => ?_, fun j hj => ?_⟩
        · by_cases p : j = k.toNatClampNeg
          · rw [p]; exact no
          · exact a3 j (by omega)
        · by_cases p : j = k.toNatClampNeg
          · rw [p]
            refine Classical.byContradiction fun z => c5 (bL_ext fun i => ?_)
            cases a : bL S i with
            | true => exact (nx i).mpr (Or.inl ((a2 i).mp a))
            | false =>
              cases b : bL T i with
              | false => rfl
              | true => exact absurd ⟨i, (nx i).mp b, fun y => by rw [(a2 i).mpr y] at a; cases a⟩ z
          · exact a4 j (by omega)
    rw [fa_le] at c4
    have en : e.toNatClampNeg < nE σ := by unfold nE; omega
    have g27 := gM_27 hB e.toNatClampNeg
    have g28 := gM_28 hB e.toNatClampNeg
    refine pc_ix (fun ie => ?_)
    have ex : (e + 1).toInt = e.toInt + 1 := i1 (by omega)
    refine pc_lt fun v14 e14 => ?_
    have c14 : v14.toNatClampNeg = (σ.1 27 e.toNatClampNeg).toInt.toNat := by rw [e14]; rfl
    refine pc_calp (pc_ok (s_X12_has (x1 := S) (x2 := v14))) (fun v15 w => ?_)
    have w1 := w.1
    have w2 := w.2 (by rw [e14]; omega) (by rw [e14]; omega)
    rw [c14] at w2
    refine pc_jnI1 (fun U => ∀ i, bL U i = true ↔ (bL T i = true ∨ (DST (EVm σ) x1.toNatClampNeg k.toNatClampNeg (σ.1 27 e.toNatClampNeg).toInt.toNat ∧ (σ.1 28 e.toNatClampNeg).toInt = i))) (fun U hu => ?_) (fun q hq => ?_)
    · refine pc_lt fun x17 e17 => ?_
      subst e17
      refine ih2 U (e + 1) ⟨by omega, fun i => ?_⟩
      rw [hu i, b1 i]
      constructor
      · rintro ((z | ⟨j, z0, z1, z2, z3⟩) | ⟨z1, z2⟩)
        · exact Or.inl z
        · exact Or.inr ⟨j, by omega, z1, z2, z3⟩
        · exact Or.inr ⟨e.toNatClampNeg, by omega, en, z1, z2⟩
      · rintro (z | ⟨j, z0, z1, z2, z3⟩)
        · exact Or.inl (Or.inl z)
        · by_cases p : j = e.toNatClampNeg
          · rw [p] at z2 z3; exact Or.inr ⟨z2, z3⟩
          · exact Or.inl (Or.inr ⟨j, by omega, z1, z2, z3⟩)
    · refine pc_ite (fun c5 => hq T (fun i => ?_)) (fun c5 => ?_)
      · rw [fa_eq, k_0] at c5
        refine ⟨Or.inl, fun z => z.elim id (fun z => ?_)⟩
        have := w2.mpr ((a2 _).mpr z.1)
        omega
      · rw [fa_eq, k_0] at c5
        have hd := (a2 _).mp (w2.mp (by omega))
        refine pc_ix (fun _ => ?_)
        refine pc_lt fun v19 e19 => ?_
        refine pc_lt fun x20 e20 => ?_
        have c19 := clamp_I (x := v19) (by rw [e19]; omega)
        refine hq x20 (fun i => ?_)
        rw [e20, bL_set (by rw [e19]; omega) (by rw [e19]; omega), Bool.or_eq_true, decide_eq_true_eq]
        rw [e19] at c19
        refine or_congr Iff.rfl ⟨fun z => ⟨hd, by rw [z, e19]; omega⟩, fun z => ?_⟩
        have := z.2
        rw [e19]
        omega
  · rw [fa_eq, k_0] at c3
    exact pc_ret (Or.inr ⟨k.toNatClampNeg, ck.symm, (a2 _).mp (y2.mp (by omega)), a3⟩)
theorem ED.rng {s : Sto} (h : ED s) {x y : Nat} (g : RE (EVm s) x y) : x < nB s ∧ y < nB s := by
  obtain ⟨e, h1, h2, h3⟩ := g
  obtain ⟨q1, q2, _⟩ := h.1 e h1
  have h2 : eF s e = x := h2
  have h3 : eT s e = y := h3
  omega
/-- comesTo, far on both sides: the same answers -/
theorem JT4.graph {σ s : Sto} (h : JT4 σ s) (hl : (σ.1 0 0).toInt ≠ 0) : (σ.1 20 0).toInt = (s.1 26 0).toInt ∧ AGV (EVx σ) (EVm s) ∧ (∀ x y, RE (EVm s) x y → x < (σ.1 20 0).toInt.toNat ∧ y < (σ.1 20 0).toInt.toNat) ∧ (∀ b g, b < (σ.1 20 0).toInt.toNat → g < 64 → (bL (σ.2 0 b) g = true ↔ RE (EVm s) b g)) ∧ BM s ∧ (σ.1 20 0).toInt ≤ 40 ∧ ED s := by
  obtain ⟨A, L, D, K, hl2⟩ := h.laid hl
  obtain ⟨B, Q, KM, E⟩ := D.p
  have q := h.eqe hl
  have g20 := gX_20 h.1.1.1.1 0
  have g26 := gM_26 B 0
  have n : (σ.1 20 0).toInt.toNat = (s.1 26 0).toInt.toNat := q.1
  refine ⟨by omega, q.2.2.2, fun x y z => ?_, fun b g hb hg => ?_, B, g20.2, E⟩
  · rw [n]; exact E.rng z
  · rw [A.edx.bits hb hg]
    exact RE.cg q.2.2.2
theorem JT4.ld {σ s : Sto} (h : JT4 σ s) : ((σ.1 0 0).toInt = 0 ∧ (s.1 21 0).toInt = 0) ∨ ((σ.1 0 0).toInt ≠ 0 ∧ (s.1 21 0).toInt ≠ 0) := by
  rcases h.1.2 with z | z
  · exact Or.inl z
  · exact Or.inr ⟨z.1, z.2.1⟩
theorem R_comesTo {σ s : Sto} (h : JT4 σ s) (a : Int32) : ∃ v s2, f_X11_comesTo a σ = some v ∧ f_X12_comesTo a s = some (v, s2) ∧ JT4 σ s2 := by
  obtain ⟨v, w, s2, x, y, z⟩ := Q_comesTo h a
  refine ⟨v, s2, x, ?_, z⟩
  have e : v = w := by
    rcases h.ld with ⟨l1, l2⟩ | ⟨l1, l2⟩
    · have ev : v = -1 := by
        unfold f_X11_comesTo at x
        obtain ⟨b, b1, b2⟩ := calp_inv x
        have q := t_isBlockX _ b1
        have b0 : b = 0 := Int32.toInt_inj.mp (Classical.byContradiction fun z => absurd l1 (q.mp (by rw [show (0 : Int32).toInt = 0 by decide +kernel] at z; exact z)).1)
        rw [if_pos b0] at b2
        exact (Option.some.inj b2).symm
      have ew := (t_comesToM h.1.1.2.1.1 _ y).1 (fun z => absurd l2 z.1)
      rw [ev]
      exact ew.symm
    · obtain ⟨n, ag, hr, hb, B, g40, E⟩ := h.graph l1
      have X := t_comesToX (x1 := a) g40 hb hr _ x
      have M := t_comesToM (x1 := a) B _ y
      by_cases c : 0 ≤ a.toInt ∧ a.toInt < (σ.1 20 0).toInt
      · have X2 := X.2 ⟨l1, c⟩
        have M2 := M.2 ⟨l2, by rw [← n]; exact c⟩
        refine bL_ext fun i => ?_
        have q := (X2 i).trans (M2 i).symm
        have M2 : bL w i = bL (w, s2).1 i := rfl
        cases p : bL v i with
        | true => exact (q.mp p).symm
        | false =>
          cases r : bL w i with
          | false => rfl
          | true => rw [q.mpr r] at p; cases p
      · rw [X.1 (fun z => c z.2)]
        exact (M.1 (fun z => c (by rw [n]; exact z.2))).symm
  rw [e]; exact y
theorem R_far {σ s : Sto} (h : JT4 σ s) (a b : Int32) : ∃ v s2, f_X11_far a b σ = some v ∧ f_X12_far a b s = some (v, s2) ∧ JT4 σ s2 := by
  obtain ⟨v, w, s2, x, y, z⟩ := Q_far h a b
  refine ⟨v, s2, x, ?_, z⟩
  have k_m1 : ((-1) : Int32).toInt = -1 := by decide +kernel
  have e : v = w := by
    rcases h.ld with ⟨l1, l2⟩ | ⟨l1, l2⟩
    · have ev : v = -1 := by
        unfold f_X11_far at x
        obtain ⟨c, b1, x⟩ := calp_inv x
        obtain ⟨k, hk, b2⟩ := jn_inv0 x
        have q := t_isBlockX _ b1
        have b0 : c = 0 := Int32.toInt_inj.mp (Classical.byContradiction fun z => absurd l1 (q.mp (by rw [show (0 : Int32).toInt = 0 by decide +kernel] at z; exact z)).1)
        rw [if_pos b0] at b2
        exact (Option.some.inj (hk b2)).symm
      have G := h.1.1.2.1.1
      have ew : w.toInt = -1 := by
        unfold f_X12_far at y
        obtain ⟨s1, e1, y⟩ := lt_inv y
        obtain ⟨c, b1, b2⟩ := calp_inv y
        have q := t_isBlockM (by rw [e1]; exact pM_0 G (by decide)) _ b1
        have b0 : c = 0 := Int32.toInt_inj.mp (Classical.byContradiction fun z => by
          have w := (q.mp (by rw [show (0 : Int32).toInt = 0 by decide +kernel] at z; exact z)).1
          rw [e1, sti_o (by decide)] at w
          exact w l2)
        rw [if_pos b0] at b2
        have p := Option.some.inj b2
        injection p with p1 p2
        rw [← p1]; exact k_m1
      rw [ev]
      exact Int32.toInt_inj.mp (k_m1.trans ew.symm)
    · obtain ⟨n, ag, hr, hb, B, g40, E⟩ := h.graph l1
      have X := t_farX (x1 := a) (x2 := b) g40 hb hr _ x
      have M := t_farM (x1 := a) (x2 := b) B (fun x y z => E.rng z) _ y
      by_cases c : (0 ≤ a.toInt ∧ a.toInt < (σ.1 20 0).toInt) ∧ 0 ≤ b.toInt ∧ b.toInt < (σ.1 20 0).toInt
      · have X2 := X.2 ⟨⟨l1, c.1⟩, c.2⟩
        have M2 := M.2 ⟨⟨l2, by rw [← n]; exact c.1⟩, by rw [← n]; exact c.2⟩
        exact Int32.toInt_inj.mp (X2.uq M2)
      · have X2 := X.1 (fun z => c ⟨z.1.2, z.2⟩)
        have M2 := M.1 (fun z => c (by rw [n]; exact ⟨z.1.2, z.2⟩))
        exact Int32.toInt_inj.mp (X2.trans M2.symm)
  rw [e]; exact y
