/-- an edge from one to another -/
def RE (V : EVt) (x y : Nat) : Prop := ∃ e, e < V.1 ∧ V.2.1 e = (x : Int) ∧ V.2.2.1 e = (y : Int)
theorem RE.cg {V W : EVt} (h : AGV V W) {x y : Nat} : RE V x y ↔ RE W x y := by
  constructor
  · rintro ⟨e, h1, h2, h3⟩
    have q := h.2 e h1
    exact ⟨e, by rw [← h.1]; exact h1, by rw [← q.1]; exact h2, by rw [← q.2.1]; exact h3⟩
  · rintro ⟨e, h1, h2, h3⟩
    rw [← h.1] at h1
    have q := h.2 e h1
    exact ⟨e, h1, by rw [q.1]; exact h2, by rw [q.2.1]; exact h3⟩
/-- one comes from x to t by one or more -/
def TCR (V : EVt) (t x : Nat) : Prop := ∀ P : Nat → Prop, (∀ x y, RE V x y → (y = t ∨ P y) → P x) → P x
theorem TCR.st {V : EVt} {t x y : Nat} (h : RE V x y) (g : y = t ∨ TCR V t y) : TCR V t x := fun P hP => hP x y h (g.imp_right (fun z => z P hP))
theorem TCR.src {V : EVt} {t x : Nat} (h : TCR V t x) : ∃ y, RE V x y := h (fun x => ∃ y, RE V x y) (fun x y q _ => ⟨y, q⟩)
theorem TCR.cg {V W : EVt} (h : AGV V W) {t x : Nat} : TCR V t x ↔ TCR W t x := by
  unfold TCR
  constructor
  · exact fun z P hP => z P (fun x y q => hP x y ((RE.cg h).mp q))
  · exact fun z P hP => z P (fun x y q => hP x y ((RE.cg h).mpr q))
/-- what one comes to from a by at most so many -/
def DST (V : EVt) (a : Nat) : Nat → Nat → Prop
  | 0, i => i = a
  | k + 1, i => DST V a k i ∨ ∃ j, DST V a k j ∧ RE V j i
theorem DST.cg {V W : EVt} (h : AGV V W) {a : Nat} : ∀ k i, DST V a k i ↔ DST W a k i
  | 0, _ => Iff.rfl
  | k + 1, i => by
    have ih := DST.cg h (a := a) k
    show (DST V a k i ∨ _) ↔ (DST W a k i ∨ _)
    rw [ih i]
    constructor
    · rintro (z | ⟨j, z1, z2⟩)
      · exact Or.inl z
      · exact Or.inr ⟨j, (ih j).mp z1, (RE.cg h).mp z2⟩
    · rintro (z | ⟨j, z1, z2⟩)
      · exact Or.inl z
      · exact Or.inr ⟨j, (ih j).mpr z1, (RE.cg h).mpr z2⟩
theorem DST.mono {V : EVt} {a : Nat} {k m : Nat} (h : k ≤ m) {i : Nat} (z : DST V a k i) : DST V a m i := by
  induction m with
  | zero => rw [show k = 0 by omega] at z; exact z
  | succ m ih =>
    by_cases q : k = m + 1
    · rw [← q]; exact z
    · exact Or.inl (ih (by omega))
theorem DST.stable {V : EVt} {a j : Nat} (h : ∀ i, DST V a (j + 1) i → DST V a j i) : ∀ m i, DST V a (j + m) i → DST V a j i
  | 0, _, z => z
  | m + 1, i, z => by
    rcases z with z | ⟨q, z1, z2⟩
    · exact DST.stable h m i z
    · exact h i (Or.inr ⟨q, DST.stable h m q z1, z2⟩)
noncomputable def cDs (V : EVt) (a k : Nat) : Nat → Bool := fun i => @decide (DST V a k i) (Classical.propDecidable _)
theorem cDs_t {V : EVt} {a k i : Nat} : cDs V a k i = true ↔ DST V a k i := @decide_eq_true_iff _ (Classical.propDecidable _)
theorem ct_lt {p q : Nat → Bool} {n i : Nat} (h : ∀ k, k < n → p k = true → q k = true) (hi : i < n) (h1 : p i = false) (h2 : q i = true) : fb_ct p n + 1 ≤ fb_ct q n := by
  exact fb_ct_lt h ⟨i, hi, h2, h1⟩
theorem DST.ct {V : EVt} {a nb : Nat} (ha : a < nb) (hr : ∀ x y, RE V x y → y < nb) : ∀ k, (∀ j, j < k → ∃ i, DST V a (j + 1) i ∧ ¬ DST V a j i) → k + 1 ≤ fb_ct (cDs V a k) nb
  | 0, _ => fb_ct_pos.mpr ⟨a, ha, cDs_t.mpr rfl⟩
  | k + 1, h => by
    have ih := DST.ct ha hr k (fun j hj => h j (by omega))
    obtain ⟨i, i1, i2⟩ := h k (by omega)
    have hi : i < nb := by
      rcases i1 with z | ⟨j, _, z⟩
      · exact absurd z i2
      · exact hr j i z
    have q := ct_lt (p := cDs V a k) (q := cDs V a (k + 1)) (n := nb) (i := i) (fun c _ z => cDs_t.mpr (Or.inl (cDs_t.mp z))) hi (by
      cases z : cDs V a k i with
      | false => rfl
      | true => exact absurd (cDs_t.mp z) i2) (cDs_t.mpr i1)
    omega
/-- the fewest -/
def FAR (V : EVt) (a o : Nat) (v : Int) : Prop := (v = -1 ∧ ∀ k, ¬ DST V a k o) ∨ ∃ k : Nat, v = k ∧ DST V a k o ∧ ∀ j, j < k → ¬ DST V a j o
theorem FAR.uq {V : EVt} {a o : Nat} {v w : Int} (h : FAR V a o v) (g : FAR V a o w) : v = w := by
  rcases h with ⟨h1, h2⟩ | ⟨k, k1, k2, k3⟩
  · rcases g with ⟨g1, _⟩ | ⟨m, _, m2, _⟩
    · rw [h1, g1]
    · exact absurd m2 (h2 m)
  · rcases g with ⟨_, g2⟩ | ⟨m, m1, m2, m3⟩
    · exact absurd k2 (g2 k)
    · have a1 : ¬ k < m := fun z => m3 k z k2
      have a2 : ¬ m < k := fun z => k3 m z m2
      rw [k1, m1, show k = m by omega]
theorem FAR.cg {V W : EVt} (h : AGV V W) {a o : Nat} {v : Int} (g : FAR V a o v) : FAR W a o v := by
  rcases g with ⟨h1, h2⟩ | ⟨k, k1, k2, k3⟩
  · exact Or.inl ⟨h1, fun k z => h2 k ((DST.cg h k o).mpr z)⟩
  · exact Or.inr ⟨k, k1, (DST.cg h k o).mp k2, fun j hj z => k3 j hj ((DST.cg h j o).mpr z)⟩
theorem DST.lt {V : EVt} {a o nb k : Nat} (ha : a < nb) (hr : ∀ x y, RE V x y → y < nb) (h1 : DST V a k o) (h2 : ∀ j, j < k → ¬ DST V a j o) : k < nb := by
  have q := DST.ct ha hr k (fun j hj => Classical.byContradiction fun z => by
    have st : ∀ i, DST V a (j + 1) i → DST V a j i := fun i hi => Classical.byContradiction fun y => z ⟨i, hi, y⟩
    have := DST.stable st (k - j) o (by rw [show j + (k - j) = k by omega]; exact h1)
    exact h2 j hj this)
  have := fb_ct_le (cDs V a k) nb
  omega
/-- what is left undone till nb steps is never done -/
theorem DST.never {V : EVt} {a o nb : Nat} (ha : a < nb) (hr : ∀ x y, RE V x y → y < nb) (h : ∀ j, j ≤ nb → ¬ DST V a j o) : ∀ k, ¬ DST V a k o := by
  intro k
  induction k using Nat.strongRecOn with
  | _ k ih => exact fun z => h k (Nat.le_of_lt (DST.lt ha hr z ih)) z
theorem t_isBlockX {x : Int32} {σ : Sto} : PC (f_X11_isBlock x σ) (fun v => v.toInt ≠ 0 ↔ ((σ.1 0 0).toInt ≠ 0 ∧ 0 ≤ x.toInt ∧ x.toInt < (σ.1 20 0).toInt)) := by
  have k_0 : (0 : Int32).toInt = 0 := by decide +kernel
  have k_1 : (1 : Int32).toInt = 1 := by decide +kernel
  unfold f_X11_isBlock
  refine pc_jn ?_
  refine pc_ite (fun c => pc_ret ?_) (fun c => ?_)
  · rw [fa_eq, k_0] at c
    exact ⟨fun z => absurd k_0 z, fun z => absurd c z.1⟩
  rw [fa_eq, k_0] at c
  refine pc_ite (fun c2 => pc_ret ?_) (fun c2 => ?_)
  · rw [fa_lt, k_0] at c2
    exact ⟨fun z => absurd k_0 z, fun z => by omega⟩
  rw [fa_lt, k_0] at c2
  refine pc_ite (fun c3 => pc_ret ?_) (fun c3 => pc_ret ?_)
  · rw [fa_le] at c3
    exact ⟨fun z => absurd k_0 z, fun z => by omega⟩
  · rw [fa_le] at c3
    exact ⟨fun _ => ⟨c, by omega, by omega⟩, fun _ => by rw [k_1]; decide⟩
theorem t_isBlockM {x : Int32} {σ : Sto} (hB : BM σ) : PC (f_X12_isBlock x σ) (fun v => v.toInt ≠ 0 ↔ ((σ.1 21 0).toInt ≠ 0 ∧ 0 ≤ x.toInt ∧ x.toInt < (σ.1 26 0).toInt)) := by
  have k_0 : (0 : Int32).toInt = 0 := by decide +kernel
  have k_1 : (1 : Int32).toInt = 1 := by decide +kernel
  have n1 : (nI 1) = (1 : Int32) := by decide +kernel
  have g26 := gM_26 hB 0
  have em := i_sub (x := σ.1 26 0) (k := 1) (by decide) (by omega)
  rw [n1] at em
  unfold f_X12_isBlock
  refine pc_jn ?_
  refine pc_ite (fun c => pc_ret ?_) (fun c => ?_)
  · rw [fa_eq, k_0] at c
    exact ⟨fun z => absurd k_0 z, fun z => absurd c z.1⟩
  rw [fa_eq, k_0] at c
  refine pc_calp (pc_ok s_isIn) (fun v3 q => ?_)
  rw [Int32.toInt_toInt64, Int32.toInt_toInt64, i64_0, em] at q
  refine pc_ite (fun c2 => pc_ret ?_) (fun c2 => pc_ret ?_)
  · rw [fa_eq, k_0] at c2
    exact ⟨fun z => absurd k_0 z, fun z => absurd (q.2.mpr (by omega)) (fun y => y c2)⟩
  · rw [fa_eq, k_0] at c2
    have := q.2.mp c2
    exact ⟨fun _ => ⟨c, by omega, by omega⟩, fun _ => by rw [k_1]; decide⟩
abbrev EVm (s : Sto) : EVt := EVw s 32 27 28 29
abbrev EVx (s : Sto) : EVt := EVw s 27 29 30 31
theorem RE.m {s : Sto} {x y : Nat} : RE (EVm s) x y ↔ ∃ e, e < nE s ∧ (s.1 27 e).toInt = x ∧ (s.1 28 e).toInt = y := Iff.rfl
/-- the reference's comesTo -/
theorem t_comesToM {σ : Sto} {x1 : Int32} (hB : BM σ) : PC (f_X12_comesTo x1 σ) (fun r => (¬ ((σ.1 21 0).toInt ≠ 0 ∧ 0 ≤ x1.toInt ∧ x1.toInt < (σ.1 26 0).toInt) → r.1 = -1) ∧ (((σ.1 21 0).toInt ≠ 0 ∧ 0 ≤ x1.toInt ∧ x1.toInt < (σ.1 26 0).toInt) → ∀ i, bL r.1 i = true ↔ TCR (EVm σ) x1.toNatClampNeg i)) := by
  have k_0 : (0 : Int32).toInt = 0 := by decide +kernel
  have k_1 : (1 : Int32).toInt = 1 := by decide +kernel
  have g32 := gM_32 hB 0
  unfold f_X12_comesTo
  refine pc_lt fun s1 e1 => ?_
  have B1 : BM s1 := by rw [e1]; exact pM_0 hB (by omega)
  have o : ∀ k, k ≠ 0 → s1.1 k = σ.1 k := fun k hk => by rw [e1, sti_o hk]
  refine pc_calp (t_isBlockM B1) (fun v2 q => ?_)
  rw [o 21 (by decide), o 26 (by decide)] at q
  refine pc_ite (fun c => pc_ret ?_) (fun c => ?_)
  · rw [fa_eq, k_0] at c
    exact ⟨fun _ => rfl, fun z => absurd c (q.mpr z)⟩
  rw [fa_eq, k_0] at c
  have ib := q.mp c
  have cx := clamp_I ib.2.1
  rw [o 27 (by decide), o 28 (by decide), o 32 (by decide)]
  have e_ : ∀ e, e < nE σ → RE (EVm σ) (σ.1 27 e).toInt.toNat (σ.1 28 e).toInt.toNat := fun e he => ⟨e, he, by
    have := gM_27 hB e
    show (σ.1 27 e).toInt = _
    omega, by
    have := gM_28 hB e
    show (σ.1 28 e).toInt = _
    omega⟩
  refine pc_itr2 (fun S g => (g.toInt = 0 ∨ g.toInt = 1) ∧ (∀ i, bL S i = true → TCR (EVm σ) x1.toNatClampNeg i) ∧ (g.toInt = 0 → ∀ x y, RE (EVm σ) x y → (y = x1.toNatClampNeg ∨ bL S y = true) → bL S x = true)) ?_ ⟨Or.inr k_1, fun i z => by (rw [bL_0] at z; exact absurd z (by decide)), fun z => by rw [k_1] at z; omega⟩
  intro ag S g I ih
  obtain ⟨i1_, i2, i3⟩ := I
  refine pc_ite (fun c1 => ?_) (fun c1 => ?_)
  · rw [fa_eq, k_0] at c1
    exact pc_ret ⟨fun z => absurd ib z, fun _ i => ⟨i2 i, fun z => z (fun i => bL S i = true) (i3 c1)⟩⟩
  refine pc_itr3 (fun T f e => 0 ≤ e.toInt ∧ (f.toInt = 0 ∨ f.toInt = 1) ∧ (∀ i, bL T i = true → TCR (EVm σ) x1.toNatClampNeg i) ∧ (f.toInt = 0 → ∀ d : Nat, (d : Int) < e.toInt → d < nE σ → ((σ.1 28 d).toInt.toNat = x1.toNatClampNeg ∨ bL T (σ.1 28 d).toInt.toNat = true) → bL T (σ.1 27 d).toInt.toNat = true)) ?_ ⟨by omega, Or.inl k_0, i2, fun _ d hd => by omega⟩
  intro ag2 T f e I2 ih2
  obtain ⟨a0, f01, a1, a2⟩ := I2
  have ce := clamp_I a0
  refine pc_ite (fun c2 => ?_) (fun c2 => ?_)
  · rw [fa_le] at c2
    refine ih T f ⟨f01, a1, fun z x y hr hy => ?_⟩
    obtain ⟨d, d1, d2, d3⟩ := hr
    have d1 : d < nE σ := d1
    have d2 : (σ.1 27 d).toInt = x := d2
    have d3 : (σ.1 28 d).toInt = y := d3
    have q := a2 z d (by unfold nE at d1; omega) d1
    rw [d2, d3, Int.toNat_natCast, Int.toNat_natCast] at q
    exact q hy
  rw [fa_le] at c2
  have en : e.toNatClampNeg < nE σ := by unfold nE; omega
  have g27 := gM_27 hB e.toNatClampNeg
  have g28 := gM_28 hB e.toNatClampNeg
  have hre := e_ _ en
  refine pc_ix (fun ie => ?_)
  have ex : (e + 1).toInt = e.toInt + 1 := i1 (by omega)
  refine pc_lt fun v8 e8 => ?_
  refine pc_jnI2 (fun U u => (u.toInt = 0 ∨ u.toInt = 1) ∧ (∀ i, bL U i = true → TCR (EVm σ) x1.toNatClampNeg i) ∧ (u.toInt = 0 → (U = T ∧ f.toInt = 0) ∧ (((σ.1 28 e.toNatClampNeg).toInt.toNat = x1.toNatClampNeg ∨ bL U (σ.1 28 e.toNatClampNeg).toInt.toNat = true) → bL U (σ.1 27 e.toNatClampNeg).toInt.toNat = true))) (fun U u hu => ?_) (fun k hk => ?_)
  · refine pc_lt fun x10 e10 => ?_
    subst e10
    refine ih2 U u (e + 1) ⟨by omega, hu.1, hu.2.1, fun z d hd hd2 => ?_⟩
    have w := hu.2.2 z
    by_cases p : d = e.toNatClampNeg
    · rw [p]; exact w.2
    · rw [w.1.1]; exact a2 w.1.2 d (by omega) hd2
  refine pc_jnI0 ((σ.1 28 e.toNatClampNeg).toInt.toNat = x1.toNatClampNeg ∨ bL T (σ.1 28 e.toNatClampNeg).toInt.toNat = true) (fun hy => ?_) (fun k2 hk2 => ?_)
  · refine pc_ix (fun _ => ?_)
    refine pc_lt fun v12 e12 => ?_
    refine pc_calp (pc_ok s_X12_has) (fun v13 h13 => ?_)
    have h131 := h13.1
    have h132 := h13.2 (by rw [e12]; omega) (by rw [e12]; omega)
    have c12 : v12.toNatClampNeg = (σ.1 27 e.toNatClampNeg).toInt.toNat := by rw [e12]; rfl
    rw [c12] at h132
    refine pc_ite (fun c3 => ?_) (fun c3 => ?_)
    · refine pc_ix (fun _ => ?_)
      refine pc_lt fun v15 e15 => ?_
      refine pc_lt fun T16 e16 => ?_
      have c15 : v15.toNatClampNeg = (σ.1 27 e.toNatClampNeg).toInt.toNat := by rw [e15]; rfl
      refine hk T16 1 ⟨Or.inr k_1, fun i z => ?_, fun z => by rw [k_1] at z; omega⟩
      rw [e16, bL_set (by rw [e15]; omega) (by rw [e15]; omega), Bool.or_eq_true, decide_eq_true_eq, c15] at z
      rcases z with z | z
      · exact a1 i z
      · rw [z]
        exact TCR.st hre (hy.imp_right (a1 _))
    · rw [fa_eq, k_0] at c3
      exact hk T f ⟨f01, a1, fun z => ⟨⟨rfl, z⟩, fun _ => h132.mp (by omega)⟩⟩
  · refine pc_ite (fun c3 => hk2 (Or.inl ?_)) (fun c3 => ?_)
    · rw [fa_eq, e8] at c3
      omega
    rw [fa_eq, e8] at c3
    refine pc_ix (fun _ => ?_)
    refine pc_lt fun v18 e18 => ?_
    refine pc_calp (pc_ok s_X12_has) (fun v19 h19 => ?_)
    have h191 := h19.1
    have h192 := h19.2 (by rw [e18]; omega) (by rw [e18]; omega)
    have c18 : v18.toNatClampNeg = (σ.1 28 e.toNatClampNeg).toInt.toNat := by rw [e18]; rfl
    rw [c18] at h192
    refine pc_ite (fun c4 => ?_) (fun c4 => hk2 (Or.inr (h192.mp ?_)))
    · rw [fa_eq, k_0] at c4
      refine hk T f ⟨f01, a1, fun z => ⟨⟨rfl, z⟩, fun y => ?_⟩⟩
      rcases y with y | y
      · exact absurd (by omega) c3
      · have := h192.mpr y
        omega
    · rw [fa_eq, k_0] at c4; omega
