theorem s_comesTo {σ τ : Sto} {x1 : Int32} (h : GR τ σ) : OK (f_X12_comesTo x1 σ) (fun r => GR τ r.2) := by
  have k_0 : (0 : Int32).toInt = 0 := by decide +kernel
  have k_1 : (1 : Int32).toInt = 1 := by decide +kernel
  unfold f_X12_comesTo
  refine ok_lt fun s1 e1 => ?_
  have f1 : FR [0] [] σ s1 := by rw [e1]; exact FR.st FR.rf (by decide)
  have B1 : BM s1 := by rw [e1]; exact pM_0 h.1 (by omega)
  have G1 : GR τ s1 := h.fr B1 f1 rfl rfl
  have g32 := gM_32 B1 0
  refine ok_calp (s_isBlock G1) (fun v2 q => ?_)
  refine ok_ite (fun _ => ok_ret G1) (fun _ => ?_)
  refine ok_itr2 (fun n S g => n = 2 * (65 - fb_ct (bL S) 64) + g.toInt.toNat ∧ (g.toInt = 0 ∨ g.toInt = 1)) ?_ (n := 2 * (65 - fb_ct (bL (0 : Int64)) 64) + (1 : Int32).toInt.toNat) ⟨rfl, Or.inr k_1⟩ (by rw [k_1]; have : (1 : Int).toNat = 1 := rfl; unfold LF; omega)
  intro ag n S g I ih
  obtain ⟨hn, h01⟩ := I
  refine ok_ite (fun _ => ok_ret G1) (fun c1 => ?_)
  rw [fa_eq, k_0] at c1
  have hct := fb_ct_le (bL S) 64
  refine ok_itr3 (fun n T f e => n = (121 - e.toInt).toNat ∧ 0 ≤ e.toInt ∧ e.toInt ≤ (s1.1 32 0).toInt ∧ (f.toInt = 0 ∨ f.toInt = 1) ∧ fb_ct (bL S) 64 ≤ fb_ct (bL T) 64 ∧ (f.toInt = 1 → fb_ct (bL S) 64 + 1 ≤ fb_ct (bL T) 64)) ?_ (n := (121 - (0 : Int32).toInt).toNat) ⟨rfl, by omega, by omega, Or.inl k_0, Nat.le_refl _, fun z => by omega⟩ (by rw [k_0]; decide)
  intro ag2 n2 T f e I2 ih2
  obtain ⟨hn2, a0, aE, f01, a1, a2⟩ := I2
  have ce := clamp_I a0
  have hctT := fb_ct_le (bL T) 64
  refine ok_ite (fun c2 => ?_) (fun c2 => ?_)
  · refine ih (2 * (65 - fb_ct (bL T) 64) + f.toInt.toNat) T f ?_ ⟨rfl, f01⟩
    rcases f01 with z | z
    · rw [hn]; omega
    · have := a2 z; omega
  · rw [fa_le] at c2
    have ie : 0 ≤ e.toInt ∧ e.toInt < 120 := by omega
    have ex : (e + 1).toInt = e.toInt + 1 := i1 (by omega)
    have g27 := gM_27 B1 e.toNatClampNeg
    have g28 := gM_28 B1 e.toNatClampNeg
    refine ok_ix ie ?_
    refine ok_lt fun v8 e8 => ?_
    refine ok_jnI2 (fun U u => (u.toInt = 0 ∨ u.toInt = 1) ∧ fb_ct (bL S) 64 ≤ fb_ct (bL U) 64 ∧ (u.toInt = 1 → fb_ct (bL S) 64 + 1 ≤ fb_ct (bL U) 64)) (fun U u hu => ?_) (fun k hk => ?_)
    · refine ok_lt fun x10 e10 => ?_
      subst e10
      exact ih2 (121 - (e + 1).toInt).toNat U u (e + 1) (by rw [hn2, ex]; omega) ⟨rfl, by omega, by omega, hu.1, hu.2.1, hu.2.2⟩
    · refine ok_jnI0 True (fun _ => ?_) (fun k2 hk2 => ?_)
      · refine ok_ix ie ?_
        refine ok_lt fun v12 e12 => ?_
        subst e12
        refine ok_calp (s_has (x := T) g27) (fun v13 h13 => ?_)
        refine ok_ite (fun c5 => ?_) (fun _ => hk T f ⟨f01, a1, a2⟩)
        rw [fa_eq, k_0] at c5
        have hf : bL T (eA s1 e.toNatClampNeg) = false := bf (fun z => by have := h13.2.mpr z; omega)
        refine ok_ix ie ?_
        refine ok_lt fun v15 e15 => ?_
        subst e15
        refine ok_lt fun U eU => ?_
        have ct := set_ct (x := T) (v := s1.1 27 e.toNatClampNeg) (n := 64) g27.1 (by omega) (by have := (e39 B1 e.toNatClampNeg).1; unfold eA at this; omega) hf
        rw [← eU] at ct
        exact hk U 1 ⟨Or.inr k_1, by omega, fun _ => by omega⟩
      · refine ok_ite (fun _ => hk2 trivial) (fun _ => ?_)
        refine ok_ix ie ?_
        refine ok_lt fun v18 e18 => ?_
        subst e18
        refine ok_calp (s_has (x := T) g28) (fun v19 _ => ?_)
        exact ok_ite (fun _ => hk T f ⟨f01, a1, a2⟩) (fun _ => hk2 trivial)
theorem s_far {σ τ : Sto} {x1 x2 : Int32} (h : GR τ σ) : OK (f_X12_far x1 x2 σ) (fun r => GR τ r.2) := by
  have k_0 : (0 : Int32).toInt = 0 := by decide +kernel
  unfold f_X12_far
  refine ok_lt fun s1 e1 => ?_
  have f1 : FR [0] [] σ s1 := by rw [e1]; exact FR.st FR.rf (by decide)
  have B1 : BM s1 := by rw [e1]; exact pM_0 h.1 (by omega)
  have G1 : GR τ s1 := h.fr B1 f1 rfl rfl
  have g32 := gM_32 B1 0
  have nb := nB_le B1
  refine ok_calp (s_isBlock G1) (fun v2 q => ?_)
  refine ok_ite (fun _ => ok_ret G1) (fun _ => ?_)
  refine ok_calp (s_isBlock G1) (fun v4 r => ?_)
  refine ok_ite (fun _ => ok_ret G1) (fun c1 => ?_)
  rw [fa_eq, k_0] at c1
  obtain ⟨_, b0, b1⟩ := r.2 c1
  have cb := clamp_I b0
  refine ok_lt fun S0 _ => ?_
  have h0 := fb_ct_le (bL S0) 64
  refine ok_itr2 (fun n S g => n = 65 - fb_ct (bL S) 64) ?_ (n := 65 - fb_ct (bL S0) 64) rfl (by unfold LF; omega)
  intro ag n S g hn
  intro ih
  have hct := fb_ct_le (bL S) 64
  refine ok_calp (s_has (x := S) (by omega)) (fun v8 _ => ?_)
  refine ok_ite (fun _ => ?_) (fun _ => ok_ret G1)
  refine ok_itr2 (fun n T e => n = (121 - e.toInt).toNat ∧ 0 ≤ e.toInt ∧ e.toInt ≤ (s1.1 32 0).toInt ∧ (T = S ∨ fb_ct (bL S) 64 + 1 ≤ fb_ct (bL T) 64)) ?_ (n := (121 - (0 : Int32).toInt).toNat) ⟨rfl, by omega, by omega, Or.inl rfl⟩ (by rw [k_0]; decide)
  intro ag2 n2 T e I2 ih2
  obtain ⟨hn2, a0, aE, a1⟩ := I2
  have ce := clamp_I a0
  have hctT := fb_ct_le (bL T) 64
  refine ok_ite (fun c2 => ?_) (fun c2 => ?_)
  · refine ok_ite (fun _ => ok_ret G1) (fun c3 => ?_)
    rw [lg_cmp_eq] at c3
    have a2 := a1.resolve_left c3
    refine ok_lt fun x13 _ => ?_
    exact ih (65 - fb_ct (bL T) 64) T x13 (by omega) rfl
  · rw [fa_le] at c2
    have ie : 0 ≤ e.toInt ∧ e.toInt < 120 := by omega
    have ex : (e + 1).toInt = e.toInt + 1 := i1 (by omega)
    have g27 := gM_27 B1 e.toNatClampNeg
    have g28 := gM_28 B1 e.toNatClampNeg
    refine ok_ix ie ?_
    refine ok_lt fun v14 e14 => ?_
    subst e14
    refine ok_calp (s_has (x := S) g27) (fun v15 _ => ?_)
    refine ok_jnI1 (fun U => U = S ∨ fb_ct (bL S) 64 + 1 ≤ fb_ct (bL U) 64) (fun U hu => ?_) (fun k hk => ?_)
    · refine ok_lt fun x17 e17 => ?_
      subst e17
      exact ih2 (121 - (e + 1).toInt).toNat U (e + 1) (by rw [hn2, ex]; omega) ⟨rfl, by omega, by omega, hu⟩
    · refine ok_ite (fun _ => hk T a1) (fun _ => ?_)
      refine ok_ix ie ?_
      refine ok_lt fun v19 e19 => ?_
      subst e19
      refine ok_lt fun U eU => ?_
      refine hk U ?_
      by_cases hf : bL T (s1.1 28 e.toNatClampNeg).toNatClampNeg = true
      · have : U = T := bL_ext (fun i => by
          rw [eU, bL_set g28.1 (by omega)]
          by_cases z : i = (s1.1 28 e.toNatClampNeg).toNatClampNeg
          · rw [z, hf]; rfl
          · rw [decide_eq_false z, Bool.or_false])
        rw [this]; exact a1
      · have ct := set_ct (x := T) (v := s1.1 28 e.toNatClampNeg) (n := 64) g28.1 (by omega) (by have := (e39 B1 e.toNatClampNeg).2.1; unfold eB at this; omega) (bf hf)
        rw [← eU] at ct
        rcases a1 with z | z
        · rw [z] at ct; right; omega
        · right; omega
theorem s_mostLoops {σ : Sto} (hB : BM σ) : OK (f_X12_mostLoops σ) (fun _ => True) := by
  have k_0 : (0 : Int32).toInt = 0 := by decide +kernel
  have g := gM_26 hB 0
  unfold f_X12_mostLoops
  refine ok_itr2 (fun n _ x => n = (41 - x.toInt).toNat ∧ 0 ≤ x.toInt ∧ x.toInt ≤ 40) ?_ (n := (41 - (0 : Int32).toInt).toNat) ⟨rfl, by omega, by omega⟩ (by rw [k_0]; decide)
  intro ag n c x I ih
  obtain ⟨hn, x0, x4⟩ := I
  refine ok_ite (fun _ => ok_ret trivial) (fun c1 => ?_)
  rw [fa_le] at c1
  refine ok_calp (s_loopsOf hB (by omega)) (fun v3 _ => ?_)
  refine ok_lt fun v4 _ => ?_
  refine ok_lt fun x6 e6 => ?_
  have ex : x6.toInt = x.toInt + 1 := by rw [e6]; exact i1 (by omega)
  exact ih (41 - x6.toInt).toNat v4 x6 (by omega) ⟨rfl, by omega, by omega⟩
theorem s_deepest {σ : Sto} (hB : BM σ) : OK (f_X12_deepest σ) (fun _ => True) := by
  have k_0 : (0 : Int32).toInt = 0 := by decide +kernel
  have g := gM_62 hB 0
  unfold f_X12_deepest
  refine ok_itr2 (fun n _ x => n = (1401 - x.toInt).toNat ∧ 0 ≤ x.toInt ∧ x.toInt ≤ 1400) ?_ (n := (1401 - (0 : Int32).toInt).toNat) ⟨rfl, by omega, by omega⟩ (by rw [k_0]; decide)
  intro ag n c x I ih
  obtain ⟨hn, x0, x4⟩ := I
  refine ok_ite (fun _ => ok_ret trivial) (fun c1 => ?_)
  rw [fa_le] at c1
  refine ok_ix (by omega) ?_
  refine ok_lt fun v3 _ => ?_
  refine ok_lt fun v4 _ => ?_
  refine ok_lt fun x6 e6 => ?_
  have ex : x6.toInt = x.toInt + 1 := by rw [e6]; exact i1 (by omega)
  exact ih (1401 - x6.toInt).toNat v4 x6 (by omega) ⟨rfl, by omega, by omega⟩
theorem s_mostLines {σ : Sto} {x1 : Int32} (hB : BM σ) : OK (f_X12_mostLines x1 σ) (fun _ => True) := by
  have k_0 : (0 : Int32).toInt = 0 := by decide +kernel
  have g := gM_62 hB 0
  unfold f_X12_mostLines
  refine ok_itr2 (fun n _ x => n = (1401 - x.toInt).toNat ∧ 0 ≤ x.toInt ∧ x.toInt ≤ 1400) ?_ (n := (1401 - (0 : Int32).toInt).toNat) ⟨rfl, by omega, by omega⟩ (by rw [k_0]; decide)
  intro ag n c x I ih
  obtain ⟨hn, x0, x4⟩ := I
  refine ok_ite (fun _ => ok_ret trivial) (fun c1 => ?_)
  rw [fa_le] at c1
  refine ok_ix (by omega) ?_
  refine ok_lt fun v3 _ => ?_
  refine ok_jnI1 (fun _ => True) (fun t _ => ?_) (fun k hk => ok_ite (fun _ => hk _ trivial) (fun _ => hk _ trivial))
  refine ok_lt fun x5 e5 => ?_
  refine ok_lt fun x6 e6 => ?_
  have ex : x6.toInt = x.toInt + 1 := by rw [e6]; exact i1 (by omega)
  exact ih (1401 - x6.toInt).toNat x5 x6 (by omega) ⟨rfl, by omega, by omega⟩
theorem s_mostWithin {σ : Sto} (hB : BM σ) (hS : STS σ) : OK (f_X12_mostWithin σ) (fun _ => True) := by
  have k_0 : (0 : Int32).toInt = 0 := by decide +kernel
  have k_m1 : ((-1) : Int32).toInt = -1 := by decide +kernel
  have g := gM_47 hB 0
  unfold f_X12_mostWithin
  refine ok_itr2 (fun n _ x => n = (401 - x.toInt).toNat ∧ 0 ≤ x.toInt ∧ x.toInt ≤ 400) ?_ (n := (401 - (0 : Int32).toInt).toNat) ⟨rfl, by omega, by omega⟩ (by rw [k_0]; decide)
  intro ag n c x I ih
  obtain ⟨hn, x0, x4⟩ := I
  have cx := clamp_I x0
  refine ok_ite (fun _ => ok_ret trivial) (fun c1 => ?_)
  rw [fa_le] at c1
  refine ok_ix (by omega) ?_
  refine ok_lt fun v3 e3 => ?_
  refine ok_jnI1 (fun _ => True) (fun t _ => ?_) (fun k hk => ?_)
  · refine ok_lt fun x6 e6 => ?_
    have ex : x6.toInt = x.toInt + 1 := by rw [e6]; exact i1 (by omega)
    exact ih (401 - x6.toInt).toNat t x6 (by omega) ⟨rfl, by omega, by omega⟩
  · refine ok_ite (fun _ => hk _ trivial) (fun c2 => ?_)
    rw [fa_eq, k_m1, e3] at c2
    have W := hS.1 x.toNatClampNeg (by omega)
    have k6 : (σ.1 42 x.toNatClampNeg).toInt ≠ 6 := fun z => c2 (W.2.2.2.2 z)
    obtain ⟨w1, w2⟩ := W.2.2.2.1 k6
    refine ok_ix (by omega) ?_
    refine ok_lt fun v7 e7 => ?_
    subst e7
    refine ok_calp (sd_within hB 250 60 _ w1 (w2.up (by decide) (Nat.le_refl _))) (fun v8 _ => ?_)
    exact ok_lt fun v9 _ => hk _ trivial
theorem s_mostOnStack {σ : Sto} (hB : BM σ) : OK (f_X12_mostOnStack σ) (fun _ => True) := by
  have k_0 : (0 : Int32).toInt = 0 := by decide +kernel
  have g := gM_15 hB 0
  unfold f_X12_mostOnStack
  refine ok_itr2 (fun n _ x => n = (41 - x.toInt).toNat ∧ 0 ≤ x.toInt ∧ x.toInt ≤ 40) ?_ (n := (41 - (0 : Int32).toInt).toNat) ⟨rfl, by omega, by omega⟩ (by rw [k_0]; decide)
  intro ag n c x I ih
  obtain ⟨hn, x0, x4⟩ := I
  refine ok_ite (fun _ => ok_ret trivial) (fun c1 => ?_)
  rw [fa_le] at c1
  refine ok_calp (s_X12_isCome hB (by omega)) (fun v3 _ => ?_)
  have xi : 0 ≤ x.toInt ∧ x.toInt < 40 := by omega
  have g9 := gM_9 hB x.toNatClampNeg
  refine ok_jnI1 (fun _ => True) (fun t _ => ?_) (fun k hk => ?_)
  · refine ok_lt fun x6 e6 => ?_
    have ex : x6.toInt = x.toInt + 1 := by rw [e6]; exact i1 (by omega)
    exact ih (41 - x6.toInt).toNat t x6 (by omega) ⟨rfl, by omega, by omega⟩
  · refine ok_ite (fun _ => hk _ trivial) (fun c2 => ?_)
    refine ok_ix xi ?_
    refine ok_lt fun v7 _ => ?_
    refine ok_ix xi ?_
    refine ok_lt fun v8 _ => ?_
    refine ok_ix xi ?_
    refine ok_lt fun v9 e9 => ?_
    refine ok_calp (s_X12_pops (by rw [e9]; exact g9)) (fun v10 _ => ?_)
    refine ok_ix xi ?_
    refine ok_lt fun v11 e11 => ?_
    refine ok_calp (s_X12_pushes (by rw [e11]; exact g9)) (fun v12 _ => ?_)
    refine ok_lt fun v13 _ => ?_
    exact ok_lt fun v14 _ => hk _ trivial
theorem s_longestBlock {σ : Sto} (hB : BM σ) : OK (f_X12_longestBlock σ) (fun _ => True) := by
  have k_0 : (0 : Int32).toInt = 0 := by decide +kernel
  have k_1 : (1 : Int32).toInt = 1 := by decide +kernel
  have g := gM_26 hB 0
  unfold f_X12_longestBlock
  refine ok_itr2 (fun n b x => n = (42 - x.toInt).toNat ∧ 0 ≤ x.toInt ∧ x.toInt ≤ 41 ∧ 0 ≤ b.toInt ∧ b.toInt ≤ 39) ?_ (n := (42 - (1 : Int32).toInt).toNat) ⟨rfl, by omega, by omega, by omega, by omega⟩ (by rw [k_1]; decide)
  intro ag n b x I ih
  obtain ⟨hn, x0, x4, b0, b4⟩ := I
  refine ok_ite (fun _ => ok_ret trivial) (fun c1 => ?_)
  rw [fa_le] at c1
  have ex : (x + 1).toInt = x.toInt + 1 := i1 (by omega)
  have eb : (b + 1).toInt = b.toInt + 1 := i1 (by omega)
  refine ok_ix (by omega) ?_
  refine ok_lt fun v3 _ => ?_
  refine ok_ix (by omega) ?_
  refine ok_lt fun v4 _ => ?_
  refine ok_ix (by omega) ?_
  refine ok_lt fun v5 _ => ?_
  refine ok_ix (by omega) ?_
  refine ok_lt fun v6 _ => ?_
  refine ok_jnI1 (fun t => 0 ≤ t.toInt ∧ t.toInt ≤ 39) (fun t ht => ?_) (fun k hk => ok_ite (fun _ => hk _ ⟨b0, b4⟩) (fun _ => hk _ ⟨x0, by omega⟩))
  refine ok_lt fun x6 e6 => ?_
  subst e6
  exact ih (42 - (x + 1).toInt).toNat t (x + 1) (by omega) ⟨rfl, by omega, by omega, ht.1, ht.2⟩
theorem s_truths {σ : Sto} (hB : BM σ) : OK (f_X12_truths σ) (fun _ => True) := by
  have k_0 : (0 : Int32).toInt = 0 := by decide +kernel
  have k_6 : (6 : Int32).toInt = 6 := by decide +kernel
  have g51 := gM_51 hB 0
  have g48 := gM_48 hB 0
  unfold f_X12_truths
  refine ok_itr2 (fun n _ x => n = (7 - x.toInt).toNat ∧ 0 ≤ x.toInt ∧ x.toInt ≤ 6) ?_ (n := (7 - (0 : Int32).toInt).toNat) ⟨rfl, by omega, by omega⟩ (by rw [k_0]; decide)
  intro ag n c x I ih
  obtain ⟨hn, x0, x4⟩ := I
  refine ok_ite (fun _ => ?_) (fun c1 => ?_)
  · refine ok_itr2 (fun n _ x => n = (9 - x.toInt).toNat ∧ 0 ≤ x.toInt ∧ x.toInt ≤ 8) ?_ (n := (9 - (0 : Int32).toInt).toNat) ⟨rfl, by omega, by omega⟩ (by rw [k_0]; decide)
    intro ag n c x I ih
    obtain ⟨hn, x0, x4⟩ := I
    refine ok_ite (fun _ => ?_) (fun c1 => ?_)
    · refine ok_itr2 (fun n _ x => n = (401 - x.toInt).toNat ∧ 0 ≤ x.toInt ∧ x.toInt ≤ 400) ?_ (n := (401 - (0 : Int32).toInt).toNat) ⟨rfl, by omega, by omega⟩ (by rw [k_0]; decide)
      intro ag n c x I ih
      obtain ⟨hn, x0, x4⟩ := I
      refine ok_ite (fun _ => ok_ret trivial) (fun c1 => ?_)
      rw [fa_le] at c1
      refine ok_ix (by omega) ?_
      refine ok_lt fun v7 _ => ?_
      refine ok_jnI1 (fun _ => True) (fun t _ => ?_) (fun k hk => ok_ite (fun _ => hk _ trivial) (fun _ => hk _ trivial))
      refine ok_lt fun x5 e5 => ?_
      refine ok_lt fun x6 e6 => ?_
      have ex : x6.toInt = x.toInt + 1 := by rw [e6]; exact i1 (by omega)
      exact ih (401 - x6.toInt).toNat x5 x6 (by omega) ⟨rfl, by omega, by omega⟩
    · rw [fa_le] at c1
      refine ok_ix (by omega) ?_
      refine ok_lt fun v7 _ => ?_
      refine ok_jnI1 (fun _ => True) (fun t _ => ?_) (fun k hk => ok_ite (fun _ => hk _ trivial) (fun _ => hk _ trivial))
      refine ok_lt fun x5 e5 => ?_
      refine ok_lt fun x6 e6 => ?_
      have ex : x6.toInt = x.toInt + 1 := by rw [e6]; exact i1 (by omega)
      exact ih (9 - x6.toInt).toNat x5 x6 (by omega) ⟨rfl, by omega, by omega⟩
  · rw [fa_le, k_6] at c1
    refine ok_ix (by omega) ?_
    refine ok_lt fun v7 _ => ?_
    refine ok_jnI1 (fun _ => True) (fun t _ => ?_) (fun k hk => ok_ite (fun _ => hk _ trivial) (fun _ => hk _ trivial))
    refine ok_lt fun x5 e5 => ?_
    refine ok_lt fun x6 e6 => ?_
    have ex : x6.toInt = x.toInt + 1 := by rw [e6]; exact i1 (by omega)
    exact ih (7 - x6.toInt).toNat x5 x6 (by omega) ⟨rfl, by omega, by omega⟩
theorem s_most {σ τ : Sto} {x1 : Int32} (h : GR τ σ) : OK (f_X12_most x1 σ) (fun r => GR τ r.2) := by
  have k_0 : (0 : Int32).toInt = 0 := by decide +kernel
  unfold f_X12_most
  refine ok_lt fun s1 e1 => ?_
  have f1 : FR [0] [] σ s1 := by rw [e1]; exact FR.st FR.rf (by decide)
  have B1 : BM s1 := by rw [e1]; exact pM_0 h.1 (by omega)
  have G1 : GR τ s1 := h.fr B1 f1 rfl rfl
  refine ok_ite (fun _ => ok_ret G1) (fun c1 => ?_)
  rw [fa_eq, k_0] at c1
  have L := G1.2.1.resolve_left c1
  refine ok_ite (fun _ => ok_calp (s_mostLoops B1) (fun v _ => ok_ret G1)) (fun _ => ?_)
  refine ok_ite (fun _ => ok_ite (fun _ => ok_ret G1) (fun _ => ok_calp (s_deepest B1) (fun v _ => ok_ret G1))) (fun _ => ?_)
  refine ok_ite (fun _ => ok_ite (fun _ => ok_ret G1) (fun _ => ok_calp (s_mostLines B1) (fun v _ => ok_ret G1))) (fun _ => ?_)
  refine ok_ite (fun _ => ok_ite (fun _ => ok_ret G1) (fun _ => ok_calp (s_mostLines B1) (fun v _ => ok_ret G1))) (fun _ => ?_)
  refine ok_ite (fun _ => ok_calp (s_mostWithin B1 L.2.2.2.2.2.2.2.2.2.1) (fun v _ => ok_ret G1)) (fun _ => ?_)
  refine ok_ite (fun _ => ok_calp (s_mostOnStack B1) (fun v _ => ok_ret G1)) (fun _ => ?_)
  refine ok_ite (fun _ => ok_calp (s_longestBlock B1) (fun v _ => ok_ret G1)) (fun _ => ?_)
  refine ok_ite (fun _ => ok_calp (s_truths B1) (fun v _ => ok_ret G1)) (fun _ => ?_)
  exact ok_ret G1
