theorem i_sub {x : Int32} {k : Nat} (hk : k < 100) (h : -2147483000 ≤ x.toInt) : (x - nI k).toInt = x.toInt - k := by
  have r := tI_rng x
  have e : (nI k).toInt = k := nI_toInt (by omega)
  rw [fb_subI (by omega) (by omega), e]
theorem s_changes {σ : Sto} {y : Nat} {B p m c : Int} (hB : BM σ) (h : LSt σ (y + 2) B p m c) (hy : y ≤ 5) (hB6 : B ≤ 60) (hp : p ≤ 390) (hm : m ≤ 5000) : OK (f_X12_changes σ) (fun s => BM s ∧ FR FL_ [] σ s ∧ (NGr σ s ∧ SGr σ s) ∧ LSt s (y + 2) B (p + 4) m c) := by
  have k_0 : (0 : Int32).toInt = 0 := by decide +kernel
  have e1 : ((σ.1 50 0) - 1).toInt = y + 1 := by
    have := i_sub (x := σ.1 50 0) (k := 1) (by decide) (by rw [h.1]; omega)
    have q : (nI 1) = (1 : Int32) := by decide +kernel
    rw [q, h.1] at this; omega
  have e2 : ((σ.1 50 0) - 2).toInt = y := by
    have := i_sub (x := σ.1 50 0) (k := 2) (by decide) (by rw [h.1]; omega)
    have q : (nI 2) = (2 : Int32) := by decide +kernel
    rw [q, h.1] at this; omega
  have n1 : ((σ.1 50 0) - 1).toNatClampNeg = y + 1 := by have := clamp_I (x := (σ.1 50 0) - 1) (by omega); omega
  have n2 : ((σ.1 50 0) - 2).toNatClampNeg = y := by have := clamp_I (x := (σ.1 50 0) - 2) (by omega); omega
  have fin : ∀ s3 : Sto, BM s3 → FR FL_ [] σ s3 → (NGr σ s3 ∧ SGr σ s3) → LSt s3 (y + 2) B p m c → OK (calv (f_X12_pops_ s3) fun v_4 s_4 => calv (f_X12_pops_ s_4) fun v_5 s_5 => cals (f_X12_lays v_4 s_5) fun s_6 => cals (f_X12_lays v_5 s_6) fun s_7 => some s_7) (fun s => BM s ∧ FR FL_ [] σ s ∧ (NGr σ s ∧ SGr σ s) ∧ LSt s (y + 2) B (p + 4) m c) := by
    intro s3 a1 a2 a3 a4
    refine ok_calv (s_pop a1 a4) (fun v4 s4 q => ?_)
    obtain ⟨q1, q2, q3, q4, z, z1, z2, z3⟩ := q
    (try dsimp only at q1 q2 q3 q4 z1 z2 z3)
    refine ok_calv (s_pop q1 z3) (fun v5 s5 u => ?_)
    obtain ⟨u1, u2, u3, u4, w, w1, w2, w3⟩ := u
    (try dsimp only at u1 u2 u3 u4 w1 w2 w3)
    have g45 : NGr s4 s5 := NGr.fr u2 rfl
    have t4 := z2.ng g45 (Nat.le_refl _)
    refine ok_cals (s_push u1 w3 (by omega) q4 t4) (fun s6 r => ?_)
    obtain ⟨r1, r2, r3⟩ := r
    have g56 : NGr s5 s6 := NGr.fr r2 rfl
    have t5 := w2.ng g56 (Nat.le_refl _)
    refine ok_cals (s_push r1 r3 (by omega) u4 t5) (fun s7 o => ?_)
    obtain ⟨o1, o2, o3⟩ := o
    have x1 := sp_ng g45 z2.lt
    have x2 := sp_ng g56 w2.lt
    have c1 := ch_01 s4 (y + 1) v4.toNatClampNeg
    have c2 := ch_01 s5 y v5.toNatClampNeg
    have c3 := ch_01 s5 y v4.toNatClampNeg
    have c4 := ch_01 s6 (y + 1) v5.toNatClampNeg
    exact ok_ret ⟨o1, FR.cal (FR.cal (FR.cal (FR.cal a2 q2 rfl rfl) u2 rfl rfl) r2 rfl rfl) o2 rfl rfl, ⟨(((a3.1.tr (NGr.fr q2 rfl)).tr g45).tr g56).tr (NGr.fr o2 rfl), (((a3.2.tr (SGr.fr q2 rfl)).tr (SGr.fr u2 rfl)).tr (SGr.fr r2 rfl)).tr (SGr.fr o2 rfl)⟩, o3.up (by omega) (by omega) (Int.le_refl _) (Int.le_refl _)⟩
  have a1 := h.2.1.at (k := y + 1) (by omega) hB6
  have a2 := h.2.1.at (k := y) (by omega) hB6
  have g1 := gM_49 hB (y + 1)
  have g2 := gM_49 hB y
  unfold f_X12_changes
  refine ok_ix (by omega) ?_
  rw [n1]
  refine ok_lt fun v1 ev1 => ?_
  subst ev1
  refine ok_calp (sd_hasEffects hB 250 60 _ g1.1 (a1.1.up (by decide) (Nat.le_refl _))) (fun v2 h2 => ?_)
  refine ok_jn ?_
  refine ok_ite (fun _ => fin σ hB FR.rf ⟨NGr.rf, SGr.rf⟩ h) (fun _ => ?_)
  refine ok_ix (by omega) ?_
  rw [n2]
  refine ok_lt fun v9 ev9 => ?_
  subst ev9
  refine ok_calp (sd_hasEffects hB 250 60 _ g2.1 (a2.1.up (by decide) (Nat.le_refl _))) (fun v10 h10 => ?_)
  refine ok_ite (fun _ => fin σ hB FR.rf ⟨NGr.rf, SGr.rf⟩ h) (fun _ => ?_)
  refine ok_cals (s_settles hB h (by omega) (by omega) hB6 (by omega) hm) (fun s12 q => ?_)
  obtain ⟨q1, q2, q3, q4, -⟩ := q
  exact fin s12 q1 (FR.cal FR.rf q2 rfl rfl) q3 q4
theorem s_tells {σ : Sto} {y y2 : Nat} {B p m c : Int} {x1 x2 : Int32} (hB : BM σ) (h : LSt σ y B p m c) (hx : ((x1.toInt = 115 ∨ x1.toInt = 111 ∨ x1.toInt = 116) ∧ y = y2 + 1) ∨ ((x1.toInt = 114 ∨ x1.toInt = 103) ∧ y = y2)) (h5 : x1.toInt = 115 → 0 ≤ x2.toInt ∧ x2.toInt ≤ 5) (hy : y ≤ 8) (hB6 : B ≤ 60) (hp : p ≤ 390) (hm : m ≤ 5000) : OK (f_X12_tells x1 x2 σ) (fun s => BM s ∧ FR FL_ [] σ s ∧ (NGr σ s ∧ SGr σ s) ∧ LSt s y2 B (p + 1) m (c + 1) ∧ (x1.toInt = 116 ∨ x1.toInt = 114 → ENk σ s)) := by
  have k_0 : (0 : Int32).toInt = 0 := by decide +kernel
  have k_m1 : ((-1) : Int32).toInt = -1 := by decide +kernel
  have k_3 : (3 : Int32).toInt = 3 := by decide +kernel
  have k_5 : (5 : Int32).toInt = 5 := by decide +kernel
  have k_6 : (6 : Int32).toInt = 6 := by decide +kernel
  have k_103 : (103 : Int32).toInt = 103 := by decide +kernel
  have k_111 : (111 : Int32).toInt = 111 := by decide +kernel
  have k_114 : (114 : Int32).toInt = 114 := by decide +kernel
  have k_115 : (115 : Int32).toInt = 115 := by decide +kernel
  have k_116 : (116 : Int32).toInt = 116 := by decide +kernel
  unfold f_X12_tells
  -- behind what is popped
  have st : ∀ (k w t e : Int32) (s1 : Sto) (p1 : Int), BM s1 → FR FL_ [] σ s1 → (NGr σ s1 ∧ SGr σ s1) → LSt s1 y2 B p1 m c → p1 ≤ p → (0 ≤ k.toInt ∧ k.toInt ≤ 6) → (-1 ≤ w.toInt ∧ w.toInt ≤ 5) → (k.toInt = 0 → 0 ≤ w.toInt) → k.toInt ≠ 1 → k.toInt ≠ 2 → (k.toInt ≠ 6 → 0 ≤ e.toInt ∧ TT s1 60 e.toNatClampNeg) → (k.toInt = 6 → e.toInt = -1) → (x1.toInt = 116 ∨ x1.toInt = 114 → 5 ≤ k.toInt) → OK (cals (f_X12_settles (s1.1 50 0) t s1) fun s_4 => cals (f_X12_states k w e s_4) fun s_7 => some s_7) (fun s => BM s ∧ FR FL_ [] σ s ∧ (NGr σ s ∧ SGr σ s) ∧ LSt s y2 B (p + 1) m (c + 1) ∧ (x1.toInt = 116 ∨ x1.toInt = 114 → ENk σ s)) := by
    intro k w t e s1 p1 a1 a2 a3 a4 a5 a6 a7 a8 a9 a10 a11 a12 a13
    refine ok_cals (s_settles a1 a4 (by rw [a4.1]; omega) (by omega) hB6 (by omega) hm) (fun s4 q => ?_)
    obtain ⟨q1, q2, q3, q4, -⟩ := q
    have he : -1 ≤ e.toInt ∧ e.toInt ≤ 5999 := by
      by_cases z : k.toInt = 6
      · have := a12 z; omega
      · have := a11 z
        have l := idx this.1 this.2.lt
        have g := gM_41 a1 0
        omega
    refine ok_cals (s_stat q1 q4 (by omega) (k := k) (w := w) (x := e) a6 (by omega) he ⟨fun z => by have := a8 z; omega, fun z => absurd z a9, fun z => absurd z a10, fun z => ⟨(a11 z).1, (a11 z).2.ng q3.1 (Nat.le_refl _)⟩, a12⟩) (fun s7 u => ?_)
    obtain ⟨u1, u2, u3, u4, u5, u6, u7⟩ := u
    refine ok_ret ⟨u1, FR.cal (FR.cal a2 q2 rfl rfl) u2 rfl rfl, ⟨(a3.1.tr q3.1).tr u3, (a3.2.tr q3.2).tr u7⟩, u4.up (Int.le_refl _) (by omega) (Int.le_refl _) (by split <;> omega), fun z => ?_⟩
    have g := (a3.2.tr q3.2).1
    have g47 := gM_47 q1 0
    have c47 := clamp_I (x := s4.1 47 0) (by omega)
    refine ⟨by omega, ?_⟩
    rw [show (s7.1 47 0).toInt.toNat - 1 = (s4.1 47 0).toNatClampNeg by omega, u6]
    exact a13 z
  have pop : (x1.toInt = 115 ∨ x1.toInt = 111 ∨ x1.toInt = 116) → ∀ K : Int32 → Sto → Option Sto, (∀ (v : Int32) (s1 : Sto), BM s1 → FR FL_ [] σ s1 → (NGr σ s1 ∧ SGr σ s1) → LSt s1 y2 B p m c → 0 ≤ v.toInt → TT s1 60 v.toNatClampNeg → OK (K v s1) (fun s => BM s ∧ FR FL_ [] σ s ∧ (NGr σ s ∧ SGr σ s) ∧ LSt s y2 B (p + 1) m (c + 1) ∧ (x1.toInt = 116 ∨ x1.toInt = 114 → ENk σ s))) → OK (calv (f_X12_pops_ σ) fun v_16 s_16 => K v_16 s_16) (fun s => BM s ∧ FR FL_ [] σ s ∧ (NGr σ s ∧ SGr σ s) ∧ LSt s y2 B (p + 1) m (c + 1) ∧ (x1.toInt = 116 ∨ x1.toInt = 114 → ENk σ s)) := by
    intro hx1 K hK
    have ey : y = y2 + 1 := by rcases hx with q | q <;> omega
    subst ey
    refine ok_calv (s_pop hB h) (fun v s q => ?_)
    obtain ⟨q1, q2, q3, q4, z, z1, z2, z3⟩ := q
    (try dsimp only at q1 q2 q3 q4 z1 z2 z3)
    have sp := sp_01 s v.toNatClampNeg
    have ch := ch_01 s y2 v.toNatClampNeg
    have nn := z3.2.1.nn
    exact hK v s q1 (FR.cal FR.rf q2 rfl rfl) ⟨NGr.fr q2 rfl, SGr.fr q2 rfl⟩ (z3.up (by omega) (by omega) (Int.le_refl _) (Int.le_refl _)) q4 (z2.up (by omega) (by omega))
  refine ok_jn ?_
  refine ok_jn ?_
  refine ok_ite (fun c1 => ?_) (fun c1 => ?_)
  · rw [fa_eq, k_115] at c1
    refine pop (by omega) _ (fun v s a1 a2 a3 a4 a5 a6 => ?_)
    refine ok_jn ?_
    refine ok_ite (fun c2 => ?_) (fun _ => ?_)
    · rw [fa_eq, k_m1] at c2; omega
    refine ok_jn ?_
    refine ok_ite (fun _ => ?_) (fun c2 => by rw [fa_eq, k_115] at c2; omega)
    have h55 := h5 c1
    simp only [jn, if_pos (show x1 = 115 by rw [fa_eq, k_115]; exact c1)]
    exact st 0 x2 x2 v s p a1 a2 a3 a4 (Int.le_refl _) (by omega) (by omega) (fun _ => by omega) (by omega) (by omega) (fun _ => ⟨a5, a6⟩) (fun z => by omega) (fun z => by omega)
  · rw [fa_eq, k_115] at c1
    have n115 : ¬ x1 = 115 := by rw [fa_eq, k_115]; exact c1
    refine ok_ite (fun c2 => ?_) (fun c2 => ?_)
    · rw [fa_eq, k_111] at c2
      refine pop (by omega) _ (fun v s a1 a2 a3 a4 a5 a6 => ?_)
      refine ok_jn ?_
      refine ok_ite (fun c3 => by rw [fa_eq, k_m1] at c3; omega) (fun _ => ?_)
      refine ok_jn ?_
      refine ok_ite (fun c3 => absurd c3 n115) (fun _ => ?_)
      simp only [jn, if_neg n115, if_pos (show x1 = 111 by rw [fa_eq, k_111]; exact c2)]
      exact st 3 (-1) (-1) v s p a1 a2 a3 a4 (Int.le_refl _) (by omega) (by omega) (fun _ => by omega) (by omega) (by omega) (fun _ => ⟨a5, a6⟩) (fun z => by omega) (fun z => by omega)
    · rw [fa_eq, k_111] at c2
      have n111 : ¬ x1 = 111 := by rw [fa_eq, k_111]; exact c2
      refine ok_ite (fun c3 => ?_) (fun c3 => ?_)
      · rw [fa_eq, k_116] at c3
        refine pop (by omega) _ (fun v s a1 a2 a3 a4 a5 a6 => ?_)
        refine ok_jn ?_
        refine ok_ite (fun c4 => by rw [fa_eq, k_m1] at c4; omega) (fun _ => ?_)
        refine ok_jn ?_
        refine ok_ite (fun c4 => absurd c4 n115) (fun _ => ?_)
        simp only [jn, if_neg n115, if_neg n111, if_pos (show x1 = 116 by rw [fa_eq, k_116]; exact c3)]
        exact st 5 (-1) (-1) v s p a1 a2 a3 a4 (Int.le_refl _) (by omega) (by omega) (fun _ => by omega) (by omega) (by omega) (fun _ => ⟨a5, a6⟩) (fun z => by omega) (fun z => by omega)
      · rw [fa_eq, k_116] at c3
        have n116 : ¬ x1 = 116 := by rw [fa_eq, k_116]; exact c3
        have ey : y = y2 := by rcases hx with q | q <;> omega
        subst ey
        refine ok_jn ?_
        refine ok_ite (fun _ => ?_) (fun c4 => absurd rfl c4)
        refine ok_ite (fun c4 => ?_) (fun c4 => ?_)
        · rw [fa_eq, k_114] at c4
          refine ok_jn ?_
          refine ok_ite (fun c5 => absurd c5 n115) (fun _ => ?_)
          simp only [jn, if_neg n115, if_neg n111, if_neg n116]
          exact st 6 (-1) (-1) (-1) σ p hB FR.rf ⟨NGr.rf, SGr.rf⟩ h (Int.le_refl _) (by omega) (by omega) (fun _ => by omega) (by omega) (by omega) (fun z => by omega) (fun _ => k_m1) (fun z => by omega)
        · rw [fa_eq, k_114] at c4
          exact ok_ret ⟨hB, FR.rf, ⟨NGr.rf, SGr.rf⟩, h.up (Int.le_refl _) (by omega) (Int.le_refl _) (by omega), fun z => by omega⟩
