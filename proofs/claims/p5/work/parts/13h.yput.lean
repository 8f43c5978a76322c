theorem s_triesP {x3 x5 : Int32} {σ : Sto} (hB : BM σ) (p3 : 0 ≤ x3.toInt ∧ x3.toInt ≤ 40) (p5 : 0 ≤ x5.toInt ∧ x5.toInt ≤ 3) : OK (f_X12_tries_sign_number_handler x3 x5 σ) (fun s => BM s ∧ FR [12, 13, 14, 17, 18] [] σ s ∧ s.1 17 0 = x3 ∧ s.1 18 0 = x5 ∧ (∀ i, i < 40 → s.1 12 i = σ.1 9 i ∧ s.1 13 i = σ.1 10 i) ∧ ∀ i, i < 9 → s.1 14 i = σ.1 11 i) := by
  have k_0 : (0 : Int32).toInt = 0 := by decide +kernel
  have k_9 : (9 : Int32).toInt = 9 := by decide +kernel
  have k_40 : (40 : Int32).toInt = 40 := by decide +kernel
  have z0 : (0 : Int32).toNatClampNeg = 0 := by have := clamp_I (x := 0) (by omega); omega
  unfold f_X12_tries_sign_number_handler
  refine ok_itr2 (fun n x s => n = (41 - x.toInt).toNat ∧ 0 ≤ x.toInt ∧ x.toInt ≤ 40 ∧ BM s ∧ FR [12, 13] [] σ s ∧ ∀ i, i < x.toNatClampNeg → s.1 12 i = σ.1 9 i ∧ s.1 13 i = σ.1 10 i) ?_ (n := (41 - (0 : Int32).toInt).toNat) ⟨rfl, by omega, by omega, hB, FR.rf, fun i hi => by omega⟩ (by rw [k_0]; decide)
  intro ag n x s I ih
  obtain ⟨hn, x0, x4, s1, s2, s3⟩ := I
  have cx := clamp_I x0
  refine ok_ite (fun c1 => ?_) (fun c1 => ?_)
  · rw [fa_le, k_40] at c1
    have xe : x.toNatClampNeg = 40 := by omega
    rw [xe] at s3
    refine ok_itr2 (fun n x u => n = (10 - x.toInt).toNat ∧ 0 ≤ x.toInt ∧ x.toInt ≤ 9 ∧ BM u ∧ FR [14] [] s u ∧ ∀ i, i < x.toNatClampNeg → u.1 14 i = σ.1 11 i) ?_ (n := (10 - (0 : Int32).toInt).toNat) ⟨rfl, by omega, by omega, s1, FR.rf, fun i hi => by omega⟩ (by rw [k_0]; decide)
    intro ag2 m y u I2 ih2
    obtain ⟨hm, y0, y9, u1, u2, u3⟩ := I2
    have cy := clamp_I y0
    refine ok_ite (fun c2 => ?_) (fun c2 => ?_)
    · rw [fa_le, k_9] at c2
      have ye : y.toNatClampNeg = 9 := by omega
      rw [ye] at u3
      have fu : FR [12, 13, 14, 17, 18] [] σ u := FR.cal (FR.cal FR.rf s2 rfl rfl) u2 rfl rfl
      refine ok_lt fun s5 e5 => ?_
      refine ok_lt fun s6 e6 => ?_
      have b5 : BM s5 := by rw [e5]; exact pM_17 u1 (by omega)
      have o : ∀ k, k ≠ 17 → k ≠ 18 → s6.1 k = u.1 k := fun k h1 h2 => by rw [e6, sti_o h2, e5, sti_o h1]
      refine ok_ret ⟨by rw [e6]; exact pM_18 b5 (by omega), ?_, by rw [e6, sti_o (by decide), e5, sti_if, if_pos rfl], by rw [e6, sti_if, if_pos rfl], fun i hi => ?_, fun i hi => ?_⟩
      · rw [e6]; refine FR.st ?_ (by decide)
        rw [e5]; exact FR.st fu (by decide)
      · rw [o 12 (by decide) (by decide), o 13 (by decide) (by decide), u2.1 12 (by decide), u2.1 13 (by decide)]; exact s3 i hi
      · rw [o 14 (by decide) (by decide)]; exact u3 i hi
    · rw [fa_le, k_9] at c2
      have iy : 0 ≤ y.toInt ∧ y.toInt < 9 := by omega
      refine ok_ix iy ?_
      rw [u2.1 11 (by decide), s2.1 11 (by decide)]
      refine ok_lt fun v9 e9 => ?_
      refine ok_ix iy ?_
      refine ok_lt fun s10 e10 => ?_
      refine ok_lt fun x11 e11 => ?_
      have ex : x11.toInt = y.toInt + 1 := by rw [e11]; exact i1 (by omega)
      have cx11 := clamp_I (x := x11) (by omega)
      have g14 := gM_11 hB y.toNatClampNeg
      refine ih2 (10 - x11.toInt).toNat x11 s10 (by omega) ⟨rfl, by omega, by omega, by rw [e10, e9]; exact pM_14 u1 (by omega), by rw [e10]; exact FR.st u2 (by decide), fun i hi => ?_⟩
      rw [e10, sti_if]
      by_cases z : i = y.toNatClampNeg
      · rw [if_pos z, e9, z]
      · rw [if_neg z]; exact u3 i (by omega)
  · rw [fa_le, k_40] at c1
    have ix_ : 0 ≤ x.toInt ∧ x.toInt < 40 := by omega
    refine ok_ix ix_ ?_
    rw [s2.1 9 (by decide)]
    refine ok_lt fun v12 e12 => ?_
    refine ok_ix ix_ ?_
    refine ok_lt fun s13 e13 => ?_
    refine ok_ix ix_ ?_
    rw [show s13.1 10 = σ.1 10 by rw [e13, sti_o (by decide), s2.1 10 (by decide)]]
    refine ok_lt fun v14 e14 => ?_
    refine ok_ix ix_ ?_
    refine ok_lt fun s15 e15 => ?_
    refine ok_lt fun x18 e18 => ?_
    have ex : x18.toInt = x.toInt + 1 := by rw [e18]; exact i1 (by omega)
    have cx18 := clamp_I (x := x18) (by omega)
    have g12 := gM_9 hB x.toNatClampNeg
    have g13 := gM_10 hB x.toNatClampNeg
    have B17 : BM s15 := by
      rw [e15, e14]; refine pM_13 ?_ (by omega)
      rw [e13, e12]; exact pM_12 s1 (by omega)
    have F17 : FR [12, 13] [] σ s15 := by
      rw [e15]; refine FR.st ?_ (by decide)
      rw [e13]; exact FR.st s2 (by decide)
    have r9 : ∀ j, s15.1 12 j = if j = x.toNatClampNeg then v12 else s.1 12 j := fun j => by
      rw [e15, sti_o (by decide), e13, sti_if]
    have r10 : ∀ j, s15.1 13 j = if j = x.toNatClampNeg then v14 else s.1 13 j := fun j => by
      rw [e15, sti_if, e13, sti_o (by decide)]
    refine ih (41 - x18.toInt).toNat x18 s15 (by omega) ⟨rfl, by omega, by omega, B17, F17, fun i hi => ?_⟩
    rw [r9, r10]
    by_cases z : i = x.toNatClampNeg
    · rw [if_pos z, if_pos z, e12, e14, z]
      exact ⟨rfl, rfl⟩
    · rw [if_neg z, if_neg z]; exact s3 i (by omega)
theorem s_put {σ τ : Sto} {x1 x2 x3 : Int32} (h : GR τ σ) : OK (f_X12_put x1 x2 x3 σ) (fun r => GR τ r.2) := by
  have k_0 : (0 : Int32).toInt = 0 := by decide +kernel
  have n1 : (nI 1) = (1 : Int32) := by decide +kernel
  unfold f_X12_put
  refine ok_lt fun s1 e1 => ?_
  have B1 : BM s1 := by rw [e1]; exact pM_0 h.1 (by omega)
  have f1 : FR [0, 3, 4, 5, 6, 7, 8, 12, 13, 14, 17, 18, 19] [] σ s1 := by rw [e1]; exact FR.st FR.rf (by decide)
  have G1 : GR τ s1 := h.fr B1 f1 rfl rfl
  have no : OK (some (((-1) : Int32), s1)) (fun r => GR τ r.2) := ok_ret G1
  refine ok_ite (fun _ => no) (fun c1 => ?_)
  rw [fa_eq, k_0] at c1
  have L1 := G1.2.1.resolve_left c1
  have Q1 := L1.2.1
  have g15 := gM_15 B1 0
  have g16 := gM_16 B1 0
  have em := i_sub (x := s1.1 15 0) (k := 1) (by decide) (by omega)
  rw [n1] at em
  refine ok_calp s_isIn (fun v3 q => ?_)
  rw [Int32.toInt_toInt64, Int32.toInt_toInt64, i64_0, em] at q
  refine ok_ite (fun _ => no) (fun c2 => ?_)
  rw [fa_eq, k_0] at c2
  have xb := q.2.mp c2
  clear em
  refine ok_calp s_isCode (fun v5 r => ?_)
  refine ok_ite (fun _ => no) (fun c3 => ?_)
  rw [fa_eq, k_0] at c3
  obtain ⟨y1, y2, y3⟩ := r.2 c3
  have cx := clamp_I xb.1
  refine ok_cals (s_triesP (x3 := s1.1 15 0) (x5 := s1.1 16 0) B1 (by omega) (by omega)) (fun s7 t => ?_)
  obtain ⟨t1, t2, t3, t4, t5, t6⟩ := t
  have f7 : FR [0, 3, 4, 5, 6, 7, 8, 12, 13, 14, 17, 18, 19] [] σ s7 := FR.cal f1 t2 rfl rfl
  have ix_ : 0 ≤ x1.toInt ∧ x1.toInt < 40 := by omega
  refine ok_ix ix_ ?_
  refine ok_lt fun s8 e8 => ?_
  refine ok_ix ix_ ?_
  refine ok_lt fun s9 e9 => ?_
  have b8 : BM s8 := by rw [e8]; exact pM_12 t1 y1
  have b9 : BM s9 := by rw [e9]; exact pM_13 b8 y2
  have f9 : FR [0, 3, 4, 5, 6, 7, 8, 12, 13, 14, 17, 18, 19] [] σ s9 := by
    rw [e9]; refine FR.st ?_ (by decide)
    rw [e8]; exact FR.st f7 (by decide)
  have r12 : ∀ j, s9.1 12 j = if j = x1.toNatClampNeg then x2 else s7.1 12 j := fun j => by
    rw [e9, sti_o (by decide), e8, sti_if]
  have r13 : ∀ j, s9.1 13 j = if j = x1.toNatClampNeg then x3 else s7.1 13 j := fun j => by
    rw [e9, sti_if, e8, sti_o (by decide)]
  have r17 : s9.1 17 0 = s1.1 15 0 := by rw [e9, sti_o (by decide), e8, sti_o (by decide), t3]
  have q15 := Q1.1
  refine ok_calv (s_wrongQ b9 (by rw [r17]; exact q15) (fun i hi => ?_)) (fun v10 s10 u => ?_)
  · rw [r17] at hi
    unfold ri
    rw [r12, r13]
    by_cases z : i = x1.toNatClampNeg
    · rw [if_pos z, if_pos z]; exact y3
    · rw [if_neg z, if_neg z, (t5 i (by omega)).1, (t5 i (by omega)).2]
      exact Q1.2.1 i hi
  · obtain ⟨u1, u2, u3, u4⟩ := u
    (try dsimp only at u1 u2 u3 u4)
    have f10 : FR [0, 3, 4, 5, 6, 7, 8, 12, 13, 14, 17, 18, 19] [] σ s10 := FR.cal f9 u3 rfl rfl
    refine ok_ite (fun c4 => ?_) (fun c4 => ok_ret (h.fr u2 f10 rfl rfl))
    rw [fa_le, k_0] at c4
    refine ok_calv (s_takes u2 (u4 c4)) (fun v12 s12 w => ?_)
    exact ok_ret ⟨w.2.1.1, Or.inr w.2.1, by (try dsimp only); rw [w.1.1 1 (by decide), f10.1 1 (by decide)]; exact h.2.2.1, by (try dsimp only); rw [w.1.1 2 (by decide), f10.1 2 (by decide)]; exact h.2.2.2⟩
