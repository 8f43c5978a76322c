/-- the text is the one that was tried -/
def CPM (σ s : Sto) : Prop := s.1 15 0 = σ.1 17 0 ∧ s.1 16 0 = σ.1 18 0 ∧ (∀ i, i < 40 → s.1 9 i = σ.1 12 i ∧ s.1 10 i = σ.1 13 i ∧ s.1 20 i = σ.1 19 i) ∧ ∀ i, i < 9 → s.1 11 i = σ.1 14 i
theorem t_takes {σ : Sto} (hB : BM σ) (hQ : QLc σ) : OK (f_X12_takes σ) (fun r => FR RT_ [0, 1, 2] σ r.2 ∧ LAID r.2 ∧ r.1.toInt = (nB r.2 : Int) ∧ (r.2.1 21 0).toInt = 1 ∧ CPM σ r.2) := by
  have k_0 : (0 : Int32).toInt = 0 := by decide +kernel
  have k_1 : (1 : Int32).toInt = 1 := by decide +kernel
  have k_9 : (9 : Int32).toInt = 9 := by decide +kernel
  have k_40 : (40 : Int32).toInt = 40 := by decide +kernel
  have z0 : (0 : Int32).toNatClampNeg = 0 := by have := clamp_I (x := 0) (by omega); omega
  have g17 := gM_17 hB 0
  have g18 := gM_18 hB 0
  unfold f_X12_takes
  refine ok_itr2 (fun n x s => n = (41 - x.toInt).toNat ∧ 0 ≤ x.toInt ∧ x.toInt ≤ 40 ∧ BM s ∧ FR [9, 10, 20] [] σ s ∧ ∀ i, i < x.toNatClampNeg → s.1 9 i = σ.1 12 i ∧ s.1 10 i = σ.1 13 i ∧ s.1 20 i = σ.1 19 i) ?_ (n := (41 - (0 : Int32).toInt).toNat) ⟨rfl, by omega, by omega, hB, FR.rf, fun i hi => by omega⟩ (by rw [k_0]; decide)
  intro ag n x s I ih
  obtain ⟨hn, x0, x4, s1, s2, s3⟩ := I
  have cx := clamp_I x0
  refine ok_ite (fun c1 => ?_) (fun c1 => ?_)
  · rw [fa_le, k_40] at c1
    have xe : x.toNatClampNeg = 40 := by omega
    rw [xe] at s3
    refine ok_itr2 (fun n x u => n = (10 - x.toInt).toNat ∧ 0 ≤ x.toInt ∧ x.toInt ≤ 9 ∧ BM u ∧ FR [11] [] s u ∧ ∀ i, i < x.toNatClampNeg → u.1 11 i = σ.1 14 i) ?_ (n := (10 - (0 : Int32).toInt).toNat) ⟨rfl, by omega, by omega, s1, FR.rf, fun i hi => by omega⟩ (by rw [k_0]; decide)
    intro ag2 m y u I2 ih2
    obtain ⟨hm, y0, y9, u1, u2, u3⟩ := I2
    have cy := clamp_I y0
    refine ok_ite (fun c2 => ?_) (fun c2 => ?_)
    · rw [fa_le, k_9] at c2
      have ye : y.toNatClampNeg = 9 := by omega
      rw [ye] at u3
      have fu : FR [9, 10, 11, 20] [] σ u := FR.cal (FR.cal FR.rf s2 rfl rfl) u2 rfl rfl
      refine ok_lt fun s5 e5 => ?_
      refine ok_lt fun s6 e6 => ?_
      refine ok_lt fun s7 e7 => ?_
      have b5 : BM s5 := by rw [e5, fu.1 17 (by decide)]; exact pM_15 u1 (by omega)
      have b6 : BM s6 := by rw [e6, e5, sti_o (by decide), fu.1 18 (by decide)]; exact pM_16 (e5 ▸ b5) (by omega)
      have b7 : BM s7 := by rw [e7]; exact pM_21 b6 (by omega)
      have f7 : FR [9, 10, 11, 15, 16, 20, 21] [] σ s7 := by
        rw [e7]; refine FR.st ?_ (by decide)
        rw [e6]; refine FR.st ?_ (by decide)
        rw [e5]; exact FR.st (FR.cal FR.rf fu rfl rfl) (by decide)
      have o7 : ∀ k, k ≠ 15 → k ≠ 16 → k ≠ 21 → s7.1 k = u.1 k := fun k h1 h2 h3 => by rw [e7, sti_o h3, e6, sti_o h2, e5, sti_o h1]
      have Q : QL s7 := QLc.ql hQ (by omega) (by omega) (fun i hi => by
        rw [o7 9 (by decide) (by decide) (by decide), o7 10 (by decide) (by decide) (by decide), o7 20 (by decide) (by decide) (by decide), u2.1 9 (by decide), u2.1 10 (by decide), u2.1 20 (by decide)]
        exact s3 i hi) (fun i hi => by
        rw [o7 11 (by decide) (by decide) (by decide)]
        exact u3 i hi) (by rw [e7, sti_o (by decide), e6, sti_o (by decide), e5, sti_if, if_pos rfl, fu.1 17 (by decide)]) (by rw [e7, sti_o (by decide), e6, sti_if, if_pos rfl, e5, sti_o (by decide), fu.1 18 (by decide)])
      have P7 : CPM σ s7 := ⟨by rw [e7, sti_o (by decide), e6, sti_o (by decide), e5, sti_if, if_pos rfl, fu.1 17 (by decide)], by rw [e7, sti_o (by decide), e6, sti_if, if_pos rfl, e5, sti_o (by decide), fu.1 18 (by decide)], fun i hi => by
        rw [o7 9 (by decide) (by decide) (by decide), o7 10 (by decide) (by decide) (by decide), o7 20 (by decide) (by decide) (by decide), u2.1 9 (by decide), u2.1 10 (by decide), u2.1 20 (by decide)]
        exact s3 i hi, fun i hi => by
        rw [o7 11 (by decide) (by decide) (by decide)]
        exact u3 i hi⟩
      refine ok_cals (s_lays_ b7 Q) (fun s8 q => ?_)
      obtain ⟨q1, q2⟩ := q
      refine ok_ret ⟨FR.cal (FR.cal FR.rf f7 rfl rfl) q1 rfl rfl, q2, ?_, ?_, ?_⟩
      · have := nB_le q2.1; (try dsimp only); omega
      · show (s8.1 21 0).toInt = 1
        rw [q1.1 21 (by decide), e7, sti_if, if_pos rfl]; exact k_1
      · unfold CPM at P7 ⊢
        (try dsimp only)
        rw [q1.1 15 (by decide), q1.1 16 (by decide), q1.1 9 (by decide), q1.1 10 (by decide), q1.1 20 (by decide), q1.1 11 (by decide)]
        exact P7
    · rw [fa_le, k_9] at c2
      have iy : 0 ≤ y.toInt ∧ y.toInt < 9 := by omega
      refine ok_ix iy ?_
      rw [u2.1 14 (by decide), s2.1 14 (by decide)]
      refine ok_lt fun v9 e9 => ?_
      refine ok_ix iy ?_
      refine ok_lt fun s10 e10 => ?_
      refine ok_lt fun x11 e11 => ?_
      have ex : x11.toInt = y.toInt + 1 := by rw [e11]; exact i1 (by omega)
      have cx11 := clamp_I (x := x11) (by omega)
      have g14 := gM_14 hB y.toNatClampNeg
      refine ih2 (10 - x11.toInt).toNat x11 s10 (by omega) ⟨rfl, by omega, by omega, by rw [e10, e9]; exact pM_11 u1 (by omega), by rw [e10]; exact FR.st u2 (by decide), fun i hi => ?_⟩
      rw [e10, sti_if]
      by_cases z : i = y.toNatClampNeg
      · rw [if_pos z, e9, z]
      · rw [if_neg z]; exact u3 i (by omega)
  · rw [fa_le, k_40] at c1
    have ix_ : 0 ≤ x.toInt ∧ x.toInt < 40 := by omega
    refine ok_ix ix_ ?_
    rw [s2.1 12 (by decide)]
    refine ok_lt fun v12 e12 => ?_
    refine ok_ix ix_ ?_
    refine ok_lt fun s13 e13 => ?_
    refine ok_ix ix_ ?_
    rw [show s13.1 13 = σ.1 13 by rw [e13, sti_o (by decide), s2.1 13 (by decide)]]
    refine ok_lt fun v14 e14 => ?_
    refine ok_ix ix_ ?_
    refine ok_lt fun s15 e15 => ?_
    refine ok_ix ix_ ?_
    rw [show s15.1 19 = σ.1 19 by rw [e15, sti_o (by decide), e13, sti_o (by decide), s2.1 19 (by decide)]]
    refine ok_lt fun v16 e16 => ?_
    refine ok_ix ix_ ?_
    refine ok_lt fun s17 e17 => ?_
    refine ok_lt fun x18 e18 => ?_
    have ex : x18.toInt = x.toInt + 1 := by rw [e18]; exact i1 (by omega)
    have cx18 := clamp_I (x := x18) (by omega)
    have g12 := gM_12 hB x.toNatClampNeg
    have g13 := gM_13 hB x.toNatClampNeg
    have g19 := gM_19 hB x.toNatClampNeg
    have B17 : BM s17 := by
      rw [e17, e16]; refine pM_20 ?_ (by omega)
      rw [e15, e14]; refine pM_10 ?_ (by omega)
      rw [e13, e12]; exact pM_9 s1 (by omega)
    have F17 : FR [9, 10, 20] [] σ s17 := by
      rw [e17]; refine FR.st ?_ (by decide)
      rw [e15]; refine FR.st ?_ (by decide)
      rw [e13]; exact FR.st s2 (by decide)
    have r9 : ∀ j, s17.1 9 j = if j = x.toNatClampNeg then v12 else s.1 9 j := fun j => by
      rw [e17, sti_o (by decide), e15, sti_o (by decide), e13, sti_if]
    have r10 : ∀ j, s17.1 10 j = if j = x.toNatClampNeg then v14 else s.1 10 j := fun j => by
      rw [e17, sti_o (by decide), e15, sti_if, e13, sti_o (by decide)]
    have r20 : ∀ j, s17.1 20 j = if j = x.toNatClampNeg then v16 else s.1 20 j := fun j => by
      rw [e17, sti_if, e15, sti_o (by decide), e13, sti_o (by decide)]
    refine ih (41 - x18.toInt).toNat x18 s17 (by omega) ⟨rfl, by omega, by omega, B17, F17, fun i hi => ?_⟩
    rw [r9, r10, r20]
    by_cases z : i = x.toNatClampNeg
    · rw [if_pos z, if_pos z, if_pos z, e12, e14, e16, z]
      exact ⟨rfl, rfl, rfl⟩
    · rw [if_neg z, if_neg z, if_neg z]; exact s3 i (by omega)

