/-- where a line comes to stand when those with a mark go -/
def kpt (s : Sto) (n : Nat) : Nat := fb_ct (fun i => decide ((s.1 64 i).toInt = 0)) n
theorem kpt_le (s : Sto) (n : Nat) : kpt s n ≤ n := fb_ct_le _ n
theorem kpt_0 (s : Sto) : kpt s 0 = 0 := rfl
theorem kpt_y {s : Sto} {n : Nat} (h : (s.1 64 n).toInt = 0) : kpt s (n + 1) = kpt s n + 1 := by
  unfold kpt
  rw [fb_ct_succ, if_pos (decide_eq_true h)]
theorem kpt_n {s : Sto} {n : Nat} (h : (s.1 64 n).toInt ≠ 0) : kpt s (n + 1) = kpt s n := by
  unfold kpt
  rw [fb_ct_succ, if_neg (by rw [decide_eq_true_eq]; exact h), Nat.add_zero]
theorem kpt_mono (s : Sto) {m n : Nat} (h : m ≤ n) : kpt s m ≤ kpt s n := fb_ct_mono _ h
def THN (s t : Sto) : Prop := nL t = kpt s (nL s) ∧ ∀ i, i < nL s → (s.1 64 i).toInt = 0 → lnA t (kpt s i) = lnA s i
theorem s_thins {s : Sto} (hB : BM s) : OK (f_X12_thins s) (fun t => BM t ∧ FR [58, 59, 60, 61, 62] [] s t ∧ THN s t) := by
  have k_0 : (0 : Int32).toInt = 0 := by decide +kernel
  have hl := nL_le hB
  have g62 := gM_62 hB 0
  unfold f_X12_thins
  refine ok_itr3 (fun n a b u => n = (1401 - b.toInt).toNat ∧ 0 ≤ b.toInt ∧ b.toInt ≤ (nL s : Int) ∧ a.toInt = (kpt s b.toNatClampNeg : Int) ∧ BM u ∧ FR [58, 59, 60, 61] [] s u ∧ (∀ i, b.toNatClampNeg ≤ i → lnA u i = lnA s i) ∧ ∀ i, i < b.toNatClampNeg → (s.1 64 i).toInt = 0 → lnA u (kpt s i) = lnA s i) ?_ (n := (1401 - (0 : Int32).toInt).toNat) ⟨rfl, by omega, by omega, by have := clamp_I (x := 0) (by omega); rw [show (0 : Int32).toNatClampNeg = 0 by omega, kpt_0]; exact k_0, hB, FR.rf, fun i _ => rfl, fun i hi => by have := clamp_I (x := 0) (by omega); omega⟩ (by rw [k_0]; decide)
  intro ag n a b u I ih
  obtain ⟨hn, b0, bn, ha, u1, u2, u3, u4⟩ := I
  have cb := clamp_I b0
  have e62 : u.1 62 = s.1 62 := u2.1 62 (by decide)
  have e64 : u.1 64 = s.1 64 := u2.1 64 (by decide)
  have le2 : kpt s b.toNatClampNeg ≤ b.toNatClampNeg := kpt_le s _
  have ca : (a.toNatClampNeg : Int) = a.toInt := clamp_I (by omega)
  refine ok_ite (fun c1 => ?_) (fun c1 => ?_)
  · rw [fa_le, e62] at c1
    have eb : b.toNatClampNeg = nL s := by omega
    refine ok_lt fun s3 e3 => ?_
    rw [eb] at ha u4
    have le3 := kpt_le s (nL s)
    refine ok_ret ⟨by rw [e3]; exact pM_62 u1 (by omega), by rw [e3]; exact FR.st (FR.cal FR.rf u2 rfl rfl) (by decide), ?_, fun i hi hm => ?_⟩
    · show (s3.1 62 0).toInt.toNat = _
      rw [e3, sti_if, if_pos rfl]; omega
    · rw [← u4 i hi hm, e3]
      unfold lnA
      rw [sti_o (by decide), sti_o (by decide), sti_o (by decide)]
  · rw [fa_le, e62] at c1
    have ib : 0 ≤ b.toInt ∧ b.toInt < 1400 := by omega
    have ia : 0 ≤ a.toInt ∧ a.toInt < 1400 := by omega
    have nb : ∀ x : Int32, x = b + 1 → x.toInt = b.toInt + 1 ∧ x.toNatClampNeg = b.toNatClampNeg + 1 := fun x e => by
      have h1 : x.toInt = b.toInt + 1 := by rw [e]; exact i1 (by omega)
      have h2 := clamp_I (x := x) (by omega)
      exact ⟨h1, by omega⟩
    refine ok_ix ib ?_
    rw [e64]
    refine ok_lt fun v4 e4 => ?_
    refine ok_jn ?_
    refine ok_ite (fun c2 => ?_) (fun c2 => ?_)
    · rw [fa_eq, k_0, e4] at c2
      have ks := kpt_y c2
      have ub := u3 b.toNatClampNeg (Nat.le_refl _)
      refine ok_ix ib ?_
      refine ok_lt fun v8 e8 => ?_
      refine ok_ix ia ?_
      refine ok_lt fun s9 e9 => ?_
      refine ok_ix ib ?_
      refine ok_lt fun v10 e10 => ?_
      rw [show s9.1 59 = u.1 59 by rw [e9, sti_o (by decide)]] at e10
      refine ok_ix ia ?_
      refine ok_lt fun s11 e11 => ?_
      refine ok_ix ib ?_
      refine ok_lt fun v12 e12 => ?_
      rw [show s11.1 61 = u.1 61 by rw [e11, sti_o (by decide), e9, sti_o (by decide)]] at e12
      refine ok_ix ia ?_
      refine ok_lt fun s13 e13 => ?_
      refine ok_ix ib ?_
      refine ok_lt fun v14 e14 => ?_
      refine ok_ix ia ?_
      refine ok_lt fun s15 e15 => ?_
      refine ok_lt fun x16 e16 => ?_
      have ex : x16.toInt = a.toInt + 1 := by rw [e16]; exact i1 (by omega)
      refine ok_lt fun x6 e6 => ?_
      obtain ⟨x61, x62⟩ := nb x6 e6
      have g58 := gM_58 u1 b.toNatClampNeg
      have g59 := gM_59 u1 b.toNatClampNeg
      have g61 := gM_61 u1 b.toNatClampNeg
      have B15 : BM s15 := by
        rw [e15]; refine pM_60 ?_ (tI_rng _)
        rw [e13]; refine pM_61 ?_ (by rw [e12]; exact g61)
        rw [e11]; refine pM_59 ?_ (by rw [e10]; exact g59)
        rw [e9]; exact pM_58 u1 (by rw [e8]; exact g58)
      have F15 : FR [58, 59, 60, 61] [] s s15 := by
        rw [e15]; refine FR.st ?_ (by decide)
        rw [e13]; refine FR.st ?_ (by decide)
        rw [e11]; refine FR.st ?_ (by decide)
        rw [e9]; exact FR.st u2 (by decide)
      have r58 : ∀ j, s15.1 58 j = if j = a.toNatClampNeg then v8 else u.1 58 j := fun j => by
        rw [e15, sti_o (by decide), e13, sti_o (by decide), e11, sti_o (by decide), e9, sti_if]
      have r59 : ∀ j, s15.1 59 j = if j = a.toNatClampNeg then v10 else u.1 59 j := fun j => by
        rw [e15, sti_o (by decide), e13, sti_o (by decide), e11, sti_if, e9, sti_o (by decide)]
      have r61 : ∀ j, s15.1 61 j = if j = a.toNatClampNeg then v12 else u.1 61 j := fun j => by
        rw [e15, sti_o (by decide), e13, sti_if, e11, sti_o (by decide), e9, sti_o (by decide)]
      have ln : ∀ j, lnA s15 j = if j = a.toNatClampNeg then lnA u b.toNatClampNeg else lnA u j := fun j => by
        unfold lnA
        rw [r58, r59, r61]
        by_cases q : j = a.toNatClampNeg
        · rw [if_pos q, if_pos q, if_pos q, if_pos q, e8, e10, e12]
        · rw [if_neg q, if_neg q, if_neg q, if_neg q]
      refine ih (1401 - x6.toInt).toNat x16 x6 s15 (by omega) ⟨rfl, by omega, by omega, by rw [x62]; omega, B15, F15, fun i hi => ?_, fun i hi hm => ?_⟩
      · rw [ln, if_neg (by omega)]; exact u3 i (by omega)
      · by_cases q : i = b.toNatClampNeg
        · rw [q, ln, if_pos (by omega)]; exact ub
        · have il : i < b.toNatClampNeg := by omega
          have lt1 := kpt_y hm
          have lt2 := kpt_mono s (m := i + 1) (n := b.toNatClampNeg) (by omega)
          have ne : kpt s i ≠ a.toNatClampNeg := by omega
          rw [ln, if_neg ne]; exact u4 i il hm
    · rw [fa_eq, k_0, e4] at c2
      have ks := kpt_n c2
      refine ok_lt fun x6 e6 => ?_
      obtain ⟨x61, x62⟩ := nb x6 e6
      refine ih (1401 - x6.toInt).toNat a x6 u (by omega) ⟨rfl, by omega, by omega, by rw [x62]; omega, u1, u2, fun i hi => u3 i (by omega), fun i hi hm => ?_⟩
      by_cases q : i = b.toNatClampNeg
      · rw [q] at hm; exact absurd hm c2
      · exact u4 i (by omega) hm
