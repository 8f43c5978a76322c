theorem s_countLoops {σ : Sto} (hB : BM σ) : OK (f_X12_countLoops σ) (fun _ => True) := by
  have k_0 : (0 : Int32).toInt = 0 := by decide +kernel
  have g := gM_26 hB 0
  unfold f_X12_countLoops
  refine ok_itr2 (fun n _ x => n = (41 - x.toInt).toNat ∧ 0 ≤ x.toInt ∧ x.toInt ≤ 40) ?_ (n := (41 - (0 : Int32).toInt).toNat) ⟨rfl, by omega, by omega⟩ (by rw [k_0]; decide)
  intro ag n c x I ih
  obtain ⟨hn, x0, x4⟩ := I
  refine ok_ite (fun _ => ok_ret trivial) (fun c1 => ?_)
  rw [fa_le] at c1
  refine ok_ix (by omega) ?_
  refine ok_lt fun v3 e3 => ?_
  refine ok_jnI1 (fun _ => True) (fun t _ => ?_) (fun k hk => ok_ite (fun _ => hk _ trivial) (fun _ => hk _ trivial))
  refine ok_lt fun x5 e5 => ?_
  refine ok_lt fun x6 e6 => ?_
  have ex : x6.toInt = x.toInt + 1 := by rw [e6]; exact i1 (by omega)
  exact ih (41 - x6.toInt).toNat x5 x6 (by omega) ⟨rfl, by omega, by omega⟩
theorem s_countMerges {σ : Sto} (hB : BM σ) : OK (f_X12_countMerges σ) (fun _ => True) := by
  have k_0 : (0 : Int32).toInt = 0 := by decide +kernel
  have g := gM_26 hB 0
  unfold f_X12_countMerges
  refine ok_itr2 (fun n _ x => n = (41 - x.toInt).toNat ∧ 0 ≤ x.toInt ∧ x.toInt ≤ 40) ?_ (n := (41 - (0 : Int32).toInt).toNat) ⟨rfl, by omega, by omega⟩ (by rw [k_0]; decide)
  intro ag n c x I ih
  obtain ⟨hn, x0, x4⟩ := I
  refine ok_ite (fun _ => ok_ret trivial) (fun c1 => ?_)
  rw [fa_le] at c1
  refine ok_calp (s_isMerge hB (by omega)) (fun v3 _ => ?_)
  refine ok_jnI1 (fun _ => True) (fun t _ => ?_) (fun k hk => ok_ite (fun _ => hk _ trivial) (fun _ => hk _ trivial))
  refine ok_lt fun x5 e5 => ?_
  refine ok_lt fun x6 e6 => ?_
  have ex : x6.toInt = x.toInt + 1 := by rw [e6]; exact i1 (by omega)
  exact ih (41 - x6.toInt).toNat x5 x6 (by omega) ⟨rfl, by omega, by omega⟩
theorem s_countDead {σ : Sto} (hB : BM σ) : OK (f_X12_countDead σ) (fun _ => True) := by
  have k_0 : (0 : Int32).toInt = 0 := by decide +kernel
  have g := gM_15 hB 0
  unfold f_X12_countDead
  refine ok_itr2 (fun n _ x => n = (41 - x.toInt).toNat ∧ 0 ≤ x.toInt ∧ x.toInt ≤ 40) ?_ (n := (41 - (0 : Int32).toInt).toNat) ⟨rfl, by omega, by omega⟩ (by rw [k_0]; decide)
  intro ag n c x I ih
  obtain ⟨hn, x0, x4⟩ := I
  refine ok_ite (fun _ => ok_ret trivial) (fun c1 => ?_)
  rw [fa_le] at c1
  refine ok_ix (by omega) ?_
  refine ok_lt fun v3 e3 => ?_
  refine ok_jnI1 (fun _ => True) (fun t _ => ?_) (fun k hk => ok_ite (fun _ => hk _ trivial) (fun _ => hk _ trivial))
  refine ok_lt fun x5 e5 => ?_
  refine ok_lt fun x6 e6 => ?_
  have ex : x6.toInt = x.toInt + 1 := by rw [e6]; exact i1 (by omega)
  exact ih (41 - x6.toInt).toNat x5 x6 (by omega) ⟨rfl, by omega, by omega⟩
theorem s_ones {x : Int64} : OK (f_X12_ones x) (fun _ => True) := by
  have k_0 : (0 : Int32).toInt = 0 := by decide +kernel
  have k_40 : (40 : Int32).toInt = 40 := by decide +kernel
  unfold f_X12_ones
  refine ok_itr2 (fun n _ x => n = (41 - x.toInt).toNat ∧ 0 ≤ x.toInt ∧ x.toInt ≤ 40) ?_ (n := (41 - (0 : Int32).toInt).toNat) ⟨rfl, by omega, by omega⟩ (by rw [k_0]; decide)
  intro ag n c x I ih
  obtain ⟨hn, x0, x4⟩ := I
  refine ok_ite (fun _ => ok_ret trivial) (fun c1 => ?_)
  rw [fa_le, k_40] at c1
  refine ok_calp (s_has (by omega)) (fun v3 _ => ?_)
  refine ok_jnI1 (fun _ => True) (fun t _ => ?_) (fun k hk => ok_ite (fun _ => hk _ trivial) (fun _ => hk _ trivial))
  refine ok_lt fun x5 e5 => ?_
  refine ok_lt fun x6 e6 => ?_
  have ex : x6.toInt = x.toInt + 1 := by rw [e6]; exact i1 (by omega)
  exact ih (41 - x6.toInt).toNat x5 x6 (by omega) ⟨rfl, by omega, by omega⟩
theorem s_loopsOf {σ : Sto} {x1 : Int32} (hB : BM σ) (hx : 0 ≤ x1.toInt ∧ x1.toInt ≤ 39) : OK (f_X12_loopsOf x1 σ) (fun _ => True) := by
  have k_0 : (0 : Int32).toInt = 0 := by decide +kernel
  have g := gM_26 hB 0
  unfold f_X12_loopsOf
  refine ok_itr2 (fun n _ x => n = (41 - x.toInt).toNat ∧ 0 ≤ x.toInt ∧ x.toInt ≤ 40) ?_ (n := (41 - (0 : Int32).toInt).toNat) ⟨rfl, by omega, by omega⟩ (by rw [k_0]; decide)
  intro ag n c x I ih
  obtain ⟨hn, x0, x4⟩ := I
  refine ok_ite (fun _ => ok_ret trivial) (fun c1 => ?_)
  rw [fa_le] at c1
  refine ok_ix (by omega) ?_
  refine ok_lt fun v3 e3 => ?_
  refine ok_calp (s_has hx) (fun v4 _ => ?_)
  refine ok_jnI1 (fun _ => True) (fun t _ => ?_) (fun k hk => ok_ite (fun _ => hk _ trivial) (fun _ => hk _ trivial))
  refine ok_lt fun x5 e5 => ?_
  refine ok_lt fun x6 e6 => ?_
  have ex : x6.toInt = x.toInt + 1 := by rw [e6]; exact i1 (by omega)
  exact ih (41 - x6.toInt).toNat x5 x6 (by omega) ⟨rfl, by omega, by omega⟩
theorem s_innermost {σ : Sto} {x1 : Int32} (hB : BM σ) (hx : 0 ≤ x1.toInt ∧ x1.toInt ≤ 39) : OK (f_X12_innermost x1 σ) (fun v => -1 ≤ v.toInt ∧ v.toInt ≤ 39) := by
  have k_0 : (0 : Int32).toInt = 0 := by decide +kernel
  have k_m1 : ((-1) : Int32).toInt = -1 := by decide +kernel
  have g := gM_26 hB 0
  unfold f_X12_innermost
  refine ok_itr2 (fun n c x => n = (41 - x.toInt).toNat ∧ 0 ≤ x.toInt ∧ x.toInt ≤ 40 ∧ -1 ≤ c.toInt ∧ c.toInt ≤ 39) ?_ (n := (41 - (0 : Int32).toInt).toNat) ⟨rfl, by omega, by omega, by omega, by omega⟩ (by rw [k_0]; decide)
  intro ag n c x I ih
  obtain ⟨hn, x0, x4, c0, c4⟩ := I
  refine ok_ite (fun _ => ok_ret ⟨c0, c4⟩) (fun c1 => ?_)
  rw [fa_le] at c1
  refine ok_ix (by omega) ?_
  refine ok_lt fun v3 e3 => ?_
  refine ok_calp (s_has hx) (fun v4 _ => ?_)
  refine ok_jnI1 (fun t => -1 ≤ t.toInt ∧ t.toInt ≤ 39) (fun t ht => ?_) (fun k hk => ?_)
  · refine ok_lt fun x6 e6 => ?_
    have ex : x6.toInt = x.toInt + 1 := by rw [e6]; exact i1 (by omega)
    exact ih (41 - x6.toInt).toNat t x6 (by omega) ⟨rfl, by omega, by omega, ht.1, ht.2⟩
  · refine ok_ite (fun _ => hk c ⟨c0, c4⟩) (fun _ => ?_)
    refine ok_jnI0 True (fun _ => hk x (by omega)) (fun k2 hk2 => ?_)
    refine ok_ite (fun _ => hk2 trivial) (fun c3 => ?_)
    rw [fa_eq, k_m1] at c3
    refine ok_ix (by omega) ?_
    refine ok_lt fun v10 e10 => ?_
    refine ok_calp s_ones (fun v11 _ => ?_)
    refine ok_ix (by omega) ?_
    refine ok_lt fun v12 e12 => ?_
    refine ok_calp s_ones (fun v13 _ => ?_)
    exact ok_ite (fun _ => hk c ⟨c0, c4⟩) (fun _ => hk2 trivial)
theorem i32_m1 {x : Int32} (h : 0 ≤ x.toInt) : (x - 1).toInt = x.toInt - 1 := by
  have n1 : (nI 1) = (1 : Int32) := by decide +kernel
  have em := i_sub (x := x) (k := 1) (by decide) (by omega)
  rw [n1] at em
  exact em
/-- a row's place that may be asked for -/
theorem s_isBlock {σ τ : Sto} {x1 : Int32} (h : GR τ σ) : OK (f_X12_isBlock x1 σ) (fun v => (v.toInt = 0 ∨ v.toInt = 1) ∧ (v.toInt ≠ 0 → LAID σ ∧ 0 ≤ x1.toInt ∧ x1.toNatClampNeg < nB σ)) := by
  have k_0 : (0 : Int32).toInt = 0 := by decide +kernel
  have k_1 : (1 : Int32).toInt = 1 := by decide +kernel
  have g := gM_26 h.1 0
  unfold f_X12_isBlock
  refine ok_jnI0 True (fun _ => ok_ret ⟨Or.inl k_0, fun z => absurd k_0 z⟩) (fun k hk => ?_)
  refine ok_ite (fun _ => hk trivial) (fun c1 => ?_)
  rw [fa_eq, k_0] at c1
  have L := h.2.1.resolve_left c1
  refine ok_calp s_isIn (fun v3 q => ?_)
  rw [Int32.toInt_toInt64, Int32.toInt_toInt64, i64_0, i32_m1 g.1] at q
  refine ok_ite (fun _ => hk trivial) (fun c2 => ?_)
  rw [fa_eq, k_0] at c2
  have xb := q.2.mp c2
  have cx := clamp_I xb.1
  exact ok_ret ⟨Or.inr k_1, fun _ => ⟨L, xb.1, by unfold nB; omega⟩⟩
theorem i64_5 : (5 : Int64).toInt = 5 := by decide +kernel
theorem s_instruction_ {σ τ : Sto} {x1 x2 : Int32} (h : GR τ σ) : OK (f_X12_instruction_ x1 x2 σ) (fun r => GR τ r.2) := by
  have k_0 : (0 : Int32).toInt = 0 := by decide +kernel
  have k_1 : (1 : Int32).toInt = 1 := by decide +kernel
  have g := gM_15 h.1 0
  have g16 := gM_16 h.1 0
  unfold f_X12_instruction_
  refine ok_jnI1 (fun t => t.toInt = 1 ∨ (t.toInt = 0 ∧ 0 ≤ x1.toInt ∧ x1.toInt ≤ 39)) (fun t ht => ?_) (fun k hk => ?_)
  · refine ok_lt fun s2 e2 => ?_
    have f2 : FR [0] [] σ s2 := by rw [e2]; exact FR.st FR.rf (by decide)
    have B2 : BM s2 := by rw [e2]; exact pM_0 h.1 (by omega)
    have G2 : GR τ s2 := h.fr B2 f2 rfl rfl
    refine ok_ite (fun c1 => ?_) (fun _ => ok_ret G2)
    rw [fa_le, k_0, show s2.1 0 0 = t by rw [e2, sti_if, if_pos rfl]] at c1
    have xi : 0 ≤ x1.toInt ∧ x1.toInt < 40 := by omega
    refine ok_ite (fun _ => ok_ix xi (ok_lt fun v5 _ => ok_ret G2)) (fun _ => ?_)
    refine ok_ite (fun _ => ok_ix xi (ok_lt fun v5 _ => ok_ret G2)) (fun _ => ?_)
    refine ok_ite (fun _ => ok_ix xi (ok_lt fun v5 _ => ok_ret G2)) (fun _ => ?_)
    refine ok_ite (fun _ => ok_ix xi (ok_lt fun v5 _ => ok_ret G2)) (fun _ => ?_)
    refine ok_ite (fun _ => ?_) (fun _ => ok_ix xi (ok_lt fun v10 _ => ok_ite (fun _ => ok_ret G2) (fun _ => ok_ret G2)))
    have g162 := gM_16 B2 0
    exact ok_calp (s_X12_handlerOf_handler (x2 := s2.1 16 0) (x3 := x1) B2 g162 (by omega)) (fun v9 _ => ok_ret G2)
  · refine ok_jnI0 True (fun _ => hk 1 (Or.inl k_1)) (fun k2 hk2 => ?_)
    refine ok_ite (fun _ => hk2 trivial) (fun c1 => ?_)
    refine ok_calp s_isIn (fun v3 q => ?_)
    rw [Int32.toInt_toInt64, Int32.toInt_toInt64, i64_0, i32_m1 g.1] at q
    refine ok_ite (fun _ => hk2 trivial) (fun c2 => ?_)
    rw [fa_eq, k_0] at c2
    have xb := q.2.mp c2
    refine ok_calp s_isIn (fun v16 _ => ?_)
    exact ok_ite (fun _ => hk2 trivial) (fun _ => hk 0 (Or.inr ⟨k_0, by omega⟩))
