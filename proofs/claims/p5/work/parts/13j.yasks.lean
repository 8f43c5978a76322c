theorem s_block {σ τ : Sto} {x1 x2 : Int32} (h : GR τ σ) : OK (f_X12_block x1 x2 σ) (fun r => GR τ r.2) := by
  have k_0 : (0 : Int32).toInt = 0 := by decide +kernel
  have k_1 : (1 : Int32).toInt = 1 := by decide +kernel
  have g26 := gM_26 h.1 0
  unfold f_X12_block
  refine ok_calp (s_isBlock h) (fun v1 q => ?_)
  refine ok_jnI1 (fun t => t.toInt = 1 ∨ (t.toInt = 0 ∧ 0 ≤ x1.toInt ∧ x1.toInt ≤ 39)) (fun t ht => ?_) (fun k hk => ?_)
  · refine ok_lt fun s2 e2 => ?_
    have f2 : FR [0] [] σ s2 := by rw [e2]; exact FR.st FR.rf (by decide)
    have B2 : BM s2 := by rw [e2]; exact pM_0 h.1 (by omega)
    have G2 : GR τ s2 := h.fr B2 f2 rfl rfl
    refine ok_ite (fun c1 => ?_) (fun _ => ok_ret G2)
    rw [fa_le, k_0, show s2.1 0 0 = t by rw [e2, sti_if, if_pos rfl]] at c1
    have xi : 0 ≤ x1.toInt ∧ x1.toInt < 40 := by omega
    have xi1 : 0 ≤ x1.toInt ∧ x1.toInt < 41 := by omega
    have ex : (x1 + 1).toInt = x1.toInt + 1 := i1 (by omega)
    have g22 := gM_22 B2 x1.toNatClampNeg
    refine ok_ite (fun _ => ok_ix xi (ok_lt fun v5 _ => ok_ret G2)) (fun _ => ?_)
    refine ok_ite (fun _ => ok_ix xi (ok_lt fun v5 _ => ok_ret G2)) (fun _ => ?_)
    refine ok_ite (fun _ => ok_ix xi (ok_lt fun v8 e8 => ok_ix (by rw [e8]; omega) (ok_lt fun v9 _ => ok_ret G2))) (fun _ => ?_)
    refine ok_ite (fun _ => ok_ix xi (ok_lt fun v5 _ => ok_ret G2)) (fun _ => ?_)
    refine ok_ite (fun _ => ok_ix xi (ok_lt fun v5 _ => ok_ret G2)) (fun _ => ?_)
    refine ok_ite (fun _ => ok_calp (s_innermost B2 (by omega)) (fun v _ => ok_ret G2)) (fun _ => ?_)
    refine ok_ite (fun _ => ok_calp (s_loopsOf B2 (by omega)) (fun v _ => ok_ret G2)) (fun _ => ?_)
    refine ok_ite (fun _ => ok_calp (s_isMerge B2 (by omega)) (fun v _ => ok_ite (fun _ => ok_ret G2) (fun _ => ok_ret G2))) (fun _ => ?_)
    refine ok_ite (fun _ => ok_ix xi (ok_lt fun v16 _ => ok_ite (fun _ => ok_ret G2) (fun _ => ok_ret G2))) (fun _ => ?_)
    refine ok_ite (fun _ => ok_ix (by omega) (ok_lt fun v18 _ => ok_ix xi1 (ok_lt fun v19 _ => ok_ret G2))) (fun _ => ?_)
    refine ok_ite (fun _ => ok_ix xi (ok_lt fun v5 _ => ok_ret G2)) (fun _ => ?_)
    refine ok_ite (fun _ => ok_ix xi (ok_lt fun v5 _ => ok_ret G2)) (fun _ => ?_)
    exact ok_ix xi (ok_lt fun v5 _ => ok_ret G2)
  · refine ok_jnI0 True (fun _ => hk 1 (Or.inl k_1)) (fun k2 hk2 => ?_)
    refine ok_ite (fun _ => hk2 trivial) (fun c1 => ?_)
    rw [fa_eq, k_0] at c1
    obtain ⟨L, x0, xn⟩ := q.2 c1
    have cx := clamp_I x0
    have nb := nB_le h.1
    refine ok_calp s_isIn (fun v16 _ => ?_)
    exact ok_ite (fun _ => hk2 trivial) (fun _ => hk 0 (Or.inr ⟨k_0, by omega⟩))
theorem s_edge {σ τ : Sto} {x1 x2 : Int32} (h : GR τ σ) : OK (f_X12_edge x1 x2 σ) (fun r => GR τ r.2) := by
  have k_0 : (0 : Int32).toInt = 0 := by decide +kernel
  unfold f_X12_edge
  refine ok_lt fun s1 e1 => ?_
  have f1 : FR [0] [] σ s1 := by rw [e1]; exact FR.st FR.rf (by decide)
  have B1 : BM s1 := by rw [e1]; exact pM_0 h.1 (by omega)
  have G1 : GR τ s1 := h.fr B1 f1 rfl rfl
  have g32 := gM_32 B1 0
  refine ok_ite (fun _ => ok_ret G1) (fun c1 => ?_)
  refine ok_calp s_isIn (fun v3 q => ?_)
  rw [Int32.toInt_toInt64, Int32.toInt_toInt64, i64_0, i32_m1 g32.1] at q
  refine ok_ite (fun _ => ok_ret G1) (fun c2 => ?_)
  rw [fa_eq, k_0] at c2
  have xb := q.2.mp c2
  have xi : 0 ≤ x1.toInt ∧ x1.toInt < 120 := by omega
  refine ok_calp s_isIn (fun v5 _ => ?_)
  refine ok_ite (fun _ => ok_ret G1) (fun _ => ?_)
  refine ok_ite (fun _ => ok_ix xi (ok_lt fun v _ => ok_ret G1)) (fun _ => ?_)
  refine ok_ite (fun _ => ok_ix xi (ok_lt fun v _ => ok_ret G1)) (fun _ => ?_)
  refine ok_ite (fun _ => ok_ix xi (ok_lt fun v _ => ok_ite (fun _ => ok_ret G1) (fun _ => ok_ret G1))) (fun _ => ?_)
  refine ok_ite (fun _ => ok_ix xi (ok_lt fun v _ => ok_ite (fun _ => ok_ret G1) (fun _ => ok_ret G1))) (fun _ => ?_)
  exact ok_ix xi (ok_lt fun v _ => ok_ite (fun _ => ok_ret G1) (fun _ => ok_ret G1))
theorem s_dominates {σ τ : Sto} {x1 x2 : Int32} (h : GR τ σ) : OK (f_X12_dominates x1 x2 σ) (fun r => GR τ r.2) := by
  have k_0 : (0 : Int32).toInt = 0 := by decide +kernel
  unfold f_X12_dominates
  refine ok_lt fun s1 e1 => ?_
  have f1 : FR [0] [] σ s1 := by rw [e1]; exact FR.st FR.rf (by decide)
  have B1 : BM s1 := by rw [e1]; exact pM_0 h.1 (by omega)
  have G1 : GR τ s1 := h.fr B1 f1 rfl rfl
  have nb := nB_le B1
  refine ok_calp (s_isBlock G1) (fun v2 q => ?_)
  refine ok_jnI0 True (fun _ => ok_ret G1) (fun k hk => ?_)
  refine ok_ite (fun _ => hk trivial) (fun c1 => ?_)
  rw [fa_eq, k_0] at c1
  obtain ⟨_, a0, a1⟩ := q.2 c1
  have ca := clamp_I a0
  refine ok_calp (s_isBlock G1) (fun v5 r => ?_)
  refine ok_ite (fun _ => hk trivial) (fun c2 => ?_)
  rw [fa_eq, k_0] at c2
  obtain ⟨_, b0, b1⟩ := r.2 c2
  have cb := clamp_I b0
  refine ok_ix (by omega) ?_
  refine ok_lt fun v7 _ => ?_
  refine ok_calp (s_has (by omega)) (fun v8 _ => ?_)
  exact ok_ite (fun _ => hk trivial) (fun _ => ok_ret G1)
theorem s_loop {σ τ : Sto} {x1 : Int32} (h : GR τ σ) : OK (f_X12_loop x1 σ) (fun r => GR τ r.2) := by
  have k_0 : (0 : Int32).toInt = 0 := by decide +kernel
  unfold f_X12_loop
  refine ok_lt fun s1 e1 => ?_
  have f1 : FR [0] [] σ s1 := by rw [e1]; exact FR.st FR.rf (by decide)
  have B1 : BM s1 := by rw [e1]; exact pM_0 h.1 (by omega)
  have G1 : GR τ s1 := h.fr B1 f1 rfl rfl
  have nb := nB_le B1
  refine ok_calp (s_isBlock G1) (fun v2 q => ?_)
  refine ok_jnI0 True (fun _ => ok_ret G1) (fun k hk => ?_)
  refine ok_ite (fun _ => hk trivial) (fun c1 => ?_)
  rw [fa_eq, k_0] at c1
  obtain ⟨_, a0, a1⟩ := q.2 c1
  have ca := clamp_I a0
  have xi : 0 ≤ x1.toInt ∧ x1.toInt < 40 := by omega
  refine ok_ix xi (ok_lt fun v5 _ => ?_)
  refine ok_ite (fun _ => hk trivial) (fun _ => ?_)
  exact ok_ix xi (ok_lt fun v7 _ => ok_ret G1)
