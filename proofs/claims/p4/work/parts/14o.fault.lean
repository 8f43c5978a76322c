/-- what fault answers of a tape -/
def FAo (T : Tp) : Int := if (paT T.2.toInt.toNat (cb T.1)).1 = 0 then ((paT T.2.toInt.toNat (cb T.1)).2 : Int) else -1
theorem t_faultX {σ : Sto} (hB : BX σ) : OK (f_X11_fault σ) (fun r => r.1.toInt = FAo (Tq σ)) := by
  unfold f_X11_fault
  have k_m : ((-1) : Int32).toInt = -1 := by decide +kernel
  have k_0 : (0 : Int32).toInt = 0 := by decide +kernel
  refine ok_calv (s_X9_read_draft (σ := σ) hB) (fun v1 s1 q => ?_)
  obtain ⟨b1, B1, F1, D1, x1, x2⟩ := q
  have g3 : 0 ≤ (s1.1 3 0).toInt ∧ (s1.1 3 0).toInt ≤ 240 := gX_3 B1 0
  have e1 : v1.toInt = (paT (σ.1 2 0).toInt.toNat (cb (σ.1 1))).1 := congrArg Prod.fst x1
  have e2 : (s1.1 3 0).toInt.toNat = (paT (σ.1 2 0).toInt.toNat (cb (σ.1 1))).2 := congrArg Prod.snd x1
  unfold FAo Tq
  dsimp only
  refine ok_ite (fun c => ?_) (fun c => ?_)
  · refine ok_ret ?_
    rw [fa_eq, k_0] at c
    rw [if_pos (by rw [← e1]; exact c), ← e2]
    dsimp only
    omega
  · refine ok_ret ?_
    rw [fa_eq, k_0] at c
    rw [if_neg (by rw [← e1]; exact c)]
    exact k_m
theorem t_faultM {σ : Sto} (hB : BM σ) : OK (f_X12_fault σ) (fun r => r.1.toInt = FAo (Tq σ)) := by
  unfold f_X12_fault
  have k_m : ((-1) : Int32).toInt = -1 := by decide +kernel
  have k_0 : (0 : Int32).toInt = 0 := by decide +kernel
  refine ok_lt (fun s0 e0 => ?_)
  have hB0 : BM s0 := by rw [e0]; exact pM_0 hB (by rw [k_0]; omega)
  have t1 : s0.1 1 = σ.1 1 := by rw [e0]; rfl
  have t2 : s0.1 2 = σ.1 2 := by rw [e0]; rfl
  refine ok_calv (s_X12_isText (σ := s0) hB0) (fun v1 s1 q => ?_)
  obtain ⟨b1, B1, F1, D1, x1, x2⟩ := q
  rw [t1, t2] at x1
  have g3 : 0 ≤ (s1.1 3 0).toInt ∧ (s1.1 3 0).toInt ≤ 240 := gM_3 B1 0
  have e1 : v1.toInt = (paT (σ.1 2 0).toInt.toNat (cb (σ.1 1))).1 := congrArg Prod.fst x1
  have e2 : (s1.1 3 0).toInt.toNat = (paT (σ.1 2 0).toInt.toNat (cb (σ.1 1))).2 := congrArg Prod.snd x1
  unfold FAo Tq
  dsimp only
  refine ok_ite (fun c => ?_) (fun c => ?_)
  · refine ok_ret ?_
    rw [fa_eq, k_0] at c
    rw [if_pos (by rw [← e1]; exact c), ← e2]
    dsimp only
    omega
  · refine ok_ret ?_
    rw [fa_eq, k_0] at c
    rw [if_neg (by rw [← e1]; exact c)]
    exact k_m
/-- fault on both sides: the same answer -/
theorem J_fault2 {σ s : Sto} (h : JT σ s) : ∃ v σ2 s2, f_X11_fault σ = some (v, σ2) ∧ f_X12_fault s = some (v, s2) ∧ JT σ2 s2 := by
  obtain ⟨⟨v, σ2⟩, x1, x3⟩ := t_faultX h.1.b
  obtain ⟨⟨w, s2⟩, y1, y3⟩ := t_faultM h.2.1.1
  obtain ⟨v', σ2', w', s2', z1, z2, z3⟩ := J_fault h
  have e : v = w := Int32.toInt_inj.mp (by
    have x3 : v.toInt = FAo (Tq σ) := x3
    have y3 : w.toInt = FAo (Tq s) := y3
    rw [x3, y3, h.2.2])
  subst e
  have a := Option.some.inj (x1.symm.trans z1)
  have b := Option.some.inj (y1.symm.trans z2)
  injection a with a1 a2
  injection b with b1 b2
  subst a2; subst b2
  exact ⟨v, σ2, s2, x1, y1, z3⟩
