/-- when the class's instruction returns -/
def XIN (a b : Int32) (σ : Sto) : Prop := σ.1 0 0 ≠ 0 ∧ ¬ a < 0 ∧ ¬ σ.1 4 0 ≤ a ∧ ¬ b < 0 ∧ b ≤ 5
/-- when the class's block returns -/
def XBL (a b : Int32) (σ : Sto) : Prop := f_X11_isBlock a σ ≠ some 0 ∧ ¬ b < 0 ∧ b ≤ 12
theorem ok_rd {n : Nat} {i x : Int32} (h : 0 ≤ i.toInt ∧ i.toInt < (n : Int)) : OK (ix n i <| lt x fun v => some v) (fun _ => True) := ok_ix h (ok_lt fun v _ => ok_ret trivial)
theorem ok_cl {α : Type} {o : Option α} {Q : α → Prop} (ho : OK o Q) : OK (calp o fun v => some v) (fun _ => True) := ok_calp ho (fun v _ => ok_ret trivial)
theorem ok_b1 {o : Option Int32} {Q : Int32 → Prop} (ho : OK o Q) : OK (calp o fun v => if v = 0 then some (0 : Int32) else some (1 : Int32)) (fun _ => True) := ok_calp ho (fun v _ => ok_ite (fun _ => ok_ret trivial) (fun _ => ok_ret trivial))
theorem s_X11_instruction {a b : Int32} {σ : Sto} (hB : BX σ) (h : XIN a b σ) : OK (f_X11_instruction a b σ) (fun _ => True) := by
  obtain ⟨h1, h2, h3, h4, h5⟩ := h
  have g4 := gX_4 hB 0
  have k_0 : (0 : Int32).toInt = 0 := by decide +kernel
  have j2 := h2
  have j3 := h3
  rw [fa_lt, k_0] at j2
  rw [fa_le] at j3
  have hi : 0 ≤ a.toInt ∧ a.toInt < ((40 : Nat) : Int) := ⟨by omega, by omega⟩
  unfold f_X11_instruction
  refine ok_ite (fun c => absurd c h1) (fun _ => ?_)
  refine ok_ite (fun c => absurd c h2) (fun _ => ?_)
  refine ok_ite (fun c => absurd c h3) (fun _ => ?_)
  refine ok_ite (fun c => absurd c h4) (fun _ => ?_)
  refine ok_ite (fun _ => ?_) (fun c => absurd h5 c)
  refine ok_ite (fun _ => ok_rd hi) (fun _ => ?_)
  refine ok_ite (fun _ => ok_rd hi) (fun _ => ?_)
  refine ok_ite (fun _ => ok_rd hi) (fun _ => ?_)
  refine ok_ite (fun _ => ok_rd hi) (fun _ => ?_)
  exact ok_ite (fun _ => ok_cl (s_X3_handlerOf hB ⟨by omega, by omega⟩)) (fun _ => ok_b1 s_X11_isIn)
theorem s_X11_block {a b : Int32} {σ : Sto} (hB : BX σ) (h : XBL a b σ) : OK (f_X11_block a b σ) (fun _ => True) := by
  obtain ⟨h1, h4, h5⟩ := h
  have g20 := gX_20 hB 0
  obtain ⟨v, e, q⟩ := s_X11_isBlock (x1 := a) hB
  have hv : v ≠ 0 := fun z => h1 (by rw [e, z])
  have q1 : v.toInt = 1 := by
    have : v.toInt ≠ 0 := fun z => hv (Int32.toInt_inj.mp (by rw [z]; decide +kernel))
    omega
  have q2 := q.2 q1
  have hi : 0 ≤ a.toInt ∧ a.toInt < ((40 : Nat) : Int) := ⟨by omega, by omega⟩
  have hj : 0 ≤ a.toInt ∧ a.toInt < ((41 : Nat) : Int) := ⟨by omega, by omega⟩
  have hk : 0 ≤ (a + 1).toInt ∧ (a + 1).toInt < ((41 : Nat) : Int) := by
    rw [i1 (by omega)]
    exact ⟨by omega, by omega⟩
  unfold f_X11_block
  rw [e]
  refine ok_calp (Q := fun w => w = v) ⟨v, rfl, rfl⟩ (fun w hw => ?_)
  subst hw
  refine ok_ite (fun c => absurd c hv) (fun _ => ?_)
  refine ok_ite (fun c => absurd c h4) (fun _ => ?_)
  refine ok_ite (fun _ => ?_) (fun c => absurd h5 c)
  refine ok_ite (fun _ => ok_rd hi) (fun _ => ?_)
  refine ok_ite (fun _ => ok_rd hi) (fun _ => ?_)
  refine ok_ite (fun _ => ok_ix hi (ok_lt fun u eu => ok_rd (by
    have g := gX_21 hB a.toNatClampNeg
    rw [← eu] at g
    exact ⟨by omega, by omega⟩))) (fun _ => ?_)
  refine ok_ite (fun _ => ok_rd hi) (fun _ => ?_)
  refine ok_ite (fun _ => ok_rd hi) (fun _ => ?_)
  refine ok_ite (fun _ => ok_cl (s_X8_innermost hB)) (fun _ => ?_)
  refine ok_ite (fun _ => ok_cl (s_X8_loopsRound hB)) (fun _ => ?_)
  refine ok_ite (fun _ => ok_b1 s_X11_isIn) (fun _ => ?_)
  refine ok_ite (fun _ => ok_b1 s_X11_isIn) (fun _ => ?_)
  refine ok_ite (fun _ => ok_ix hk (ok_lt fun u _ => ok_ix hj (ok_lt fun w _ => ok_ret trivial))) (fun _ => ?_)
  refine ok_ite (fun _ => ok_rd hi) (fun _ => ?_)
  exact ok_ite (fun _ => ok_rd hi) (fun _ => ok_rd hi)
