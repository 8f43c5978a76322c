theorem ptI_cg {r r2 : Nat → Int32} {a v : Int32} {i : Nat} (h : r i = r2 i) : ptI r a v i = ptI r2 a v i := by
  show (if i = a.toNatClampNeg then v else r i) = (if i = a.toNatClampNeg then v else r2 i)
  rw [h]
theorem no_putX {σ : Sto} {a b c : Int32} (h : (σ.1 0 0).toInt = 0 ∨ a.toInt < 0 ∨ (σ.1 4 0).toInt ≤ a.toInt ∨ ¬ INS b.toInt c.toInt) : f_X11_put a b c σ = some ((-1), σ) := by
  have k_0 : (0 : Int32).toInt = 0 := by decide +kernel
  unfold f_X11_put
  by_cases c1 : (σ.1 0 0) = 0
  · rw [if_pos c1]
  rw [if_neg c1]
  by_cases c2 : a < 0
  · rw [if_pos c2]
  rw [if_neg c2]
  by_cases c3 : (σ.1 4 0) ≤ a
  · rw [if_pos c3]
  rw [if_neg c3]
  obtain ⟨v, e, q1, q2⟩ := t_isInstruction (a := b) (b := c)
  rw [e]
  have n : ¬ INS b.toInt c.toInt := by
    rw [fa_eq, k_0] at c1
    rw [fa_lt, k_0] at c2
    rw [fa_le] at c3
    rcases h with h | h | h | h
    · exact absurd h c1
    · omega
    · omega
    · exact h
  have v0 : v = 0 := Int32.toInt_inj.mp (by rw [k_0]; rcases q1 with q | q; exact q; exact absurd (q2.mp q) n)
  show (if v = 0 then some (((-1) : Int32), σ) else _) = _
  rw [if_pos v0]
theorem no_putM {σ : Sto} {a b c : Int32} (hB : BM σ) (h : (σ.1 21 0).toInt = 0 ∨ a.toInt < 0 ∨ (σ.1 15 0).toInt ≤ a.toInt ∨ ¬ INS b.toInt c.toInt) : f_X12_put a b c σ = some ((-1), sti σ 0 0 0) := by
  have k_0 : (0 : Int32).toInt = 0 := by decide +kernel
  have n1 : (nI 1) = (1 : Int32) := by decide +kernel
  have g15 := gM_15 hB 0
  have em := i_sub (x := σ.1 15 0) (k := 1) (by decide) (by omega)
  rw [n1] at em
  unfold f_X12_put
  show (if ((sti σ 0 0 0).1 21 0) = 0 then some (((-1) : Int32), sti σ 0 0 0) else _) = _
  rw [sti_o (by decide)]
  by_cases c1 : (σ.1 21 0) = 0
  · rw [if_pos c1]
  rw [if_neg c1]
  rw [sti_o (by decide)]
  obtain ⟨v, e, q1, q2⟩ := s_isIn (a := a.toInt64) (b := (0 : Int64)) (c := ((σ.1 15 0) - 1).toInt64)
  rw [Int32.toInt_toInt64, Int32.toInt_toInt64, i64_0, em] at q2
  rw [e]
  show (if v = 0 then some (((-1) : Int32), sti σ 0 0 0) else _) = _
  by_cases c2 : v = 0
  · rw [if_pos c2]
  rw [if_neg c2]
  obtain ⟨w, e2, p1, p2⟩ := t_isCode (x := b) (y := c)
  rw [e2]
  have n : ¬ INS b.toInt c.toInt := by
    rw [fa_eq, k_0] at c1 c2
    have := q2.mp c2
    rcases h with h | h | h | h
    · exact absurd h c1
    · omega
    · omega
    · exact h
  have v0 : w = 0 := Int32.toInt_inj.mp (by rw [k_0]; rcases p1 with q | q; exact q; exact absurd (p2.mp (by omega)) n)
  show (if w = 0 then some (((-1) : Int32), sti σ 0 0 0) else _) = _
  rw [if_pos v0]
