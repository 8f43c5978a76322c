/-- an instruction's sign and number -/
def INS (g n : Int) : Prop := ((g = 103 ∨ g = 122) ∧ 0 ≤ n ∧ n ≤ 39) ∨ (g = 107 ∧ 0 ≤ n ∧ n ≤ 999) ∨ ((g = 108 ∨ g = 115) ∧ 0 ≤ n ∧ n ≤ 5) ∨ (bareI g ∧ n = 0)
theorem bare_no {g : Int} (h : bareI g) : g ≠ 103 ∧ g ≠ 122 ∧ g ≠ 107 ∧ g ≠ 108 ∧ g ≠ 115 := by
  unfold bareI at h
  omega
theorem t_isInstruction {a b : Int32} : OK (f_X11_isInstruction a b) (fun v => (v.toInt = 0 ∨ v.toInt = 1) ∧ (v.toInt = 1 ↔ INS a.toInt b.toInt)) := by
  have k_0 : (0 : Int32).toInt = 0 := by decide +kernel
  have k_1 : (1 : Int32).toInt = 1 := by decide +kernel
  have k_6 : (6 : Int32).toInt = 6 := by decide +kernel
  have k_40 : (40 : Int32).toInt = 40 := by decide +kernel
  have k_999 : (999 : Int32).toInt = 999 := by decide +kernel
  have no : ¬ INS a.toInt b.toInt → OK (some (0 : Int32)) (fun v => (v.toInt = 0 ∨ v.toInt = 1) ∧ (v.toInt = 1 ↔ INS a.toInt b.toInt)) := fun h => ok_ret ⟨Or.inl k_0, fun z => by rw [k_0] at z; omega, fun z => absurd z h⟩
  have yes : INS a.toInt b.toInt → OK (some (1 : Int32)) (fun v => (v.toInt = 0 ∨ v.toInt = 1) ∧ (v.toInt = 1 ↔ INS a.toInt b.toInt)) := fun h => ok_ret ⟨Or.inr k_1, fun _ => h, fun _ => k_1⟩
  unfold f_X11_isInstruction
  refine ok_ite (fun c => ?_) (fun c => ?_)
  · have nb : ¬ bareI a.toInt := fun h => by have := bare_no h; omega
    refine ok_jn ?_
    refine ok_ite (fun d => no ?_) (fun d => ok_ite (fun e => no ?_) (fun e => yes ?_))
    · rw [fa_lt, k_0] at d
      intro z
      rcases z with z | z | z | z <;> omega
    · rw [fa_le, k_40] at e
      intro z
      rcases z with z | z | z | z
      · omega
      · omega
      · omega
      · exact nb z.1
    · rw [fa_lt, k_0] at d
      rw [fa_le, k_40] at e
      exact Or.inl ⟨c, by omega, by omega⟩
  refine ok_ite (fun c1 => ?_) (fun c1 => ?_)
  · have nb : ¬ bareI a.toInt := fun h => by have := bare_no h; omega
    refine ok_jn ?_
    refine ok_ite (fun d => no ?_) (fun d => ok_ite (fun e => no ?_) (fun e => yes ?_))
    · rw [fa_lt, k_0] at d
      intro z
      rcases z with z | z | z | z <;> omega
    · rw [fa_lt, k_999] at e
      intro z
      rcases z with z | z | z | z
      · omega
      · omega
      · omega
      · exact nb z.1
    · rw [fa_lt, k_0] at d
      rw [fa_lt, k_999] at e
      exact Or.inr (Or.inl ⟨c1, by omega, by omega⟩)
  refine ok_ite (fun c2 => ?_) (fun c2 => ?_)
  · have nb : ¬ bareI a.toInt := fun h => by have := bare_no h; omega
    refine ok_jn ?_
    refine ok_ite (fun d => no ?_) (fun d => ok_ite (fun e => no ?_) (fun e => yes ?_))
    · rw [fa_lt, k_0] at d
      intro z
      rcases z with z | z | z | z <;> omega
    · rw [fa_le, k_6] at e
      intro z
      rcases z with z | z | z | z
      · omega
      · omega
      · omega
      · exact nb z.1
    · rw [fa_lt, k_0] at d
      rw [fa_le, k_6] at e
      exact Or.inr (Or.inr (Or.inl ⟨c2, by omega, by omega⟩))
  refine ok_calp s_X11_isBare (fun v q => ?_)
  refine ok_jn ?_
  refine ok_ite (fun d => no ?_) (fun d => ok_ite (fun e => yes ?_) (fun e => no ?_))
  · rw [fa_eq, k_0] at d
    intro z
    rcases z with z | z | z | z
    · exact c z.1
    · exact c1 z.1
    · exact c2 z.1
    · have := q.2.2.mpr z.1
      omega
  · rw [fa_eq, k_0] at d e
    exact Or.inr (Or.inr (Or.inr ⟨q.2.2.mp (by omega), e⟩))
  · rw [fa_eq, k_0] at e
    intro z
    rcases z with z | z | z | z
    · exact c z.1
    · exact c1 z.1
    · exact c2 z.1
    · exact e z.2
theorem t_isCode {x y : Int32} : OK (f_X12_isCode x y) (fun v => (v.toInt = 0 ∨ v.toInt = 1) ∧ (v.toInt ≠ 0 ↔ INS x.toInt y.toInt)) := by
  have k_0 : (0 : Int32).toInt = 0 := by decide +kernel
  have k_1 : (1 : Int32).toInt = 1 := by decide +kernel
  have k_5 : (5 : Int32).toInt = 5 := by decide +kernel
  have k_39 : (39 : Int32).toInt = 39 := by decide +kernel
  have k_999 : (999 : Int32).toInt = 999 := by decide +kernel
  have k_m1 : ((-1) : Int32).toInt = -1 := by decide +kernel
  have k_107 : (107 : Int32).toInt = 107 := by decide +kernel
  have k_108 : (108 : Int32).toInt = 108 := by decide +kernel
  have k_115 : (115 : Int32).toInt = 115 := by decide +kernel
  have k_103 : (103 : Int32).toInt = 103 := by decide +kernel
  have k_122 : (122 : Int32).toInt = 122 := by decide +kernel
  unfold f_X12_isCode
  refine ok_calp s_X12_isPlain (fun v1 q => ?_)
  refine ok_ite (fun c1 => ?_) (fun c1 => ?_)
  · rw [fa_eq, k_0] at c1
    have nb : ¬ bareI x.toInt := fun h => by have := q.2.mpr h; omega
    refine ok_jnI1 (fun t => (t.toInt = 999 ∧ x.toInt = 107) ∨ (t.toInt = 5 ∧ (x.toInt = 108 ∨ x.toInt = 115)) ∨ (t.toInt = 39 ∧ (x.toInt = 103 ∨ x.toInt = 122)) ∨ (t.toInt = -1 ∧ x.toInt ≠ 107 ∧ x.toInt ≠ 108 ∧ x.toInt ≠ 115 ∧ x.toInt ≠ 103 ∧ x.toInt ≠ 122)) (fun t ht => ?_) (fun k hk => ?_)
    · refine ok_calp s_isIn (fun v4 r => ?_)
      rw [Int32.toInt_toInt64, Int32.toInt_toInt64, i64_0] at r
      refine ok_bz (by rw [fa_eq, fa_eq, k_0, k_1]; exact r.1) ?_
      refine ok_ret ⟨r.1, ?_⟩
      rw [r.2]
      constructor
      · intro w
        rcases ht with ⟨t1, t2⟩ | ⟨t1, t2⟩ | ⟨t1, t2⟩ | t1
        · exact Or.inr (Or.inl ⟨t2, by omega, by omega⟩)
        · exact Or.inr (Or.inr (Or.inl ⟨t2, by omega, by omega⟩))
        · exact Or.inl ⟨t2, by omega, by omega⟩
        · omega
      · intro w
        rcases w with w | w | w | w
        · rcases ht with ⟨t1, t2⟩ | ⟨t1, t2⟩ | ⟨t1, t2⟩ | t1 <;> omega
        · rcases ht with ⟨t1, t2⟩ | ⟨t1, t2⟩ | ⟨t1, t2⟩ | t1 <;> omega
        · rcases ht with ⟨t1, t2⟩ | ⟨t1, t2⟩ | ⟨t1, t2⟩ | t1 <;> omega
        · exact absurd w.1 nb
    · refine ok_ite (fun c2 => ?_) (fun c2 => ?_)
      · rw [fa_eq, k_107] at c2; exact hk 999 (Or.inl ⟨k_999, c2⟩)
      · rw [fa_eq, k_107] at c2
        refine ok_jnI0 (x.toInt = 108 ∨ x.toInt = 115) (fun h => hk 5 (Or.inr (Or.inl ⟨k_5, h⟩))) (fun k2 hk2 => ?_)
        refine ok_ite (fun c3 => ?_) (fun c3 => ?_)
        · rw [fa_eq, k_108] at c3; exact hk2 (Or.inl c3)
        · rw [fa_eq, k_108] at c3
          refine ok_ite (fun c4 => ?_) (fun c4 => ?_)
          · rw [fa_eq, k_115] at c4; exact hk2 (Or.inr c4)
          · rw [fa_eq, k_115] at c4
            refine ok_jnI0 (x.toInt = 103 ∨ x.toInt = 122) (fun h => hk 39 (Or.inr (Or.inr (Or.inl ⟨k_39, h⟩)))) (fun k3 hk3 => ?_)
            refine ok_ite (fun c5 => ?_) (fun c5 => ?_)
            · rw [fa_eq, k_103] at c5; exact hk3 (Or.inl c5)
            · rw [fa_eq, k_103] at c5
              refine ok_ite (fun c6 => ?_) (fun c6 => ?_)
              · rw [fa_eq, k_122] at c6; exact hk3 (Or.inr c6)
              · rw [fa_eq, k_122] at c6
                exact hk (-1) (Or.inr (Or.inr (Or.inr ⟨k_m1, c2, c3, c4, c5, c6⟩)))
  · rw [fa_eq, k_0] at c1
    have pb : bareI x.toInt := q.2.mp (by have := q.1; omega)
    have nn := bare_no pb
    refine ok_ite (fun c2 => ?_) (fun c2 => ?_)
    · rw [fa_eq, k_0] at c2
      exact ok_ret ⟨Or.inr k_1, fun _ => Or.inr (Or.inr (Or.inr ⟨pb, c2⟩)), fun _ => by rw [k_1]; decide⟩
    · rw [fa_eq, k_0] at c2
      refine ok_ret ⟨Or.inl k_0, fun z => absurd k_0 z, fun w => ?_⟩
      rcases w with w | w | w | w <;> omega
