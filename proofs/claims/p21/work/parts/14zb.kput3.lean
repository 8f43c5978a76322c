theorem K_put {σ s : Sto} (h : JT3 σ s) (a b c : Int32) : ∃ v σ2 s2, f_X11_put a b c σ = some (v, σ2) ∧ f_X12_put a b c s = some (v, s2) ∧ JT3 σ2 s2 := by
  obtain ⟨v, σ2, w, s2, z1, z2, z3⟩ := J_put h.1 a b c
  have refused : f_X11_put a b c σ = some ((-1), σ) → f_X12_put a b c s = some ((-1), sti s 0 0 0) → ∃ v σ2 s2, f_X11_put a b c σ = some (v, σ2) ∧ f_X12_put a b c s = some (v, s2) ∧ JT3 σ2 s2 := fun e1 e2 => by
    have p := Option.some.inj (z1.symm.trans e1)
    have q := Option.some.inj (z2.symm.trans e2)
    injection p with p1 p2
    injection q with q1 q2
    subst p2; subst q2
    refine ⟨-1, σ2, sti s 0 0 0, e1, e2, z3, h.2.cg (fun _ _ => rfl) (fun k hk => sti_o (fun e => ?_))⟩
    subst e
    revert hk
    decide
  rcases h.2 with ⟨a1, a2⟩ | ⟨a1, a2, a3, a4, a5, a6, a7, a8⟩
  · exact refused (no_putX (Or.inl a1)) (no_putM h.1.2.1.1 (Or.inl a2))
  by_cases r : 0 ≤ a.toInt ∧ a.toInt < (σ.1 4 0).toInt ∧ INS b.toInt c.toInt
  · obtain ⟨r1, r2, r3⟩ := r
    obtain ⟨⟨v', σ'⟩, x1, X⟩ := t_putX h.1.1 a1 r1 r2 r3
    obtain ⟨⟨w', s'⟩, y1, Y⟩ := t_putM h.1.2.1 a2 r1 (by omega) r3
    have p := Option.some.inj (x1.symm.trans z1)
    have q := Option.some.inj (y1.symm.trans z2)
    injection p with p1 p2
    injection q with q1 q2
    subst p2; subst q2; subst p1; subst q1
    (try dsimp only at X Y)
    rw [a3, a4] at X
    have ca : ∀ i, i < (s.1 15 0).toInt.toNat → ri (ptI (s.1 9) a b) i = ri (ptI (σ.1 6) a b) i ∧ ri (ptI (s.1 10) a c) i = ri (ptI (σ.1 7) a c) i := fun i hi => by
      have t := a5 i hi
      unfold ri
      rw [ptI_cg (a := a) (v := b) t.1, ptI_cg (a := a) (v := c) t.2]
      exact ⟨rfl, rfl⟩
    have cb_ : ∀ h, h < (s.1 16 0).toInt.toNat → ri (h3 (s.1 11) 0) h = ri (σ.1 9) h ∧ ri (h3 (s.1 11) 1) h = ri (σ.1 10) h ∧ ri (h3 (s.1 11) 2) h = ri (σ.1 11) h := fun i hi => by
      have t := a6 i hi
      unfold ri
      rw [t.1, t.2.1, t.2.2]
      exact ⟨rfl, rfl, rfl⟩
    have ca2 : ∀ i, i < (s.1 15 0).toInt.toNat → ri (ptI (σ.1 6) a b) i = ri (ptI (s.1 9) a b) i ∧ ri (ptI (σ.1 7) a c) i = ri (ptI (s.1 10) a c) i := fun i hi => ⟨(ca i hi).1.symm, (ca i hi).2.symm⟩
    have cb2 : ∀ h, h < (s.1 16 0).toInt.toNat → ri (σ.1 9) h = ri (h3 (s.1 11) 0) h ∧ ri (σ.1 10) h = ri (h3 (s.1 11) 1) h ∧ ri (σ.1 11) h = ri (h3 (s.1 11) 2) h := fun i hi => ⟨(cb_ i hi).1.symm, (cb_ i hi).2.1.symm, (cb_ i hi).2.2.symm⟩
    have fin : ∀ v9 : Int, v'.toInt = v9 → w'.toInt = v9 → LSA σ' s' → ∃ v σ2 s2, f_X11_put a b c σ = some (v, σ2) ∧ f_X12_put a b c s = some (v, s2) ∧ JT3 σ2 s2 := fun v9 e1 e2 g => by
      have e : v' = w' := Int32.toInt_inj.mp (e1.trans e2.symm)
      subst e
      exact ⟨v', σ', s', x1, y1, z3, g⟩
    by_cases L : LDP (s.1 15 0).toInt.toNat (s.1 16 0).toInt.toNat (ri (ptI (s.1 9) a b)) (ri (ptI (s.1 10) a c)) (ri (h3 (s.1 11) 0)) (ri (h3 (s.1 11) 1)) (ri (h3 (s.1 11) 2))
    · have X2 := X.2 (LDP.cp ca2 cb2 L) _ (JUP_cp ca cb_)
      have Y2 := Y.2 L _ rfl
      by_cases q0 : (JUP (s.1 15 0).toInt.toNat (s.1 16 0).toInt.toNat (ri (ptI (s.1 9) a b)) (ri (ptI (s.1 10) a c)) (ri (h3 (s.1 11) 0)) (ri (h3 (s.1 11) 1)) (ri (h3 (s.1 11) 2))).1 = 0
      · obtain ⟨X3, n1, n2, n3, n4, n5, n6, n7, n8⟩ := X2.2 q0
        obtain ⟨Y3, m1, m2, m3, m4, m5, m6, m7⟩ := Y2.2 q0
        rw [cbP_cg (fun i _ => rfl) (fun i _ => CUTC.cp ca2 cb2)] at X3
        rw [a3] at n4 n6
        rw [a4] at n5
        refine fin _ X3 Y3 (Or.inr ⟨n1, m1, by omega, by omega, fun i hi => ?_, fun i hi => ?_, ?_, n7⟩)
        · rw [m2] at hi
          have t := a5 i hi
          exact ⟨(n4 i hi).1.trans ((ptI_cg t.1).trans (m4 i hi).1.symm), (n4 i hi).2.trans ((ptI_cg t.2).trans (m4 i hi).2.symm)⟩
        · rw [m3] at hi
          have t := a6 i hi
          exact ⟨(n5 i hi).1.trans (t.1.trans (m5 i hi).1.symm), (n5 i hi).2.1.trans (t.2.1.trans (m5 i hi).2.1.symm), (n5 i hi).2.2.trans (t.2.2.trans (m5 i hi).2.2.symm)⟩
        · rw [m2, n6, m6]
      · obtain ⟨X3, X4⟩ := X2.1 q0
        obtain ⟨Y3, Y4⟩ := Y2.1 q0
        exact fin _ X3 Y3 (h.2.cg X4 Y4)
    · obtain ⟨X3, X4⟩ := X.1 (fun z => L (LDP.cp ca cb_ z))
      obtain ⟨Y3, Y4⟩ := Y.1 L
      exact fin _ X3 Y3 (h.2.cg X4 Y4)
  · have n : (σ.1 0 0).toInt = 0 ∨ a.toInt < 0 ∨ (σ.1 4 0).toInt ≤ a.toInt ∨ ¬ INS b.toInt c.toInt := by
      by_cases q1 : a.toInt < 0
      · exact Or.inr (Or.inl q1)
      by_cases q2 : (σ.1 4 0).toInt ≤ a.toInt
      · exact Or.inr (Or.inr (Or.inl q2))
      exact Or.inr (Or.inr (Or.inr (fun q3 => r ⟨by omega, by omega, q3⟩)))
    exact refused (no_putX n) (no_putM h.1.2.1.1 (by rw [a3] at n; exact n.imp (fun z => absurd z a1) id))
