theorem ct_tb (n a : Nat) : fb_ct (fun i => a.testBit i) (8 + 8 * n) = fb_ct (fun i => (a % 256).testBit i) 8 + fb_ct (fun i => (a / 256).testBit i) (8 * n) := by
  rw [fb_ct_split]
  have e1 : fb_ct (fun i => a.testBit i) 8 = fb_ct (fun i => (a % 256).testBit i) 8 := fb_ct_cong (fun i hi => by
    rw [show (256 : Nat) = 2 ^ 8 from rfl, Nat.testBit_mod_two_pow]; simp [hi])
  have e2 : fb_ct (fun k => a.testBit (8 + k)) (8 * n) = fb_ct (fun i => (a / 256).testBit i) (8 * n) := fb_ct_cong (fun i hi => by
    rw [show (256 : Nat) = 2 ^ 8 from rfl, Nat.testBit_div_two_pow, Nat.add_comm])
  rw [e1, e2]
theorem pT_8 (a : Nat) : ∃ c0 c1 c2 c3 c4 c5 c6 c7 x1 x2 x3 x4 x5 x6 x7, pT 8 a = c0 + 256 * x1 ∧ x1 = c1 + 256 * x2 ∧ x2 = c2 + 256 * x3 ∧ x3 = c3 + 256 * x4 ∧ x4 = c4 + 256 * x5 ∧ x5 = c5 + 256 * x6 ∧ x6 = c6 + 256 * x7 ∧ x7 = c7 ∧ fb_ct (fun i => a.testBit i) 64 = c0 + c1 + c2 + c3 + c4 + c5 + c6 + c7 ∧ c0 ≤ 8 ∧ c1 ≤ 8 ∧ c2 ≤ 8 ∧ c3 ≤ 8 ∧ c4 ≤ 8 ∧ c5 ≤ 8 ∧ c6 ≤ 8 ∧ c7 ≤ 8 := by
  have s : ∀ n b, ∃ c, pT (n + 1) b = c + 256 * pT n (b / 256) ∧ fb_ct (fun i => b.testBit i) (8 + 8 * n) = c + fb_ct (fun i => (b / 256).testBit i) (8 * n) ∧ c ≤ 8 := fun n b => ⟨_, pT_s n b, ct_tb n b, fb_ct_le _ _⟩
  obtain ⟨c0, p0, q0, l0⟩ := s 7 a
  obtain ⟨c1, p1, q1, l1⟩ := s 6 (a / 256)
  obtain ⟨c2, p2, q2, l2⟩ := s 5 (a / 256 / 256)
  obtain ⟨c3, p3, q3, l3⟩ := s 4 (a / 256 / 256 / 256)
  obtain ⟨c4, p4, q4, l4⟩ := s 3 (a / 256 / 256 / 256 / 256)
  obtain ⟨c5, p5, q5, l5⟩ := s 2 (a / 256 / 256 / 256 / 256 / 256)
  obtain ⟨c6, p6, q6, l6⟩ := s 1 (a / 256 / 256 / 256 / 256 / 256 / 256)
  obtain ⟨c7, p7, q7, l7⟩ := s 0 (a / 256 / 256 / 256 / 256 / 256 / 256 / 256)
  have z : pT 0 (a / 256 / 256 / 256 / 256 / 256 / 256 / 256 / 256) = 0 := by
    show (_ + _) &&& 0 = 0
    exact Nat.and_zero _
  rw [z] at p7
  refine ⟨c0, c1, c2, c3, c4, c5, c6, c7, _, _, _, _, _, _, _, p0, p1, p2, p3, p4, p5, p6, p7, ?_, l0, l1, l2, l3, l4, l5, l6, l7⟩
  have q0' : fb_ct (fun i => a.testBit i) 64 = c0 + fb_ct (fun i => (a / 256).testBit i) 56 := q0
  have q1' : fb_ct (fun i => (a / 256).testBit i) 56 = c1 + fb_ct (fun i => (a / 256 / 256).testBit i) 48 := q1
  have q2' : fb_ct (fun i => (a / 256 / 256).testBit i) 48 = c2 + fb_ct (fun i => (a / 256 / 256 / 256).testBit i) 40 := q2
  have q3' : fb_ct (fun i => (a / 256 / 256 / 256).testBit i) 40 = c3 + fb_ct (fun i => (a / 256 / 256 / 256 / 256).testBit i) 32 := q3
  have q4' : fb_ct (fun i => (a / 256 / 256 / 256 / 256).testBit i) 32 = c4 + fb_ct (fun i => (a / 256 / 256 / 256 / 256 / 256).testBit i) 24 := q4
  have q5' : fb_ct (fun i => (a / 256 / 256 / 256 / 256 / 256).testBit i) 24 = c5 + fb_ct (fun i => (a / 256 / 256 / 256 / 256 / 256 / 256).testBit i) 16 := q5
  have q6' : fb_ct (fun i => (a / 256 / 256 / 256 / 256 / 256 / 256).testBit i) 16 = c6 + fb_ct (fun i => (a / 256 / 256 / 256 / 256 / 256 / 256 / 256).testBit i) 8 := q6
  have q7' : fb_ct (fun i => (a / 256 / 256 / 256 / 256 / 256 / 256 / 256).testBit i) 8 = c7 + 0 := q7
  rw [q0', q1', q2', q3', q4', q5', q6', q7']
  simp only [Nat.add_zero, Nat.add_assoc]
