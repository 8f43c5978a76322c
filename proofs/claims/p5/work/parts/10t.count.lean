theorem dv1 {c r x : Nat} (e : x = c + 256 * r) (h : c < 256) : x / 256 = r := by omega
theorem dv2 {a b q r x : Nat} (e : x = a + 256 * q) (f : q = b + 256 * r) (ha : a < 256) (hb : b < 256) : x / 65536 = r := by
  have h : x / 256 / 256 = x / (256 * 256) := Nat.div_div_eq_div_mul x 256 256
  rw [dv1 e ha, dv1 f hb] at h
  exact h.symm
theorem dv4 {q r x : Nat} (e : x / 65536 = q) (f : q / 65536 = r) : x / 4294967296 = r := by
  have h : x / 65536 / 65536 = x / (65536 * 65536) := Nat.div_div_eq_div_mul x 65536 65536
  rw [e, f] at h
  exact h.symm
theorem bn1 {c x y B : Nat} (e : x = c + 256 * y) (h : c ≤ 8) (hy : y ≤ B) : x ≤ 8 + 256 * B := by omega
theorem ad1 {a b x y u v : Nat} (e : x = a + 256 * u) (f : y = b + 256 * v) : x + y = (a + b) + 256 * (u + v) := by omega
theorem le2 {a b : Nat} (ha : a ≤ 8) (hb : b ≤ 8) : a + b ≤ 16 := by omega
theorem le4 {a b : Nat} (ha : a ≤ 16) (hb : b ≤ 16) : a + b < 256 := by omega
theorem lt2 {a : Nat} (ha : a ≤ 16) : a < 256 := by omega
theorem en1 {a b A B u v : Nat} (e : A = a + 256 * u) (f : B = b + 256 * v) (ha : a ≤ 32) (hb : b ≤ 32) : (A + B) % 128 = a + b := by omega
theorem lt3 {a b c d e f g h : Nat} (a0 : a ≤ 578721382704613384) (a1 : b ≤ 578721382704613384) (a2 : c ≤ 578721382704613384) (a3 : d ≤ 578721382704613384) (a4 : e ≤ 578721382704613384) (a5 : f ≤ 578721382704613384) (a6 : g ≤ 578721382704613384) (a7 : h ≤ 578721382704613384) : a + b < 2 ^ 64 ∧ a + b + (c + d) < 2 ^ 64 ∧ a + b + (c + d) + (e + f + (g + h)) < 2 ^ 64 := by omega
theorem pc_end {c0 c1 c2 c3 c4 c5 c6 c7 x x1 x2 x3 x4 x5 x6 x7 : Nat} (hx : x = c0 + 256 * x1) (g1 : x1 = c1 + 256 * x2) (g2 : x2 = c2 + 256 * x3) (g3 : x3 = c3 + 256 * x4) (g4 : x4 = c4 + 256 * x5) (g5 : x5 = c5 + 256 * x6) (g6 : x6 = c6 + 256 * x7) (g7 : x7 = c7) (h0 : c0 ≤ 8) (h1 : c1 ≤ 8) (h2 : c2 ≤ 8) (h3 : c3 ≤ 8) (h4 : c4 ≤ 8) (h5 : c5 ≤ 8) (h6 : c6 ≤ 8) (h7 : c7 ≤ 8) :
    ∃ y z w, y = x + x / 256 ∧ z = y + y / 65536 ∧ w = z + z / 4294967296 ∧ y < 2 ^ 64 ∧ z < 2 ^ 64 ∧ w < 2 ^ 64 ∧ w % 128 = c0 + c1 + c2 + c3 + c4 + c5 + c6 + c7 := by
  have b7 : x7 ≤ 8 := by rw [g7]; exact h7
  have b6 := bn1 g6 h6 b7
  have b5 := bn1 g5 h5 b6
  have b4 := bn1 g4 h4 b5
  have b3 := bn1 g3 h3 b4
  have b2 := bn1 g2 h2 b3
  have b1 := bn1 g1 h1 b2
  have b0 := bn1 hx h0 b1
  have g7' : x7 = c7 + 256 * 0 := g7
  have d1 : x / 256 = x1 := dv1 hx (by clear b0 b1 b2 b3 b4 b5 b6 b7 hx g1 g2 g3 g4 g5 g6 g7 g7'; omega)
  have y0 := ad1 hx g1
  have y1 := ad1 g1 g2
  have y2 := ad1 g2 g3
  have y3 := ad1 g3 g4
  have y4 := ad1 g4 g5
  have y5 := ad1 g5 g6
  have y6 := ad1 g6 g7'
  have l01 := le2 h0 h1
  have l12 := le2 h1 h2
  have l23 := le2 h2 h3
  have l34 := le2 h3 h4
  have l45 := le2 h4 h5
  have l67 := le2 h6 h7
  have d2 : (x + x1) / 65536 = x2 + x3 := dv2 y0 y1 (lt2 l01) (lt2 l12)
  have z0 := ad1 y0 y2
  have z1 := ad1 y1 y3
  have z2 := ad1 y2 y4
  have z3 := ad1 y3 y5
  have z4 := ad1 y4 y6
  have l56 := le2 h5 h6
  have d3 : (x + x1 + (x2 + x3)) / 65536 = x2 + x3 + (x4 + x5) := dv2 z0 z1 (le4 l01 l23) (le4 l12 l34)
  have d3b : (x2 + x3 + (x4 + x5)) / 65536 = x4 + x5 + (x6 + x7) := dv2 z2 z3 (le4 l23 l45) (le4 l34 l56)
  have d4 := dv4 d3 d3b
  have B := lt3 (a := x) (b := x1) (c := x2) (d := x3) (e := x4) (f := x5) (g := x6) (h := x7) (Nat.le_trans b0 (by decide)) (Nat.le_trans b1 (by decide)) (Nat.le_trans b2 (by decide)) (Nat.le_trans b3 (by decide)) (Nat.le_trans b4 (by decide)) (Nat.le_trans b5 (by decide)) (Nat.le_trans b6 (by decide)) (Nat.le_trans b7 (by decide))
  refine ⟨x + x1, x + x1 + (x2 + x3), x + x1 + (x2 + x3) + (x4 + x5 + (x6 + x7)), by rw [d1], by rw [d2], by rw [d4], B.1, B.2.1, B.2.2, ?_⟩
  rw [en1 z0 z4 (Nat.add_le_add l01 l23) (Nat.add_le_add l45 l67)]
  simp only [Nat.add_assoc]
