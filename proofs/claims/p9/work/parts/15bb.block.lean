/-- what block answers -/
def BLV (fi la dp oo ab : Int) (inn : Option Nat) (rn : Int) (mg hd : Prop) (ns l1 l2 ca b v : Int) : Prop := (b = 0 → v = fi) ∧ (b = 1 → v = la) ∧ (b = 2 → v = dp) ∧ (b = 3 → v = oo) ∧ (b = 4 → v = ab) ∧ (b = 5 → ONV inn v) ∧ (b = 6 → v = rn) ∧ (b = 7 → B01 mg v) ∧ (b = 8 → B01 hd v) ∧ (b = 9 → v = ns) ∧ (b = 10 → v = l1) ∧ (b = 11 → v = l2) ∧ (b = 12 → v = ca)
theorem BLV.uq {fi la dp oo ab rn ns l1 l2 ca b v w : Int} {inn : Option Nat} {mg hd mg2 hd2 : Prop} (h : BLV fi la dp oo ab inn rn mg hd ns l1 l2 ca b v) (g : BLV fi la dp oo ab inn rn mg2 hd2 ns l1 l2 ca b w) (e1 : mg ↔ mg2) (e2 : hd ↔ hd2) (b0 : 0 ≤ b) (b12 : b ≤ 12) : v = w := by
  obtain ⟨h0, h1, h2, h3_, h4, h5, h6, h7, h8, h9, h10, h11, h12⟩ := h
  obtain ⟨g0, g1, g2, g3, g4, g5, g6, g7, g8, g9, g10, g11, g12⟩ := g
  have c : b = 0 ∨ b = 1 ∨ b = 2 ∨ b = 3 ∨ b = 4 ∨ b = 5 ∨ b = 6 ∨ b = 7 ∨ b = 8 ∨ b = 9 ∨ b = 10 ∨ b = 11 ∨ b = 12 := by omega
  rcases c with c | c | c | c | c | c | c | c | c | c | c | c | c
  · rw [h0 c, g0 c]
  · rw [h1 c, g1 c]
  · rw [h2 c, g2 c]
  · rw [h3_ c, g3 c]
  · rw [h4 c, g4 c]
  · exact (h5 c).uq (g5 c)
  · rw [h6 c, g6 c]
  · exact (h7 c).uq (g7 c) e1
  · exact (h8 c).uq (g8 c) e2
  · rw [h9 c, g9 c]
  · rw [h10 c, g10 c]
  · rw [h11 c, g11 c]
  · rw [h12 c, g12 c]
theorem t_blkX {a b : Int32} {σ : Sto} {n : Nat} (hn : n ≤ 40) (h20 : (σ.1 20 0).toInt = (n : Int)) : PC (f_X11_block a b σ) (fun v => ((σ.1 0 0).toInt ≠ 0 ∧ (0 ≤ a.toInt ∧ a.toInt < (n : Int)) ∧ 0 ≤ b.toInt ∧ b.toInt ≤ 12) ∧ BLV (σ.1 21 a.toNatClampNeg).toInt (σ.1 22 a.toNatClampNeg).toInt (σ.1 8 (σ.1 21 a.toNatClampNeg).toNatClampNeg).toInt (σ.1 40 a.toNatClampNeg).toInt (σ.1 41 a.toNatClampNeg).toInt (innP (σ.2 3) a.toNatClampNeg n) (fb_ct (fun y => bL (σ.2 3 y) a.toNatClampNeg) n : Int) (bL (σ.2 4 0) a.toNatClampNeg = true) (bL (σ.2 2 0) a.toNatClampNeg = true) (((σ.1 56 (a.toNatClampNeg + 1)) - (σ.1 56 a.toNatClampNeg)).toInt) (σ.1 66 a.toNatClampNeg).toInt (σ.1 67 a.toNatClampNeg).toInt (σ.1 26 a.toNatClampNeg).toInt b.toInt v.toInt) := by
  have k_0 : (0 : Int32).toInt = 0 := by decide +kernel
  have k_1 : (1 : Int32).toInt = 1 := by decide +kernel
  have k_12 : (12 : Int32).toInt = 12 := by decide +kernel
  unfold f_X11_block
  refine pc_calp t_isBlockX (fun v1 q1 => ?_)
  rw [h20] at q1
  refine pc_ite (fun _ => pc_no) (fun c1 => ?_)
  rw [fa_eq, k_0] at c1
  have p := q1.mp c1
  refine pc_ite (fun _ => pc_no) (fun c2 => ?_)
  rw [fa_lt, k_0] at c2
  refine pc_ite (fun c3 => ?_) (fun _ => pc_no)
  rw [fa_le, k_12] at c3
  have P : (σ.1 0 0).toInt ≠ 0 ∧ (0 ≤ a.toInt ∧ a.toInt < (n : Int)) ∧ 0 ≤ b.toInt ∧ b.toInt ≤ 12 := ⟨p.1, p.2, by omega, c3⟩
  have ea : (a + 1).toInt = a.toInt + 1 := i1 (by omega)
  have ca1 : (a + 1).toNatClampNeg = a.toNatClampNeg + 1 := by
    have := clamp_I (x := a + 1) (by omega)
    have := clamp_I p.2.1
    omega
  unfold BLV
  refine pc_ite (fun c => ?_) (fun d0 => ?_)
  · refine pc_ix (fun _ => pc_lt fun v e => pc_ret ⟨P, ?_⟩)
    rw [e]
    exact ⟨fun _ => rfl, fun z => by omega, fun z => by omega, fun z => by omega, fun z => by omega, fun z => by omega, fun z => by omega, fun z => by omega, fun z => by omega, fun z => by omega, fun z => by omega, fun z => by omega, fun z => by omega⟩
  refine pc_ite (fun c => ?_) (fun d1 => ?_)
  · refine pc_ix (fun _ => pc_lt fun v e => pc_ret ⟨P, ?_⟩)
    rw [e]
    exact ⟨fun z => by omega, fun _ => rfl, fun z => by omega, fun z => by omega, fun z => by omega, fun z => by omega, fun z => by omega, fun z => by omega, fun z => by omega, fun z => by omega, fun z => by omega, fun z => by omega, fun z => by omega⟩
  refine pc_ite (fun c => ?_) (fun d2 => ?_)
  · refine pc_ix (fun _ => pc_lt fun v8 e8 => ?_)
    subst e8
    refine pc_ix (fun _ => pc_lt fun v e => pc_ret ⟨P, ?_⟩)
    rw [e]
    exact ⟨fun z => by omega, fun z => by omega, fun _ => rfl, fun z => by omega, fun z => by omega, fun z => by omega, fun z => by omega, fun z => by omega, fun z => by omega, fun z => by omega, fun z => by omega, fun z => by omega, fun z => by omega⟩
  refine pc_ite (fun c => ?_) (fun d3 => ?_)
  · refine pc_ix (fun _ => pc_lt fun v e => pc_ret ⟨P, ?_⟩)
    rw [e]
    exact ⟨fun z => by omega, fun z => by omega, fun z => by omega, fun _ => rfl, fun z => by omega, fun z => by omega, fun z => by omega, fun z => by omega, fun z => by omega, fun z => by omega, fun z => by omega, fun z => by omega, fun z => by omega⟩
  refine pc_ite (fun c => ?_) (fun d4 => ?_)
  · refine pc_ix (fun _ => pc_lt fun v e => pc_ret ⟨P, ?_⟩)
    rw [e]
    exact ⟨fun z => by omega, fun z => by omega, fun z => by omega, fun z => by omega, fun _ => rfl, fun z => by omega, fun z => by omega, fun z => by omega, fun z => by omega, fun z => by omega, fun z => by omega, fun z => by omega, fun z => by omega⟩
  refine pc_ite (fun c => ?_) (fun d5 => ?_)
  · refine pc_calp (t_innermost hn h20 ⟨p.2.1, by omega⟩) (fun v q => pc_ret ⟨P, ?_⟩)
    exact ⟨fun z => by omega, fun z => by omega, fun z => by omega, fun z => by omega, fun z => by omega, fun _ => q, fun z => by omega, fun z => by omega, fun z => by omega, fun z => by omega, fun z => by omega, fun z => by omega, fun z => by omega⟩
  refine pc_ite (fun c => ?_) (fun d6 => ?_)
  · refine pc_calp (t_loopsRound hn h20 ⟨p.2.1, by omega⟩) (fun v q => pc_ret ⟨P, ?_⟩)
    exact ⟨fun z => by omega, fun z => by omega, fun z => by omega, fun z => by omega, fun z => by omega, fun z => by omega, fun _ => q, fun z => by omega, fun z => by omega, fun z => by omega, fun z => by omega, fun z => by omega, fun z => by omega⟩
  refine pc_ite (fun c => ?_) (fun d7 => ?_)
  · refine pc_calp (t_isInB p.2.1 (by omega)) (fun v q => ?_)
    refine pc_ite (fun c9 => pc_ret ⟨P, ?_⟩) (fun c9 => pc_ret ⟨P, ?_⟩)
    · exact ⟨fun z => by omega, fun z => by omega, fun z => by omega, fun z => by omega, fun z => by omega, fun z => by omega, fun z => by omega, fun _ => Or.inr ⟨k_0, q.mp c9⟩, fun z => by omega, fun z => by omega, fun z => by omega, fun z => by omega, fun z => by omega⟩
    · exact ⟨fun z => by omega, fun z => by omega, fun z => by omega, fun z => by omega, fun z => by omega, fun z => by omega, fun z => by omega, fun _ => Or.inl ⟨k_1, Classical.byContradiction fun z => c9 (q.mpr z)⟩, fun z => by omega, fun z => by omega, fun z => by omega, fun z => by omega, fun z => by omega⟩
  refine pc_ite (fun c => ?_) (fun d8 => ?_)
  · refine pc_calp (t_isInB p.2.1 (by omega)) (fun v q => ?_)
    refine pc_ite (fun c9 => pc_ret ⟨P, ?_⟩) (fun c9 => pc_ret ⟨P, ?_⟩)
    · exact ⟨fun z => by omega, fun z => by omega, fun z => by omega, fun z => by omega, fun z => by omega, fun z => by omega, fun z => by omega, fun z => by omega, fun _ => Or.inr ⟨k_0, q.mp c9⟩, fun z => by omega, fun z => by omega, fun z => by omega, fun z => by omega⟩
    · exact ⟨fun z => by omega, fun z => by omega, fun z => by omega, fun z => by omega, fun z => by omega, fun z => by omega, fun z => by omega, fun z => by omega, fun _ => Or.inl ⟨k_1, Classical.byContradiction fun z => c9 (q.mpr z)⟩, fun z => by omega, fun z => by omega, fun z => by omega, fun z => by omega⟩
  refine pc_ite (fun c => ?_) (fun d9 => ?_)
  · refine pc_ix (fun _ => ?_)
    rw [ca1]
    refine pc_lt fun v18 e18 => ?_
    refine pc_ix (fun _ => pc_lt fun v19 e19 => pc_ret ⟨P, ?_⟩)
    rw [e18, e19]
    exact ⟨fun z => by omega, fun z => by omega, fun z => by omega, fun z => by omega, fun z => by omega, fun z => by omega, fun z => by omega, fun z => by omega, fun z => by omega, fun _ => rfl, fun z => by omega, fun z => by omega, fun z => by omega⟩
  refine pc_ite (fun c => ?_) (fun d10 => ?_)
  · refine pc_ix (fun _ => pc_lt fun v e => pc_ret ⟨P, ?_⟩)
    rw [e]
    exact ⟨fun z => by omega, fun z => by omega, fun z => by omega, fun z => by omega, fun z => by omega, fun z => by omega, fun z => by omega, fun z => by omega, fun z => by omega, fun z => by omega, fun _ => rfl, fun z => by omega, fun z => by omega⟩
  refine pc_ite (fun c => ?_) (fun d11 => ?_)
  · refine pc_ix (fun _ => pc_lt fun v e => pc_ret ⟨P, ?_⟩)
    rw [e]
    exact ⟨fun z => by omega, fun z => by omega, fun z => by omega, fun z => by omega, fun z => by omega, fun z => by omega, fun z => by omega, fun z => by omega, fun z => by omega, fun z => by omega, fun z => by omega, fun _ => rfl, fun z => by omega⟩
  · refine pc_ix (fun _ => pc_lt fun v e => pc_ret ⟨P, ?_⟩)
    rw [e]
    exact ⟨fun z => by omega, fun z => by omega, fun z => by omega, fun z => by omega, fun z => by omega, fun z => by omega, fun z => by omega, fun z => by omega, fun z => by omega, fun z => by omega, fun z => by omega, fun z => by omega, fun _ => rfl⟩
theorem t_blkM {a b : Int32} {s : Sto} {V : EVt} {J Bk : Nat → Bool} {n : Nat} (hB : BM s) (hn : n ≤ 40) (h26 : (s.1 26 0).toInt = (n : Int)) (hL : ∀ b, b < n → ∀ i, bL (s.2 1 b) i = true → i < n) (g1 : (s.1 32 0).toInt = (V.1 : Int)) (g2 : ∀ e, e < V.1 → (s.1 28 e).toInt = (gB V e : Int)) (g3 : ∀ e, e < V.1 → (V.2.2.2 e = false ↔ (s.1 29 e).toInt = 0)) (g4 : ∀ e, e < V.1 → (J e = false ↔ (s.1 30 e).toInt = 0)) (g5 : ∀ e, e < V.1 → (Bk e = false ↔ (s.1 31 e).toInt = 0)) (g6 : ∀ e, e < V.1 → V.2.2.2 e = true → J e = false) : PC (f_X12_block a b s) (fun r => ((r.2.1 0 0).toInt = 1 ∧ ¬ ((s.1 21 0).toInt ≠ 0 ∧ (0 ≤ a.toInt ∧ a.toInt < (n : Int)) ∧ 0 ≤ b.toInt ∧ b.toInt ≤ 12)) ∨ ((r.2.1 0 0).toInt = 0 ∧ ((s.1 21 0).toInt ≠ 0 ∧ (0 ≤ a.toInt ∧ a.toInt < (n : Int)) ∧ 0 ≤ b.toInt ∧ b.toInt ≤ 12) ∧ BLV (s.1 22 a.toNatClampNeg).toInt (s.1 23 a.toNatClampNeg).toInt (s.1 20 (s.1 22 a.toNatClampNeg).toNatClampNeg).toInt (s.1 33 a.toNatClampNeg).toInt (s.1 34 a.toNatClampNeg).toInt (innP (s.2 1) a.toNatClampNeg n) (fb_ct (fun y => bL (s.2 1 y) a.toNatClampNeg) n : Int) (MGP V J Bk a.toNatClampNeg) (s.2 1 a.toNatClampNeg ≠ 0) (((s.1 45 (a.toNatClampNeg + 1)) - (s.1 45 a.toNatClampNeg)).toInt) (s.1 55 a.toNatClampNeg).toInt (s.1 56 a.toNatClampNeg).toInt (s.1 25 a.toNatClampNeg).toInt b.toInt r.1.toInt)) := by
  have k_0 : (0 : Int32).toInt = 0 := by decide +kernel
  have k_1 : (1 : Int32).toInt = 1 := by decide +kernel
  have k12 : (12 : Int64).toInt = 12 := by decide +kernel
  unfold f_X12_block
  refine pc_calp (t_isBlockM hB) (fun v1 q1 => ?_)
  rw [h26] at q1
  refine pc_jnI1 (fun t => (t.toInt = 1 ∧ ¬ ((s.1 21 0).toInt ≠ 0 ∧ (0 ≤ a.toInt ∧ a.toInt < (n : Int)) ∧ 0 ≤ b.toInt ∧ b.toInt ≤ 12)) ∨ (t.toInt = 0 ∧ ((s.1 21 0).toInt ≠ 0 ∧ (0 ≤ a.toInt ∧ a.toInt < (n : Int)) ∧ 0 ≤ b.toInt ∧ b.toInt ≤ 12))) (fun t ht => ?_) (fun k hk => ?_)
  · refine pc_lt fun s3 e3 => ?_
    have q0 : s3.1 0 0 = t := by rw [e3, sti_s]
    have fr : ∀ {k : Nat}, k ≠ 0 → s3.1 k = s.1 k := fun {k} hk => by rw [e3]; exact sti_o hk
    have l1 : s3.2 = s.2 := by rw [e3]; rfl
    refine pc_ite (fun c1 => ?_) (fun c1 => ?_)
    · rw [fa_le, k_0, q0] at c1
      have P : (s.1 21 0).toInt ≠ 0 ∧ (0 ≤ a.toInt ∧ a.toInt < (n : Int)) ∧ 0 ≤ b.toInt ∧ b.toInt ≤ 12 := by
        rcases ht with z | z
        · omega
        · exact z.2
      have t0 : (s3.1 0 0).toInt = 0 := by
        rw [q0]
        rcases ht with z | z
        · omega
        · exact z.1
      obtain ⟨_, p, b0, b12⟩ := id P
      have ea : (a + 1).toInt = a.toInt + 1 := i1 (by omega)
      have ca1 : (a + 1).toNatClampNeg = a.toNatClampNeg + 1 := by
        have := clamp_I (x := a + 1) (by omega)
        have := clamp_I p.1
        omega
      unfold BLV
      refine pc_ite (fun c => ?_) (fun d0 => ?_)
      · refine pc_ix (fun _ => pc_lt fun v e => pc_ret (Or.inr ⟨t0, P, ?_⟩))
        rw [fr (by decide)] at e
        rw [e]
        exact ⟨fun _ => rfl, fun z => by omega, fun z => by omega, fun z => by omega, fun z => by omega, fun z => by omega, fun z => by omega, fun z => by omega, fun z => by omega, fun z => by omega, fun z => by omega, fun z => by omega, fun z => by omega⟩
      refine pc_ite (fun c => ?_) (fun d1 => ?_)
      · refine pc_ix (fun _ => pc_lt fun v e => pc_ret (Or.inr ⟨t0, P, ?_⟩))
        rw [fr (by decide)] at e
        rw [e]
        exact ⟨fun z => by omega, fun _ => rfl, fun z => by omega, fun z => by omega, fun z => by omega, fun z => by omega, fun z => by omega, fun z => by omega, fun z => by omega, fun z => by omega, fun z => by omega, fun z => by omega, fun z => by omega⟩
      refine pc_ite (fun c => ?_) (fun d2 => ?_)
      · refine pc_ix (fun _ => pc_lt fun v8 e8 => ?_)
        rw [fr (by decide)] at e8
        subst e8
        refine pc_ix (fun _ => pc_lt fun v e => pc_ret (Or.inr ⟨t0, P, ?_⟩))
        rw [fr (by decide)] at e
        rw [e]
        exact ⟨fun z => by omega, fun z => by omega, fun _ => rfl, fun z => by omega, fun z => by omega, fun z => by omega, fun z => by omega, fun z => by omega, fun z => by omega, fun z => by omega, fun z => by omega, fun z => by omega, fun z => by omega⟩
      refine pc_ite (fun c => ?_) (fun d3 => ?_)
      · refine pc_ix (fun _ => pc_lt fun v e => pc_ret (Or.inr ⟨t0, P, ?_⟩))
        rw [fr (by decide)] at e
        rw [e]
        exact ⟨fun z => by omega, fun z => by omega, fun z => by omega, fun _ => rfl, fun z => by omega, fun z => by omega, fun z => by omega, fun z => by omega, fun z => by omega, fun z => by omega, fun z => by omega, fun z => by omega, fun z => by omega⟩
      refine pc_ite (fun c => ?_) (fun d4 => ?_)
      · refine pc_ix (fun _ => pc_lt fun v e => pc_ret (Or.inr ⟨t0, P, ?_⟩))
        rw [fr (by decide)] at e
        rw [e]
        exact ⟨fun z => by omega, fun z => by omega, fun z => by omega, fun z => by omega, fun _ => rfl, fun z => by omega, fun z => by omega, fun z => by omega, fun z => by omega, fun z => by omega, fun z => by omega, fun z => by omega, fun z => by omega⟩
      refine pc_ite (fun c => ?_) (fun d5 => ?_)
      · refine pc_calp (m_innermost (s := s3) hn (by rw [fr (by decide)]; exact h26) ⟨p.1, by omega⟩ (by rw [l1]; exact hL)) (fun v q => pc_ret (Or.inr ⟨t0, P, ?_⟩))
        rw [l1] at q
        exact ⟨fun z => by omega, fun z => by omega, fun z => by omega, fun z => by omega, fun z => by omega, fun _ => q, fun z => by omega, fun z => by omega, fun z => by omega, fun z => by omega, fun z => by omega, fun z => by omega, fun z => by omega⟩
      refine pc_ite (fun c => ?_) (fun d6 => ?_)
      · refine pc_calp (m_loopsOf (s := s3) hn (by rw [fr (by decide)]; exact h26) ⟨p.1, by omega⟩) (fun v q => pc_ret (Or.inr ⟨t0, P, ?_⟩))
        rw [l1] at q
        exact ⟨fun z => by omega, fun z => by omega, fun z => by omega, fun z => by omega, fun z => by omega, fun z => by omega, fun _ => q, fun z => by omega, fun z => by omega, fun z => by omega, fun z => by omega, fun z => by omega, fun z => by omega⟩
      refine pc_ite (fun c => ?_) (fun d7 => ?_)
      · refine pc_calp (m_isMerge (σ := s3) (V := V) (J := J) (Bk := Bk) (by rw [fr (by decide)]; exact g1) (by rw [fr (by decide)]; exact g2) (by rw [fr (by decide)]; exact g3) (by rw [fr (by decide)]; exact g4) (by rw [fr (by decide)]; exact g5) g6 p.1) (fun v q => ?_)
        refine pc_ite (fun c9 => pc_ret (Or.inr ⟨t0, P, ?_⟩)) (fun c9 => pc_ret (Or.inr ⟨t0, P, ?_⟩))
        · exact ⟨fun z => by omega, fun z => by omega, fun z => by omega, fun z => by omega, fun z => by omega, fun z => by omega, fun z => by omega, fun _ => Or.inr ⟨k_0, fun z => q.2.mpr z c9⟩, fun z => by omega, fun z => by omega, fun z => by omega, fun z => by omega, fun z => by omega⟩
        · exact ⟨fun z => by omega, fun z => by omega, fun z => by omega, fun z => by omega, fun z => by omega, fun z => by omega, fun z => by omega, fun _ => Or.inl ⟨k_1, q.2.mp c9⟩, fun z => by omega, fun z => by omega, fun z => by omega, fun z => by omega, fun z => by omega⟩
      refine pc_ite (fun c => ?_) (fun d8 => ?_)
      · refine pc_ix (fun _ => pc_lt fun v e => ?_)
        rw [l1] at e
        refine pc_ite (fun c9 => pc_ret (Or.inr ⟨t0, P, ?_⟩)) (fun c9 => pc_ret (Or.inr ⟨t0, P, ?_⟩))
        · rw [lg_cmp_eq, e] at c9
          exact ⟨fun z => by omega, fun z => by omega, fun z => by omega, fun z => by omega, fun z => by omega, fun z => by omega, fun z => by omega, fun z => by omega, fun _ => Or.inr ⟨k_0, fun z => z c9⟩, fun z => by omega, fun z => by omega, fun z => by omega, fun z => by omega⟩
        · rw [lg_cmp_eq, e] at c9
          exact ⟨fun z => by omega, fun z => by omega, fun z => by omega, fun z => by omega, fun z => by omega, fun z => by omega, fun z => by omega, fun z => by omega, fun _ => Or.inl ⟨k_1, c9⟩, fun z => by omega, fun z => by omega, fun z => by omega, fun z => by omega⟩
      refine pc_ite (fun c => ?_) (fun d9 => ?_)
      · refine pc_ix (fun _ => ?_)
        rw [ca1]
        refine pc_lt fun v18 e18 => ?_
        refine pc_ix (fun _ => pc_lt fun v19 e19 => pc_ret (Or.inr ⟨t0, P, ?_⟩))
        rw [fr (by decide)] at e18 e19
        rw [e18, e19]
        exact ⟨fun z => by omega, fun z => by omega, fun z => by omega, fun z => by omega, fun z => by omega, fun z => by omega, fun z => by omega, fun z => by omega, fun z => by omega, fun _ => rfl, fun z => by omega, fun z => by omega, fun z => by omega⟩
      refine pc_ite (fun c => ?_) (fun d10 => ?_)
      · refine pc_ix (fun _ => pc_lt fun v e => pc_ret (Or.inr ⟨t0, P, ?_⟩))
        rw [fr (by decide)] at e
        rw [e]
        exact ⟨fun z => by omega, fun z => by omega, fun z => by omega, fun z => by omega, fun z => by omega, fun z => by omega, fun z => by omega, fun z => by omega, fun z => by omega, fun z => by omega, fun _ => rfl, fun z => by omega, fun z => by omega⟩
      refine pc_ite (fun c => ?_) (fun d11 => ?_)
      · refine pc_ix (fun _ => pc_lt fun v e => pc_ret (Or.inr ⟨t0, P, ?_⟩))
        rw [fr (by decide)] at e
        rw [e]
        exact ⟨fun z => by omega, fun z => by omega, fun z => by omega, fun z => by omega, fun z => by omega, fun z => by omega, fun z => by omega, fun z => by omega, fun z => by omega, fun z => by omega, fun z => by omega, fun _ => rfl, fun z => by omega⟩
      · refine pc_ix (fun _ => pc_lt fun v e => pc_ret (Or.inr ⟨t0, P, ?_⟩))
        rw [fr (by decide)] at e
        rw [e]
        exact ⟨fun z => by omega, fun z => by omega, fun z => by omega, fun z => by omega, fun z => by omega, fun z => by omega, fun z => by omega, fun z => by omega, fun z => by omega, fun z => by omega, fun z => by omega, fun z => by omega, fun _ => rfl⟩
    · rw [fa_le, k_0, q0] at c1
      refine pc_ret (Or.inl ?_)
      rcases ht with z | z
      · exact ⟨by rw [q0]; exact z.1, z.2⟩
      · omega
  · refine pc_jnI0 (¬ ((s.1 21 0).toInt ≠ 0 ∧ (0 ≤ a.toInt ∧ a.toInt < (n : Int)) ∧ 0 ≤ b.toInt ∧ b.toInt ≤ 12)) (fun z => hk 1 (Or.inl ⟨k_1, z⟩)) (fun k25 hk25 => ?_)
    refine pc_ite (fun c => hk25 (fun z => ?_)) (fun c => ?_)
    · rw [fa_eq, k_0] at c
      exact q1.mpr ⟨z.1, z.2.1⟩ c
    rw [fa_eq, k_0] at c
    have p := q1.mp c
    refine pc_calp (pc_ok s_isIn) (fun v25 r => ?_)
    rw [Int32.toInt_toInt64, i64_0, k12] at r
    refine pc_ite (fun c2 => hk25 (fun z => ?_)) (fun c2 => ?_)
    · rw [fa_eq, k_0] at c2
      exact r.2.mpr z.2.2 c2
    · rw [fa_eq, k_0] at c2
      exact hk 0 (Or.inr ⟨k_0, p.1, p.2, r.2.mp c2⟩)
theorem BLV.cg {fi la dp oo ab rn ns l1 l2 ca fi' la' dp' oo' ab' rn' ns' l1' l2' ca' b v : Int} {inn inn' : Option Nat} {mg hd : Prop} (h : BLV fi la dp oo ab inn rn mg hd ns l1 l2 ca b v) (e1 : fi = fi') (e2 : la = la') (e3 : dp = dp') (e4 : oo = oo') (e5 : ab = ab') (e6 : inn = inn') (e7 : rn = rn') (e8 : ns = ns') (e9 : l1 = l1') (e10 : l2 = l2') (e11 : ca = ca') : BLV fi' la' dp' oo' ab' inn' rn' mg hd ns' l1' l2' ca' b v := by
  rw [← e1, ← e2, ← e3, ← e4, ← e5, ← e6, ← e7, ← e8, ← e9, ← e10, ← e11]
  exact h
theorem innP_cg {L M : Nat → Int64} {x n : Nat} (h : ∀ b, b < n → ∀ i, bL (L b) i = bL (M b) i) : ∀ k, k ≤ n → innP L x k = innP M x k
  | 0, _ => rfl
  | k + 1, hk => by
    have ih := innP_cg (x := x) h k (by omega)
    have lt := fun c => innP_lt (L := M) (x := x) k c
    by_cases g : bL (M k) x = true
    · have g' : bL (L k) x = true := by rw [h k (by omega)]; exact g
      cases c : innP M x k with
      | none => rw [innP_n g c, innP_n g' (by rw [ih]; exact c)]
      | some d =>
        have dk := lt d c
        have f1 : bL (L d) = bL (M d) := funext (h d (by omega))
        have f2 : bL (L k) = bL (M k) := funext (h k (by omega))
        rw [innP_s g c, innP_s g' (by rw [ih]; exact c), f1, f2]
    · rw [innP_f g, innP_f (by rw [h k (by omega)]; exact g), ih]
theorem t_blkM0 {a b : Int32} {s : Sto} (hB : BM s) (hl : (s.1 21 0).toInt = 0) : PC (f_X12_block a b s) (fun r => (r.2.1 0 0).toInt = 1) := by
  have k_0 : (0 : Int32).toInt = 0 := by decide +kernel
  have k_1 : (1 : Int32).toInt = 1 := by decide +kernel
  unfold f_X12_block
  refine pc_calp (t_isBlockM hB) (fun v1 q1 => ?_)
  have v0 : v1.toInt = 0 := Classical.byContradiction fun z => (q1.mp z).1 hl
  refine pc_jnI1 (fun t => t.toInt = 1) (fun t ht => ?_) (fun k hk => ?_)
  · refine pc_lt fun s3 e3 => ?_
    have q0 : s3.1 0 0 = t := by rw [e3, sti_s]
    refine pc_ite (fun c1 => ?_) (fun c1 => pc_ret (by (try dsimp only); rw [q0]; exact ht))
    rw [fa_le, k_0, q0] at c1
    omega
  · refine pc_jnI0 True (fun _ => hk 1 k_1) (fun k25 hk25 => ?_)
    refine pc_ite (fun _ => hk25 trivial) (fun c => ?_)
    rw [fa_eq, k_0] at c
    exact absurd v0 c
/-- both sides: they throw alike, and answer alike -/
theorem R_block {σ s : Sto} (h : JT4 σ s) (a b : Int32) : ∃ w s2, f_X12_block a b s = some (w, s2) ∧ JT4 σ s2 ∧ ((XBL a b σ ∧ (s2.1 0 0).toInt = 0 ∧ f_X11_block a b σ = some w) ∨ (¬ XBL a b σ ∧ (s2.1 0 0).toInt = 1)) := by
  have k_0 : (0 : Int32).toInt = 0 := by decide +kernel
  have k_12 : (12 : Int32).toInt = 12 := by decide +kernel
  obtain ⟨w, s2, y, z⟩ := Q_block h a b
  refine ⟨w, s2, y, z, ?_⟩
  have B := h.1.1.2.1.1
  have g20 := gX_20 h.1.1.1.1 0
  obtain ⟨iv, ib, _⟩ := s_X11_isBlock (x1 := a) h.1.1.1.1
  have iq : iv.toInt ≠ 0 ↔ ((σ.1 0 0).toInt ≠ 0 ∧ 0 ≤ a.toInt ∧ a.toInt < (σ.1 20 0).toInt) := t_isBlockX (x := a) _ ib
  have hx : XBL a b σ ↔ ((σ.1 0 0).toInt ≠ 0 ∧ (0 ≤ a.toInt ∧ a.toInt < (σ.1 20 0).toInt) ∧ 0 ≤ b.toInt ∧ b.toInt ≤ 12) := by
    unfold XBL
    rw [ib, fa_lt, fa_le, k_0, k_12]
    have e : (some iv ≠ some (0 : Int32)) ↔ iv.toInt ≠ 0 := by
      constructor
      · exact fun q r => q (congrArg some (Int32.toInt_inj.mp (by rw [r, k_0])))
      · exact fun q r => q (by rw [Option.some.inj r]; exact k_0)
    rw [e, iq]
    omega
  rcases h.1.2 with ⟨l1, l2⟩ | ⟨l1, l2, l3, l4, l5, l6, l7, l8⟩
  · exact Or.inr ⟨fun c => (hx.mp c).1 l1, t_blkM0 B l2 _ y⟩
  have hl := l1
  obtain ⟨A, L, D, K, hl2⟩ := h.laid hl
  obtain ⟨_, Q, KM, E⟩ := D.p
  obtain ⟨n, q2, q3, q4⟩ := h.eqe hl
  have nB' := nB_le B
  have h20 : (σ.1 20 0).toInt = (nB s : Int) := by omega
  obtain ⟨S1, S2, S3, S4, X, R⟩ := h.shape hl
  obtain ⟨T1, T2, T3, T4, T5, T6, T7⟩ := h.tree hl
  obtain ⟨lp1, lp2⟩ := h.loops hl
  obtain ⟨lv1, lv2⟩ := h.live hl
  obtain ⟨At, u1, u2, _, _⟩ := h.sts hl
  obtain ⟨_, _, _, _, _, _, x56, _⟩ := u1
  obtain ⟨_, _, _, _, _, _, y45, _⟩ := u2
  have g32 := gM_32 B 0
  have he2 : ∀ {e : Nat}, e < (EVx σ).1 → e < nE s := fun {e} he => by rw [q4.1] at he; exact he
  have M := t_blkM (a := a) (b := b) (s := s) (V := EVx σ) (J := Jx σ) (Bk := fun e => decide ((σ.1 38 e).toInt ≠ 0)) (n := nB s) B nB'.1 nB'.2.symm (fun c hc i hi => T7 c hc i ((lp1 c hc i).mpr hi)) (by rw [q4.1]; exact (Int.toNat_of_nonneg g32.1).symm) (fun e he => by
    have b0 := (E.1 e (he2 he)).2.1.1
    show (s.1 28 e).toInt = (((EVx σ).2.2.1 e).toNat : Int)
    rw [(q4.2 e he).2.1]
    exact (Int.toNat_of_nonneg b0).symm) (fun e he => by
    rw [(q4.2 e he).2.2]
    show decide ((s.1 29 e).toInt ≠ 0) = false ↔ _
    rw [decide_eq_false_iff_not]
    exact ⟨fun z => Classical.byContradiction z, fun z y => y z⟩) (fun e he => by rw [S2 e (he2 he)]; exact Jm_f) (fun e he => by
    show decide ((σ.1 38 e).toInt ≠ 0) = false ↔ _
    rw [decide_eq_false_iff_not]
    constructor
    · exact fun z => Classical.byContradiction fun w => z ((S3 e (he2 he)).mpr w)
    · exact fun z w => (S3 e (he2 he)).mp w z) (fun e he ht => X.1.th he ht) _ y
  (try dsimp only at M)
  rcases M with ⟨m1, m2⟩ | ⟨m1, m2, m3⟩
  · refine Or.inr ⟨fun c => m2 ?_, m1⟩
    have c' := hx.mp c
    rw [h20] at c'
    exact ⟨l2, c'.2⟩
  left
  have XB : XBL a b σ := hx.mpr ⟨l1, by rw [h20]; exact m2.2.1, m2.2.2⟩
  refine ⟨XB, m1, ?_⟩
  obtain ⟨v, xv, _⟩ := s_X11_block (a := a) (b := b) h.1.1.1.1 XB
  have Kx := (t_blkX (a := a) (b := b) nB'.1 h20 v xv).2
  rw [xv]
  refine congrArg some (Int32.toInt_inj.mp ?_)
  obtain ⟨_, ⟨a0, a1⟩, b0, b12⟩ := m2
  have ca := clamp_I a0
  have hb : a.toNatClampNeg < nB s := by omega
  obtain ⟨c1, c2, c3, c4, c5, _⟩ := KM.at_ B Q hb
  have f21 : σ.1 21 a.toNatClampNeg = s.1 22 a.toNatClampNeg := Int32.toInt_inj.mp (q2 _ hb).1
  have lpe : ∀ c, c < nB s → ∀ i, bL (σ.2 3 c) i = bL (s.2 1 c) i := fun c hc i => by
    have q := lp1 c hc i
    cases r : bL (s.2 1 c) i with
    | true => exact q.mpr r
    | false =>
      refine Bool.eq_false_iff.mpr fun r2 => ?_
      rw [q.mp r2] at r
      exact absurd r (by decide)
  have iN : (s.1 22 a.toNatClampNeg).toNatClampNeg = fiR s a.toNatClampNeg := by
    have := clamp_I (x := s.1 22 a.toNatClampNeg) (by omega)
    omega
  refine (Kx.cg (congrArg Int32.toInt f21) (q2 _ hb).2.1 ?_ (T1 _ hb).1 (congrArg Int32.toInt (T1 _ hb).2) (innP_cg lpe _ (Nat.le_refl _)) ?_ ?_ (congrArg Int32.toInt (lv1 _ hb).1) (congrArg Int32.toInt (lv1 _ hb).2) (q2 _ hb).2.2).uq m3 (T3 _) (lp2 _ hb) b0 b12
  · rw [f21, iN]
    have d : mk (nC s) (σ.1 8) = dP s := l7
    have hi : fiR s a.toNatClampNeg < nC s := Nat.lt_of_le_of_lt c3 c4
    have hi2 : fiR s a.toNatClampNeg < (s.1 15 0).toInt.toNat := hi
    have d1 := congrFun d (fiR s a.toNatClampNeg)
    unfold mk at d1
    rw [if_pos hi] at d1
    rw [d1]
    unfold dP mk
    rw [if_pos hi]
  · exact congrArg (fun k : Nat => (k : Int)) (fb_ct_cong (fun k hk => lpe k hk _))
  · have e1 : σ.1 56 (a.toNatClampNeg + 1) = s.1 45 (a.toNatClampNeg + 1) := Int32.toInt_inj.mp (by rw [x56 _ (by omega), y45 _ (by omega)])
    have e2 : σ.1 56 a.toNatClampNeg = s.1 45 a.toNatClampNeg := Int32.toInt_inj.mp (by rw [x56 _ (by omega), y45 _ (by omega)])
    rw [e1, e2]
