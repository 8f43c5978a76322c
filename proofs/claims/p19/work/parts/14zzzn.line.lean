/-- statements of a block, how many -/
def NNb (A : Nat → PSt) (b : Nat) : Nat := pNn (A (b + 1)) - pNn (A b)
/-- T that stand behind so many statements of a block -/
def VTn (s : Sto) (A : Nat → PSt) (b i k : Nat) : Prop := k < DEP s b ∨ ∃ j, pNn (A b) ≤ j ∧ j < pNn (A b) + i ∧ (pSm (A (nB s)) j).1 = 1 ∧ (pSm (A (nB s)) j).2.1 = (k : Int)
def VXn (s : Sto) (A : Nat → PSt) (b i x : Nat) : Prop := ∃ j, pNn (A b) ≤ j ∧ j < pNn (A b) + i ∧ (pSm (A (nB s)) j).1 = 2 ∧ (pSm (A (nB s)) j).2.1 = (x : Int)
/-- names that stand are alike in both -/
def ENVn (VT VX : Nat → Prop) (c m : Sto) : Prop := (∀ k, VT k → c.1 79 k = m.1 82 k) ∧ ∀ x, VX x → c.1 80 x = m.1 83 x
theorem ENVn.cg {VT VX : Nat → Prop} {c m d w : Sto} (h : ENVn VT VX c m) (e79 : d.1 79 = c.1 79) (e80 : d.1 80 = c.1 80) (e82 : w.1 82 = m.1 82) (e83 : w.1 83 = m.1 83) : ENVn VT VX d w := by
  unfold ENVn
  rw [e79, e80, e82, e83]
  exact h
theorem ENVn.wk {VT VX VT2 VX2 : Nat → Prop} {c m : Sto} (h : ENVn VT VX c m) (h1 : ∀ k, VT2 k → VT k) (h2 : ∀ x, VX2 x → VX x) : ENVn VT2 VX2 c m := ⟨fun k z => h.1 k (h1 k z), fun x z => h.2 x (h2 x z)⟩
/-- a block's statements stand there, and what stands behind them -/
def BQL (s : Sto) (A : Nat → PSt) (b q : Nat) : Prop := (∀ i, i < NNb A b → q + i < nL s ∧ lnA s (q + i) = (0, (b : Int), sB s b + i)) ∧ (((s.1 25 b).toInt = -1 ∧ TAIL s b (q + NNb A b)) ∨ ((s.1 25 b).toInt ≠ -1 ∧ q + NNb A b < nL s ∧ kA s (q + NNb A b) = 10 ∧ TAIL s b (q + NNb A b + 1)))
/-- where one is among the lines, with what stands -/
def LMD (s : Sto) (A : Nat → PSt) (c m : Sto) (x : Nat) : Prop := (∃ cc : Nat, cc < nB s ∧ TOC s (cc : Int) x ∧ ENVn (fun k => k < DEP s cc) (fun _ => False) c m) ∨ (∃ b : Nat, b < nB s ∧ kA s x = 9 ∧ BQL s A b (x + 1) ∧ ENVn (VTn s A b 0) (VXn s A b 0) c m) ∨ (∃ b q i : Nat, b < nB s ∧ BQL s A b q ∧ i ≤ NNb A b ∧ x = q + i ∧ (i = NNb A b → (s.1 25 b).toInt ≠ -1 ∧ ¬ enI (sG s (laR s b))) ∧ ENVn (VTn s A b i) (VXn s A b i) c m) ∨ (∃ b : Nat, b < nB s ∧ FORK s b ∧ LWj s 3 (b : Int) x ∧ TOC s (fallT s b) (x + 1) ∧ (∃ j, OTHj s (b : Int) j ∧ TOC s (jmpT s b) (j + 1)) ∧ ENVn (VTn s A b (NNb A b)) (VXn s A b (NNb A b)) c m)
/-- all that stands while lines are run -/
def LSU (σ s : Sto) (A : Nat → PSt) : Prop := (LAID s ∧ RUNL s ∧ FLW s ∧ UQL s ∧ LKQ σ s) ∧ ((σ.1 68 0).toInt = (s.1 62 0).toInt ∧ ∀ i, i < nL s → (σ.1 69 i).toInt = kA s i ∧ (σ.1 70 i).toInt = mA s i ∧ (kA s i = 0 → (σ.1 72 i).toInt = oA s i)) ∧ (LFTX (nB s) A σ ∧ LFTM (nB s) A s ∧ NMA s A) ∧ ((∀ b, b < nB s → DSU s b) ∧ (∀ b, b < nB s → (σ.1 26 b).toInt = (s.1 25 b).toInt) ∧ (∀ e, e < nE s → ((σ.1 38 e).toInt ≠ 0 ↔ (s.1 31 e).toInt ≠ 0)) ∧ ∀ (x y : Int32) (e : Nat), e < nE s → eF s e = x.toInt → eT s e = y.toInt → 0 ≤ x.toInt → PC (f_X0_edgeTo x y σ) (fun v => v.toInt = (e : Int)))
section
variable {σ s c m : Sto} {A : Nat → PSt}
theorem LSU.sB_ (P : LSU σ s A) {b : Nat} (hb : b ≤ nB s) : sB s b = (pNn (A b) : Int) := by
  obtain ⟨_, _, ⟨_, ⟨n, tr, _, _, _, _, q5, _⟩, _⟩, _⟩ := P
  exact q5 b hb
theorem LSU.nn_ (P : LSU σ s A) {b : Nat} (hb : b < nB s) : (sB s (b + 1) - sB s b).toNat = NNb A b ∧ pNn (A b) + NNb A b = pNn (A (b + 1)) := by
  have h1 := P.sB_ (b := b) (by omega)
  have h2 := P.sB_ (b := b + 1) (by omega)
  have h3_ := (P.2.2.1.2.2.1 b hb).1
  unfold NNb
  omega
/-- behind a block's end the next one's T stand -/
theorem LSU.nxt (P : LSU σ s A) {b cc : Nat} (hb : b < nB s) (ne : ¬ enI (sG s (laR s b))) (hd : (DEP s cc : Int) = DEE s b) (E : ENVn (VTn s A b (NNb A b)) (VXn s A b (NNb A b)) c m) : ENVn (fun k => k < DEP s cc) (fun _ => False) c m := by
  obtain ⟨n1, n2, n3, n4, n5⟩ := P.2.2.1.2.2.1 b hb
  have nn := (P.nn_ hb).2
  refine E.wk (fun k hk => ?_) (fun x hx => hx.elim)
  rcases n5 ne k (by omega) with z | ⟨j, j1, j2, j3, j4⟩
  · exact Or.inl z
  · exact Or.inr ⟨j, j1, by omega, j3, j4⟩
theorem LSU.tl (P : LSU σ s A) {b x : Nat} (hb : b < nB s) (T : TAIL s b x) (ne : ¬ enI (sG s (laR s b))) (E : ENVn (VTn s A b (NNb A b)) (VXn s A b (NNb A b)) c m) : LMD s A c m x := by
  have D := P.2.2.2.1 b hb
  rcases T with z | ⟨fk, lw, t1, t2⟩ | ⟨nf, g, t⟩ | ⟨nf, g, t⟩
  · exact absurd z ne
  · exact Or.inr (Or.inr (Or.inr ⟨b, hb, fk, lw, t1, t2, E⟩))
  · obtain ⟨cc, c1, c2, c3⟩ := D.2.1 (Or.inl g)
    rw [c2] at t
    exact Or.inl ⟨cc, c1, t, P.nxt hb ne c3 E⟩
  · obtain ⟨cc, c1, c2, c3⟩ := D.1 g
    rw [c2] at t
    exact Or.inl ⟨cc, c1, t, P.nxt hb ne c3 E⟩
theorem LSU.bd (P : LSU σ s A) {b q i : Nat} (hb : b < nB s) (Q : BQL s A b q) (hi : i ≤ NNb A b) (ne : i = NNb A b → ¬ enI (sG s (laR s b))) (E : ENVn (VTn s A b i) (VXn s A b i) c m) : LMD s A c m (q + i) := by
  by_cases z : i = NNb A b
  · by_cases w : (s.1 25 b).toInt = -1
    · rcases Q.2 with ⟨_, t⟩ | ⟨t, _⟩
      · rw [z] at E ⊢
        exact P.tl hb t (ne z) E
      · exact absurd w t
    · exact Or.inr (Or.inr (Or.inl ⟨b, q, i, hb, Q, hi, rfl, fun _ => ⟨w, ne z⟩, E⟩))
  · exact Or.inr (Or.inr (Or.inl ⟨b, q, i, hb, Q, hi, rfl, fun w => absurd w z, E⟩))
/-- a block that ends has a last statement that ends it -/
theorem LSU.en (P : LSU σ s A) {b : Nat} (hb : b < nB s) (en : enI (sG s (laR s b))) : 1 ≤ NNb A b ∧ 5 ≤ (s.1 42 (pNn (A b) + NNb A b - 1)).toInt := by
  have sts : STS s := P.1.1.2.2.2.2.2.2.2.2.2.1
  obtain ⟨u1, u2⟩ := (sts.2.2.2.1 b hb).2.2.2 en
  have h1 := P.sB_ (b := b) (by omega)
  have h2 := P.sB_ (b := b + 1) (by omega)
  have nn := (P.nn_ hb).2
  unfold sB at h1 h2
  refine ⟨by omega, ?_⟩
  rw [show pNn (A b) + NNb A b - 1 = (s.1 45 (b + 1)).toInt.toNat - 1 by omega]
  exact u2
/-- behind a block's name -/
theorem LSU.lb (P : LSU σ s A) {b x : Nat} (hb : b < nB s) (B : BLKP s b x) (E : ENVn (fun k => k < DEP s b) (fun _ => False) c m) : LMD s A c m (x + 1) := by
  obtain ⟨q, q1, q2, q3⟩ := B
  have nn := (P.nn_ hb).1
  rw [nn] at q2 q3
  have Q : BQL s A b q := ⟨q2, q3⟩
  have E0 : ENVn (VTn s A b 0) (VXn s A b 0) c m := E.wk (fun k hk => by
    rcases hk with z | ⟨j, j1, j2, _⟩
    · exact z
    · omega) (fun x hx => by
    obtain ⟨j, j1, j2, _⟩ := hx
    omega)
  rcases q1 with ⟨_, e⟩ | ⟨_, e, e2, e3⟩
  · rw [← e]
    exact P.bd (i := 0) hb Q (Nat.zero_le _) (fun z en => by have := (P.en hb en).1; omega) E0
  · rw [e] at Q
    exact Or.inr (Or.inl ⟨b, hb, e3, Q, E0⟩)
/-- where the class goes on with what is caught -/
def WQn (s : Sto) (b : Nat) (k : Nat) : Prop := ∃ e, e < nE s ∧ eF s e = (b : Int) ∧ eT s e = (s.1 25 b).toInt ∧ (((s.1 31 e).toInt ≠ 0 ∧ LWj s 1 (s.1 25 b).toInt k) ∨ ((s.1 31 e).toInt = 0 ∧ ∃ j, EN s 2 (s.1 25 b).toInt j ∧ k = j + 1))
theorem WY.wq {Q : Int → Nat → Prop} {b : Nat} (h : WY s Q b) : WY s (fun _ k => WQn s b k) b := by
  refine ⟨h.1, fun e e1 e2 e3 => ?_⟩
  rcases h.2 e e1 e2 e3 with ⟨w1, w2, _⟩ | ⟨w1, w2, _⟩
  · exact Or.inl ⟨w1, w2, fun j hj => ⟨e, e1, e2, e3, Or.inl ⟨w1, hj⟩⟩⟩
  · exact Or.inr ⟨w1, w2, fun j hj => ⟨e, e1, e2, e3, Or.inr ⟨w1, j, hj, rfl⟩⟩⟩
theorem LSU.wc (P : LSU σ s A) {d : Sto} {x2 : Int32} {b k : Nat} (hb : b < nB s) (ex : x2.toInt = (b : Int)) (f : FR RXL [] σ d) (h : WQn s b k) : PC (f_X2_whereCaught x2 d) (fun v => v.toInt = (k : Int)) := by
  obtain ⟨⟨L, _, FL, U, K⟩, _, _, ⟨DS, CA, EB, ET⟩⟩ := P
  have hB := L.1
  obtain ⟨e, e1, e2, e3, e4⟩ := h
  have cb : x2.toNatClampNeg = b := by
    show x2.toInt.toNat = b
    omega
  have g31 := EB e e1
  unfold f_X2_whereCaught
  refine pc_ix (fun _ => ?_)
  rw [cb, f.1 26 (by decide)]
  refine pc_lt fun v1 h1 => ?_
  have v1t : v1.toInt = (s.1 25 b).toInt := by rw [h1]; exact CA b hb
  rw [edgeTo_cg (σ := σ) (f.1 27 (by decide)) (f.1 28 (by decide)) (f.1 29 (by decide)) (f.1 30 (by decide))]
  refine pc_calp (ET x2 v1 e e1 (by rw [e2, ex]) (by rw [e3, v1t]) (by omega)) (fun v2 h2 => ?_)
  have v2c : v2.toNatClampNeg = e := by
    show v2.toInt.toNat = e
    omega
  refine pc_ix (fun _ => ?_)
  rw [v2c, f.1 38 (by decide)]
  refine pc_lt fun v3 h3_ => ?_
  have k_0 : (0 : Int32).toInt = 0 := by decide +kernel
  have k_1 : (1 : Int32).toInt = 1 := by decide +kernel
  have nl := nL_le hB
  have g62 := gM_62 hB 0
  refine pc_ite (fun z => ?_) (fun z => ?_)
  · rw [fa_eq, k_0, h3_] at z
    rcases e4 with ⟨w, _⟩ | ⟨w, j, j1, j2⟩
    · exact absurd z (g31.mpr w)
    refine pc_ix (fun i => ?_)
    refine pc_lt fun v5 h5 => pc_ret ?_
    rw [f.1 75 (by decide)] at h5
    have cc : (v1.toNatClampNeg : Int) = (s.1 25 b).toInt := by
      have := clamp_I i.1
      omega
    rw [← cc] at j1
    have q := K.2.2.2.2 _ _ j1
    have jn := j1.1
    rw [i1 (by rw [h5, q]; omega), h5, q]
    omega
  · rw [fa_eq, k_0, h3_] at z
    rcases e4 with ⟨w, q⟩ | ⟨w, _⟩
    · refine pc_ix (fun i => ?_)
      refine pc_lt fun v6 h6 => pc_ret ?_
      rw [f.1 74 (by decide)] at h6
      have cc : (v1.toNatClampNeg : Int) = (s.1 25 b).toInt := by
        have := clamp_I i.1
        omega
      rw [← cc] at q
      rw [h6]
      exact K.2.2.2.1 _ _ q
    · exact absurd w (g31.mp z)
theorem t_followC {x : Int32} {Q : Int32 × Sto → Prop} (h0 : (c.1 69 x.toNatClampNeg).toInt = 0 → PC (f_X5_perform (c.1 72 x.toNatClampNeg) (c.1 70 x.toNatClampNeg) x c) Q) (h3 : (c.1 69 x.toNatClampNeg).toInt = 3 → PC (f_X5_value 250 (c.1 57 (c.1 70 x.toNatClampNeg).toNatClampNeg) 0 c) (fun r => (r.1 = 0 → Q ((r.2.1 72 x.toNatClampNeg) + 1, r.2)) ∧ (r.1 ≠ 0 → Q (x + 1, r.2)))) (h4 : (c.1 69 x.toNatClampNeg).toInt = 4 → Q ((c.1 72 x.toNatClampNeg) + 1, c)) (h6 : (c.1 69 x.toNatClampNeg).toInt = 6 → 0 ≤ (c.1 70 x.toNatClampNeg).toInt → Q ((c.1 75 (c.1 70 x.toNatClampNeg).toNatClampNeg) + 1, c)) (h7 : (c.1 69 x.toNatClampNeg).toInt = 7 → 0 ≤ (c.1 70 x.toNatClampNeg).toInt → Q (c.1 74 (c.1 70 x.toNatClampNeg).toNatClampNeg, c)) (h8 : (c.1 69 x.toNatClampNeg).toInt = 8 → 0 ≤ (c.1 70 x.toNatClampNeg).toInt → Q (c.1 73 (c.1 70 x.toNatClampNeg).toNatClampNeg, c)) (hn : (c.1 69 x.toNatClampNeg).toInt ≠ 0 → (c.1 69 x.toNatClampNeg).toInt ≠ 3 → (c.1 69 x.toNatClampNeg).toInt ≠ 4 → (c.1 69 x.toNatClampNeg).toInt ≠ 6 → (c.1 69 x.toNatClampNeg).toInt ≠ 7 → (c.1 69 x.toNatClampNeg).toInt ≠ 8 → Q (x + 1, c)) : PC (f_X5_follow x c) Q := by
  unfold f_X5_follow
  refine pc_ix (fun _ => ?_)
  refine pc_lt fun v1 e1 => ?_
  refine pc_ix (fun _ => ?_)
  refine pc_lt fun v2 e2 => ?_
  rw [← e2] at h0 h3 h4 h6 h7 h8 hn
  rw [← e1] at h0 h3 h6 h7 h8
  refine pc_ite (fun z => ?_) (fun z0 => ?_)
  · refine pc_ix (fun _ => ?_)
    refine pc_lt fun v4 e4 => ?_
    rw [← e4] at h0
    exact pc_calv (h0 z) (fun v5 s5 q => pc_ret q)
  refine pc_ite (fun z => ?_) (fun z3 => ?_)
  · refine pc_ix (fun _ => ?_)
    refine pc_lt fun v6 e6 => ?_
    rw [← e6] at h3
    refine pc_calv (h3 z) (fun v7 s7 q => ?_)
    refine pc_ite (fun y => ?_) (fun y => pc_ret (q.2 y))
    refine pc_ix (fun _ => ?_)
    refine pc_lt fun v9 e9 => pc_ret ?_
    rw [e9]
    exact q.1 y
  refine pc_ite (fun z => ?_) (fun z4 => ?_)
  · refine pc_ix (fun _ => ?_)
    refine pc_lt fun v10 e10 => pc_ret ?_
    rw [e10]
    exact h4 z
  refine pc_ite (fun z => ?_) (fun z6 => ?_)
  · refine pc_ix (fun b => ?_)
    refine pc_lt fun v11 e11 => pc_ret ?_
    rw [e11]
    exact h6 z b.1
  refine pc_ite (fun z => ?_) (fun z7 => ?_)
  · refine pc_ix (fun b => ?_)
    refine pc_lt fun v12 e12 => pc_ret ?_
    rw [e12]
    exact h7 z b.1
  refine pc_ite (fun z => ?_) (fun z8 => ?_)
  · refine pc_ix (fun b => ?_)
    refine pc_lt fun v13 e13 => pc_ret ?_
    rw [e13]
    exact h8 z b.1
  · exact pc_ret (hn z0 z3 z4 z6 z7 z8)
theorem m_nextC {x : Int32} {Q : Int32 × Sto → Prop} (h0 : kA m x.toNatClampNeg = 0 → PC (f_X12_states_ (m.1 61 x.toNatClampNeg) x m) Q) (h3 : kA m x.toNatClampNeg = 3 → PC (f_X12_valueOf 250 (m.1 46 (m.1 59 x.toNatClampNeg).toNatClampNeg) m) (fun r => (r.1 = 0 → PC (f_X12_otherwiseOf (m.1 59 x.toNatClampNeg) r.2) (fun v => Q (v, r.2))) ∧ (r.1 ≠ 0 → Q (x + 1, r.2)))) (h4 : kA m x.toNatClampNeg = 4 → PC (f_X12_endOf 3 (m.1 59 x.toNatClampNeg) m) (fun v => Q (v + 1, m))) (h6 : kA m x.toNatClampNeg = 6 → PC (f_X12_endOf 2 (m.1 59 x.toNatClampNeg) m) (fun v => Q (v + 1, m))) (h7 : kA m x.toNatClampNeg = 7 → PC (f_X12_lineWith 1 (m.1 59 x.toNatClampNeg) m) (fun v => Q (v, m))) (h8 : kA m x.toNatClampNeg = 8 → PC (f_X12_lineWith 11 (m.1 59 x.toNatClampNeg) m) (fun v => Q (v, m))) (h11 : kA m x.toNatClampNeg = 11 → PC (f_X12_enters m) (fun t => Q (x + 1, t))) (hn : kA m x.toNatClampNeg ≠ 0 → kA m x.toNatClampNeg ≠ 3 → kA m x.toNatClampNeg ≠ 4 → kA m x.toNatClampNeg ≠ 6 → kA m x.toNatClampNeg ≠ 7 → kA m x.toNatClampNeg ≠ 8 → kA m x.toNatClampNeg ≠ 11 → Q (x + 1, m)) : PC (f_X12_nextLine x m) Q := by
  unfold f_X12_nextLine
  refine pc_ix (fun _ => ?_)
  refine pc_lt fun v1 e1 => ?_
  refine pc_ix (fun _ => ?_)
  refine pc_lt fun v2 e2 => ?_
  unfold kA at h0 h3 h4 h6 h7 h8 h11 hn
  rw [← e2] at h0 h3 h4 h6 h7 h8 h11 hn
  rw [← e1] at h3 h4 h6 h7 h8
  refine pc_ite (fun z => ?_) (fun z0 => ?_)
  · refine pc_ix (fun _ => ?_)
    refine pc_lt fun v4 e4 => ?_
    rw [← e4] at h0
    exact pc_calv (h0 z) (fun v5 s5 q => pc_ret q)
  refine pc_ite (fun z => ?_) (fun z3 => ?_)
  · refine pc_ix (fun _ => ?_)
    refine pc_lt fun v6 e6 => ?_
    rw [← e6] at h3
    refine pc_calv (h3 z) (fun v7 s7 q => ?_)
    refine pc_ite (fun y => ?_) (fun y => pc_ret (q.2 y))
    exact pc_calp (q.1 y) (fun v9 w => pc_ret w)
  refine pc_ite (fun z => ?_) (fun z4 => ?_)
  · exact pc_calp (h4 z) (fun v10 w => pc_ret w)
  refine pc_ite (fun z => ?_) (fun z6 => ?_)
  · exact pc_calp (h6 z) (fun v10 w => pc_ret w)
  refine pc_ite (fun z => ?_) (fun z7 => ?_)
  · exact pc_calp (h7 z) (fun v10 w => pc_ret w)
  refine pc_ite (fun z => ?_) (fun z8 => ?_)
  · exact pc_calp (h8 z) (fun v10 w => pc_ret w)
  refine pc_ite (fun z => ?_) (fun z11 => ?_)
  · exact pc_cals (h11 z) (fun s14 w => pc_ret w)
  · exact pc_ret (hn z0 z3 z4 z6 z7 z8 z11)
end
/-- what one line has done in both -/
abbrev MLX : List Nat := [78, 79, 80, 82, 84, 85, 86, 88, 89, 90, 92]
def RESL (s : Sto) (A : Nat → PSt) (a : Int32) (c m : Sto) (r q : Int32 × Sto) : Prop := FR MLX [] c r.2 ∧ FR RLN [] m q.2 ∧ ∃ R, RXX a R r.2 ∧ RMM R q.2 ∧ ((r.1 = q.1 ∧ 0 ≤ r.1.toInt ∧ LMD s A r.2 q.2 r.1.toNatClampNeg ∧ r.2.1 84 0 = 0 ∧ q.2.1 78 0 = 0 ∧ q.2.1 74 = m.1 74 ∧ r.2.1 86 = c.1 86 ∧ q.2.1 75 = m.1 75) ∨ (r.1 = -1 ∧ q.2.1 74 0 ≠ -1 ∧ r.2.1 86 0 = q.2.1 74 0 ∧ ((r.2.1 86 0 = 1 ∧ r.2.1 85 0 = q.2.1 75 0) ∨ (r.2.1 86 0 ≠ 1 ∧ q.2.1 75 0 = 0))))
theorem line_ls {σ s c m : Sto} {A : Nat → PSt} {a x : Int32} {R : RUS} {n : Nat} {o : Int} (P : LSU σ s A) (fc : FR RXL [] σ c) (fm : FR RLX [] s m) (hB : BM m) (hR : RXX a R c) (hM : RMM R m) (c84 : c.1 84 0 = 0) (m78 : m.1 78 0 = 0) (c86 : c.1 86 0 = 0) (m75 : m.1 75 0 = 0) (x0 : 0 ≤ x.toInt) (g : GO s (n + 1) o x.toNatClampNeg) (k11 : kA s x.toNatClampNeg ≠ 11) (L : LMD s A c m x.toNatClampNeg) : PC (f_X5_follow x c) (fun r => PC (f_X12_nextLine x m) (fun q => BM q.2 → FR RLX [] s q.2 → RESL s A a c m r q)) := by
  have k_0 : (0 : Int32).toInt = 0 := by decide +kernel
  have k_1 : (1 : Int32).toInt = 1 := by decide +kernel
  have k_2 : (2 : Int32).toInt = 2 := by decide +kernel
  have k_3 : (3 : Int32).toInt = 3 := by decide +kernel
  have k_11 : (11 : Int32).toInt = 11 := by decide +kernel
  have P0 := P
  obtain ⟨⟨LD, RU, FL, U, K⟩, ⟨_, AL⟩, ⟨LX, LM, NM⟩, ⟨DS, CA, EB, ET⟩⟩ := P
  have hBs := LD.1
  have nl := nL_le hBs
  have g62 := gM_62 hBs 0
  have cx := clamp_I x0
  have g' : GOb s (GO s n) o x.toNatClampNeg := g
  have xl : x.toNatClampNeg < nL s := g'.1.2
  have ex1 : (x + 1).toInt = x.toInt + 1 := i1 (by omega)
  have nx1 : (x + 1).toNatClampNeg = x.toNatClampNeg + 1 := by have := clamp_I (x := x + 1) (by omega); omega
  obtain ⟨a1, a2, a3⟩ := AL _ xl
  have r69 : (c.1 69 x.toNatClampNeg).toInt = kA s x.toNatClampNeg := by rw [fc.1 69 (by decide)]; exact a1
  have r70 : (c.1 70 x.toNatClampNeg).toInt = mA s x.toNatClampNeg := by rw [fc.1 70 (by decide)]; exact a2
  have km : kA m x.toNatClampNeg = kA s x.toNatClampNeg := by unfold kA; rw [fm.1 58 (by decide)]
  have m59 : (m.1 59 x.toNatClampNeg).toInt = mA s x.toNatClampNeg := by rw [fm.1 59 (by decide)]
  have g59 := gM_59 hBs x.toNatClampNeg
  have c72 : c.1 72 = σ.1 72 := fc.1 72 (by decide)
  -- the block that a line names
  have bn : ∃ b : Nat, mA s x.toNatClampNeg = (b : Int) := ⟨(mA s x.toNatClampNeg).toNat, by show (s.1 59 x.toNatClampNeg).toInt = (((s.1 59 x.toNatClampNeg).toInt.toNat : Nat) : Int); omega⟩
  obtain ⟨bb, hbb⟩ := bn
  have cb : (c.1 70 x.toNatClampNeg).toNatClampNeg = bb := by
    show (c.1 70 x.toNatClampNeg).toInt.toNat = bb
    omega
  have mb : (m.1 59 x.toNatClampNeg).toNatClampNeg = bb := by
    show (m.1 59 x.toNatClampNeg).toInt.toNat = bb
    omega
  -- it goes on with nothing done
  have still : ∀ v w : Int32, v.toInt = w.toInt → 0 ≤ v.toInt → LMD s A c m v.toNatClampNeg → RESL s A a c m (v, c) (w, m) := fun v w e v0 l => ⟨FR.rf, FR.rf, R, hR, hM, Or.inl ⟨Int32.toInt_inj.mp e, v0, l, c84, m78, rfl, rfl, rfl⟩⟩
  -- by names alone
  have byN : ∀ (v : Int32) (j : Nat), v.toInt = (j : Int) → (∀ cc : Nat, cc < nB s → TOC s (cc : Int) x.toNatClampNeg → TOC s (cc : Int) j) → kA s x.toNatClampNeg ≠ 0 → kA s x.toNatClampNeg ≠ 3 → kA s x.toNatClampNeg ≠ 9 → kA s x.toNatClampNeg ≠ 10 → LMD s A c m v.toNatClampNeg := fun v j e h n0 n3 n9 n10 => by
    have vj : v.toNatClampNeg = j := by
      show v.toInt.toNat = j
      omega
    rw [vj]
    rcases L with ⟨cc, c1, c2, c3⟩ | ⟨b, _, z, _⟩ | ⟨b, q, i, hb, Q, hi, xe, hq, E⟩ | ⟨b, _, _, z, _⟩
    · exact Or.inl ⟨cc, c1, h cc c1 c2, c3⟩
    · exact absurd z n9
    · by_cases z : i = NNb A b
      · rcases Q.2 with ⟨w, _⟩ | ⟨_, _, w, _⟩
        · exact absurd w (hq z).1
        · rw [xe, z] at n10
          exact absurd w n10
      · have := (Q.1 i (by omega)).2
        rw [← xe] at this
        exact absurd (congrArg Prod.fst this) n0
    · exact absurd z.2.1 n3
  -- the reference, at the same kind of line
  refine t_followC (fun z => ?_) (fun z => ?_) (fun z => ?_) (fun z z70 => ?_) (fun z z70 => ?_) (fun z z70 => ?_) (fun z0 z3 z4 z6 z7 z8 => ?_)
  · -- a statement
    rw [r69] at z
    have md : ∃ b q i : Nat, b < nB s ∧ BQL s A b q ∧ i < NNb A b ∧ x.toNatClampNeg = q + i ∧ ENVn (VTn s A b i) (VXn s A b i) c m := by
      rcases L with ⟨cc, c1, c2, c3⟩ | ⟨b, _, w, _⟩ | ⟨b, q, i, hb, Q, hi, xe, hq, E⟩ | ⟨b, _, _, w, _⟩
      · exact absurd z c2.out.2.1
      · rw [z] at w
        exact absurd w (by decide)
      · by_cases w : i = NNb A b
        · rcases Q.2 with ⟨y, _⟩ | ⟨_, _, y, _⟩
          · exact absurd y (hq w).1
          · rw [xe, w, y] at z
            exact absurd z (by decide)
        · exact ⟨b, q, i, hb, Q, by omega, xe, E⟩
      · rw [w.2.1] at z
        exact absurd z (by decide)
    obtain ⟨b, q, i, hb, Q, hi, xe, E⟩ := md
    have ln := (Q.1 i hi).2
    rw [← xe] at ln
    have lb : mA s x.toNatClampNeg = (b : Int) := congrArg (fun z => z.2.1) ln
    have lo : oA s x.toNatClampNeg = sB s b + i := congrArg (fun z => z.2.2) ln
    have sb := P0.sB_ (b := b) (by omega)
    have nn := (P0.nn_ hb).2
    obtain ⟨n1, n2, n3, n4, n5⟩ := NM.1 b hb
    have eb : bb = b := by omega
    subst eb
    generalize hj : pNn (A bb) + i = j
    have jn : j < pNn (A (nB s)) := by omega
    obtain ⟨nx, tx, X1, X2, X3, X4, X5, X6, X7, X8⟩ := LX
    obtain ⟨nm, tm, M1, M2, M3, M4, M5, M6⟩ := LM
    have j72 : (c.1 72 x.toNatClampNeg).toNatClampNeg = j := by
      show (c.1 72 x.toNatClampNeg).toInt.toNat = j
      rw [c72, a3 z, lo, sb]
      omega
    have j61 : (m.1 61 x.toNatClampNeg).toNatClampNeg = j := by
      show (m.1 61 x.toNatClampNeg).toInt.toNat = j
      have : (m.1 61 x.toNatClampNeg).toInt = oA s x.toNatClampNeg := by rw [fm.1 61 (by decide)]
      rw [this, lo, sb]
      omega
    have SX := X4 j jn
    have SM := M4 j jn
    generalize hS : pSm (A (nB s)) j = S at SX SM
    have SXc : STX c nx tx j S := by
      unfold STX at SX ⊢
      rw [fc.1 53 (by decide), fc.1 54 (by decide), fc.1 55 (by decide)]
      exact SX
    have SMm : STM m nm tm j S := by
      unfold STM at SM ⊢
      rw [fm.1 42 (by decide), fm.1 43 (by decide), fm.1 44 (by decide)]
      exact SM
    have g47 : (j : Int) < (s.1 47 0).toInt := by rw [M2]; omega
    have w1 : W1 s j := LD.2.2.2.2.2.2.2.2.2.1.1 j g47
    have hs : S.1 ≠ 6 → ∃ t, S.2.2 = some t := fun z6 => by
      have e0 := (w1.2.2.2.1 (by rw [SM.1]; exact z6)).1
      cases hS2 : S.2.2 with
      | none =>
        have e1 := SM.2.2
        rw [hS2] at e1
        have := e1.no
        omega
      | some t => exact ⟨t, rfl⟩
    have hNX : ∀ t, S.2.2 = some t → NMT (c.1 79) (c.1 80) (m.1 82) (m.1 83) t := fun t ht => by
      have q := n3 j t (by omega) (by omega) (by rw [hS]; exact ht)
      refine ⟨fun k hk => E.1 k (Or.inl (q.1 k hk)), fun y hy => E.2 y ?_⟩
      obtain ⟨j', j1, j2, j3, j4⟩ := q.2 y hy
      exact ⟨j', j1, by omega, j3, j4⟩
    have hNM : ∀ t, S.2.2 = some t → NMT (m.1 82) (m.1 83) (m.1 82) (m.1 83) t := fun t _ => ⟨fun _ _ => rfl, fun _ _ => rfl⟩
    have hW : (s.1 25 bb).toInt ≠ -1 → S.1 ≠ 6 → WY s (GO s n) bb := fun h25 z6 => by
      obtain ⟨s', b', y1, y2, y3, y4, y5⟩ := GOb.c0 g' z
      have sj : s' = j := by omega
      have bj : b' = bb := by omega
      subst sj
      subst bj
      exact (y5 (by rw [SM.1]; exact z6)).2 h25
    refine pc_imp (t_perform (T := m.1 82) (X := m.1 83) (x3 := x) (x2 := c.1 70 x.toNatClampNeg) (X1.cg (fun k hk => fc.1 k (by simp; omega))) SXc j72 hR c84 hNX hs) (fun r hr => ?_)
    refine m_nextC (fun _ => ?_) (fun y => absurd (km ▸ y) (by omega)) (fun y => absurd (km ▸ y) (by omega)) (fun y => absurd (km ▸ y) (by omega)) (fun y => absurd (km ▸ y) (by omega)) (fun y => absurd (km ▸ y) (by omega)) (fun y => absurd (km ▸ y) (by omega)) (fun y _ _ _ _ _ _ => absurd (km.trans z) y)
    refine pc_imp (m_perform (T := m.1 82) (X := m.1 83) (y := x) (M1.cg (fun k hk => fm.1 k (by simp; omega))) SMm j61 hM m78 hNM hs) (fun u hu => ?_)
    intro Bu Fu
    by_cases z6 : S.1 = 6
    · have e1 := hr.1 z6
      have e2 := hu.1 z6
      rw [e1, e2]
      have f74 : FR [74] [] m (sti m 74 0 0) := FR.st FR.rf (by decide)
      have a74 : (sti m 74 0 (0 : Int32)).1 74 0 = 0 := sti_s _ _ _ _
      refine ⟨FR.rf, FR.cal FR.rf f74 rfl rfl, R, hR, hM.fr f74 rfl, Or.inr ⟨rfl, ?_, ?_, Or.inr ⟨?_, ?_⟩⟩⟩
      · show (sti m 74 0 (0 : Int32)).1 74 0 ≠ -1
        rw [a74]; decide
      · show c.1 86 0 = (sti m 74 0 (0 : Int32)).1 74 0
        rw [a74]; exact c86
      · show c.1 86 0 ≠ 1
        rw [c86]; decide
      · show (sti m 74 0 (0 : Int32)).1 75 0 = 0
        rw [sti_o (by decide)]; exact m75
    obtain ⟨t, et⟩ := hs z6
    have pr := hr.2 t z6 et
    have pu := hu.2 t z6 et
    generalize evT (m.1 82) (m.1 83) t R = V at pr pu
    -- something thrown
    have thr : ∀ v : Int32, CTX v V.2.1 a (c.1 70 x.toNatClampNeg) c r → CTM v V.2.1 (m.1 59 x.toNatClampNeg) m u → RESL s A a c m r u := fun v h1 h2 => by
      obtain ⟨h1a, h1b⟩ := h1
      obtain ⟨h2a, h2b⟩ := h2
      rw [cb] at h1b
      rw [mb] at h2b
      have c26 : (c.1 26 bb).toInt = (s.1 25 bb).toInt := by rw [fc.1 26 (by decide)]; exact CA bb hb
      have m25 : m.1 25 bb = s.1 25 bb := by rw [fm.1 25 (by decide)]
      have cm : c.1 26 bb = m.1 25 bb := Int32.toInt_inj.mp (by rw [c26, m25])
      rcases h1b with ⟨p1, p2, p3, p4, p5⟩ | ⟨p1, p2, p3, p4, p5⟩
      · rcases h2b with ⟨q1, q2, q3, q4⟩ | ⟨q1, _⟩
        · exact ⟨FR.cal FR.rf p5 rfl rfl, FR.cal FR.rf q4 rfl rfl, _, h1a, h2a, Or.inr ⟨p2, by rw [q2]; decide, by rw [p3, q2], Or.inl ⟨p3, by rw [p4, q3]⟩⟩⟩
        · rw [cm] at p1
          exact absurd p1 q1
      · rcases h2b with ⟨q1, _⟩ | ⟨q1, q2, q3, q4, q5⟩
        · rw [cm] at p1
          exact absurd q1 p1
        · have k_m1 : ((-1) : Int32).toInt = -1 := by decide +kernel
          have h25 : (s.1 25 bb).toInt ≠ -1 := fun w => p1 (by rw [fa_eq, k_m1, c26]; exact w)
          obtain ⟨w0, wq⟩ := ok_get (s_wayTo (σ := s) (x1 := m.1 59 x.toNatClampNeg) (x2 := m.1 25 bb) (b := bb) Bu Fu (by omega) (by rw [m25]) (hW h25 z6).wq) q5
          have fr : FR RXL [] σ r.2 := FR.cal fc p4 rfl rfl
          have wc := P0.wc (x2 := c.1 70 x.toNatClampNeg) hb (by omega) fr wq _ p5
          have cu := clamp_I w0
          obtain ⟨cc, c1, c2, c3⟩ := (DS bb hb).2.2 h25
          refine ⟨FR.cal FR.rf p4 rfl rfl, FR.cal FR.rf q4 rfl rfl, _, h1a, h2a, Or.inl ⟨Int32.toInt_inj.mp (by omega), by omega, Or.inl ⟨cc, c1, ?_, fun k hk => ?_, fun y hy => hy.elim⟩, p2, q2, q4.1 74 (by decide), p4.1 86 (by decide), q4.1 75 (by decide)⟩⟩
          · rw [show r.1.toNatClampNeg = u.1.toNatClampNeg by rw [show r.1 = u.1 from Int32.toInt_inj.mp (by omega)]]
            obtain ⟨e, e1, e2, e3, e4⟩ := wq
            rw [c2] at e4
            rcases e4 with ⟨_, y⟩ | ⟨_, j', y1, y2⟩
            · exact FL.2.2.1 _ _ y
            · rw [y2]
              exact FL.2.2.2 _ _ y1
          · have k0 : k = 0 := by omega
            rw [k0, p3, q3]
    rcases pr with ⟨p1, p2, p3, p4, p5, p6, p7, p8⟩ | ⟨p1, p2⟩ | ⟨p1, p2, p3⟩
    · rcases pu with ⟨q1, q2, q3, q4, q5, q6, q7, q8⟩ | ⟨q1, _⟩ | ⟨_, q1, _⟩
      · refine ⟨FR.cal FR.rf p4 rfl rfl, FR.cal FR.rf q4 rfl rfl, _, p5, q5, Or.inl ⟨p3.trans q3.symm, by rw [p3]; omega, ?_, p8, q8, q4.1 74 (by decide), p4.1 86 (by decide), q4.1 75 (by decide)⟩⟩
        rw [p3, nx1, xe, show q + i + 1 = q + (i + 1) by omega]
        refine P0.bd hb Q (by omega) (fun w en => ?_) ⟨fun k hk => ?_, fun y hy => ?_⟩
        · have e5 := (P0.en hb en).2
          rw [show pNn (A bb) + NNb A bb - 1 = j by omega, SM.1] at e5
          have g42 := gM_42 hBs j
          rw [SM.1] at g42
          omega
        · rw [p6 k, q6 k]
          by_cases y : S.1 = 1
          · rw [pRow_y y, pRow_y y]
            by_cases w : k = S.2.1.toNat
            · rw [w, upT_s, upT_s]
            · rw [upT_n w, upT_n w]
              refine E.1 k ?_
              rcases hk with hk | ⟨j', j1, j2, j3, j4⟩
              · exact Or.inl hk
              · refine Or.inr ⟨j', j1, ?_, j3, j4⟩
                by_cases jj : j' = j
                · rw [jj, hS] at j4
                  exact absurd (by omega) w
                · omega
          · rw [pRow_n y, pRow_n y]
            refine E.1 k ?_
            rcases hk with hk | ⟨j', j1, j2, j3, j4⟩
            · exact Or.inl hk
            · refine Or.inr ⟨j', j1, ?_, j3, j4⟩
              by_cases jj : j' = j
              · rw [jj, hS] at j3
                exact absurd j3 y
              · omega
        · rw [p7 y, q7 y]
          obtain ⟨j', j1, j2, j3, j4⟩ := hy
          by_cases w2 : S.1 = 2
          · rw [pRow_y w2, pRow_y w2]
            by_cases w : y = S.2.1.toNat
            · rw [w, upT_s, upT_s]
            · rw [upT_n w, upT_n w]
              refine E.2 y ⟨j', j1, ?_, j3, j4⟩
              by_cases jj : j' = j
              · rw [jj, hS] at j4
                exact absurd (by omega) w
              · omega
          · rw [pRow_n w2, pRow_n w2]
            refine E.2 y ⟨j', j1, ?_, j3, j4⟩
            by_cases jj : j' = j
            · rw [jj, hS] at j3
              exact absurd j3 w2
            · omega
      · rw [p1] at q1
        exact absurd q1 (by decide)
      · exact absurd q1 p2
    · rcases pu with ⟨q1, _⟩ | ⟨_, q2⟩ | ⟨q1, _⟩
      · rw [p1] at q1
        exact absurd q1 (by decide)
      · exact thr 99 p2 q2
      · rw [p1] at q1
        exact absurd q1 (by decide)
    · rcases pu with ⟨_, q1, _⟩ | ⟨q1, _⟩ | ⟨_, _, q3⟩
      · exact absurd p2 q1
      · rw [p1] at q1
        exact absurd q1 (by decide)
      · exact thr _ p3 q3
  · -- a choice
    rw [r69] at z
    have md : ∃ b : Nat, b < nB s ∧ FORK s b ∧ LWj s 3 (b : Int) x.toNatClampNeg ∧ TOC s (fallT s b) (x.toNatClampNeg + 1) ∧ (∃ j, OTHj s (b : Int) j ∧ TOC s (jmpT s b) (j + 1)) ∧ ENVn (VTn s A b (NNb A b)) (VXn s A b (NNb A b)) c m := by
      rcases L with ⟨cc, c1, c2, c3⟩ | ⟨b, _, w, _⟩ | ⟨b, q, i, hb, Q, hi, xe, hq, E⟩ | w
      · exact absurd z c2.out.2.2.1
      · rw [z] at w
        exact absurd w (by decide)
      · by_cases w : i = NNb A b
        · rcases Q.2 with ⟨y, _⟩ | ⟨_, _, y, _⟩
          · exact absurd y (hq w).1
          · rw [xe, w, y] at z
            exact absurd z (by decide)
        · have := (Q.1 i (by omega)).2
          rw [← xe] at this
          have := congrArg Prod.fst this
          have : kA s x.toNatClampNeg = 0 := this
          omega
      · exact w
    obtain ⟨b, hb, fk, lw, t1, ⟨jo, o1, o2⟩, E⟩ := md
    have eb : bb = b := by have := lw.2.2; omega
    subst eb
    have ne : ¬ enI (sG s (laR s bb)) := by
      have := fk.1
      unfold enI
      omega
    obtain ⟨n1, n2, n3, n4, n5⟩ := NM.1 bb hb
    have nn := (P0.nn_ hb).2
    have LX0 := LX
    obtain ⟨nx, tx, X1, X2, X3, X4, X5, X6, X7, X8⟩ := LX
    obtain ⟨nm, tm, M1, M2, M3, M4, M5, M6⟩ := LM
    have vX := X6 bb hb
    have vM := M6 bb hb
    obtain ⟨b', y1, y2, y3, _, _⟩ := GOb.c3 g' z
    have bj : b' = bb := by omega
    subst bj
    have ht : ∃ t, pTs (A (b' + 1)) = some t := by
      cases hT : pTs (A (b' + 1)) with
      | none =>
        rw [hT] at vM
        exact absurd vM.no y3
      | some t => exact ⟨t, rfl⟩
    obtain ⟨t, ht⟩ := ht
    rw [ht] at vX vM
    have te := NM.2 b' t hb ne ht
    have q := n4 t ht
    have sz : tSz t ≤ 60 := (LX0.ts b' t hb ht).2
    have hNX : NMT (c.1 79) (c.1 80) (m.1 82) (m.1 83) t := ⟨fun k hk => E.1 k (Or.inl (q.1 k hk)), fun y hy => E.2 y (by
      obtain ⟨j', j1, j2, j3, j4⟩ := q.2 y hy
      exact ⟨j', j1, by omega, j3, j4⟩)⟩
    have hNM : NMT (m.1 82) (m.1 83) (m.1 82) (m.1 83) t := ⟨fun _ _ => rfl, fun _ _ => rfl⟩
    have ev := evT_ne (m.1 82) (m.1 83) t te R
    rw [cb]
    have c57 : c.1 57 b' = σ.1 57 b' := by rw [fc.1 57 (by decide)]
    have m46 : m.1 46 b' = s.1 46 b' := by rw [fm.1 46 (by decide)]
    rw [← c57] at vX
    rw [← m46] at vM
    refine pc_imp (t_value (T := m.1 82) (X := m.1 83) 250 _ 0 c t R (X1.cg (fun k hk => fc.1 k (by simp; omega))) vX hR c84 hNX (by omega) (by omega)) (fun r hr => ?_)
    obtain ⟨r1, r2, r3⟩ := hr
    rw [ev] at r2 r3
    (try dsimp only at r2 r3)
    have r4 : r.1 = (evT (m.1 82) (m.1 83) t R).1 ∧ r.2.1 84 0 = 0 := by
      rcases r3 with w | w
      · exact w.2
      · exact absurd w.1 (by decide)
    -- the reference's value
    have mv : ∀ {Qm : Int32 × Sto → Prop}, (∀ u : Int32 × Sto, FR [72, 76, 78, 79] [] m u.2 → RMM R u.2 → u.1 = r.1 → u.2.1 78 0 = 0 → Qm u) → PC (f_X12_valueOf 250 (m.1 46 b') m) Qm := fun {Qm} hh => by
      refine pc_imp (m_value (T := m.1 82) (X := m.1 83) 250 _ m t R (M1.cg (fun k hk => fm.1 k (by simp; omega))) vM hM m78 hNM) (fun u hu => ?_)
      obtain ⟨u1, u2, u3⟩ := hu
      rw [ev] at u2 u3
      (try dsimp only at u2 u3)
      rcases u3 with w | w
      · exact hh u u1 u2 (by rw [w.2.1, r4.1]) w.2.2
      · exact absurd w.1 (by decide)
    have go : ∀ (u : Int32 × Sto) (v w : Int32) (k : Nat) (cc : Nat), FR [72, 76, 78, 79] [] m u.2 → RMM R u.2 → u.2.1 78 0 = 0 → v.toInt = (k : Int) → w.toInt = (k : Int) → cc < nB s → TOC s (cc : Int) k → (DEP s cc : Int) = DEE s b' → RESL s A a c m (v, r.2) (w, u.2) := fun u v w k cc u1 u2 u4 hv hw c1 c2 c3 => by
      refine ⟨FR.cal FR.rf r1 rfl rfl, FR.cal FR.rf u1 rfl rfl, R, r2, u2, Or.inl ⟨Int32.toInt_inj.mp (hv.trans hw.symm), by show 0 ≤ v.toInt; omega, Or.inl ⟨cc, c1, ?_, ?_⟩, r4.2, u4, u1.1 74 (by decide), r1.1 86 (by decide), u1.1 75 (by decide)⟩⟩
      · (try dsimp only)
        rw [show v.toNatClampNeg = k by show v.toInt.toNat = k; omega]
        exact c2
      · exact (P0.nxt hb ne c3 E).cg (r1.1 79 (by decide)) (r1.1 80 (by decide)) (u1.1 82 (by decide)) (u1.1 83 (by decide))
    obtain ⟨cf, f1, f2, f3⟩ := (DS b' hb).1 (by have := fk.1; omega)
    obtain ⟨cj, j1, j2, j3⟩ := (DS b' hb).2.1 (Or.inr fk.1)
    rw [f2] at t1
    rw [j2] at o2
    have nk : ∀ {k : Int}, k ≠ 3 → kA m x.toNatClampNeg = k → False := fun {k} h y => h (by rw [← y, km]; exact z)
    refine ⟨fun v0 => ?_, fun v0 => ?_⟩
    · -- otherwise
      obtain ⟨jk, k1, k2, k3⟩ := K.1 _ xl z
      rw [y1] at k3
      have je : jo = jk := oth_eq U lw o1 k1 k3 (fun mm hmm => by
        obtain ⟨e, e1, _, e2⟩ := K.2.1 mm hmm.1 hmm.2.1
        rw [hmm.2.2] at e2
        exact ⟨e, e1, e2⟩)
      have jl : jk < nL s := by
        rcases k3 with w | w
        · exact w.1
        · exact w.1.1
      have c72x : (r.2.1 72 x.toNatClampNeg).toInt = (jk : Int) := by rw [r1.1 72 (by decide), c72]; exact k2
      refine m_nextC (fun y => (nk (by decide) y).elim) (fun _ => ?_) (fun y => (nk (by decide) y).elim) (fun y => (nk (by decide) y).elim) (fun y => (nk (by decide) y).elim) (fun y => (nk (by decide) y).elim) (fun y => (nk (by decide) y).elim) (fun _ y _ _ _ _ _ => absurd (km.trans z) y)
      rw [mb]
      refine mv (fun u u1 u2 u3 u4 => ⟨fun w0 => ?_, fun w0 => absurd (u3.trans v0) w0⟩)
      intro vv hvv Bu Fu
      (try dsimp only at Bu Fu)
      have lwu : ∀ {kd cc : Int} {i : Nat}, LWj u.2 kd cc i ↔ LWj s kd cc i := fun {kd cc i} => LWj.cg Fu rfl
      have enu : ∀ {kd cc : Int} {i : Nat}, EN u.2 kd cc i ↔ EN s kd cc i := fun {kd cc i} => EN.cg Fu rfl
      have mbt : (m.1 59 x.toNatClampNeg).toInt = (b' : Int) := by omega
      have ow := ok_get (s_otherwiseOf (s := u.2) (x := m.1 59 x.toNatClampNeg) (j := jo) Bu ⟨_, lwu.mpr (by rw [mbt]; exact lw)⟩ (fun q' hq' => by
        rw [mbt] at hq'
        obtain ⟨z1, z2⟩ := o1.1 q' (lwu.mp hq')
        refine ⟨z1, fun i i1 i2 i3 => z2 i i1 i2 ?_⟩
        rw [mbt] at i3
        rcases i3 with i3 | i3
        · exact Or.inl (lwu.mp i3)
        · exact Or.inr (enu.mp i3)) (by
        rw [mbt]
        rcases o1.2 with i3 | i3
        · exact Or.inl (lwu.mpr i3)
        · exact Or.inr (enu.mpr i3))) hvv
      refine go u _ _ (jo + 1) cj u1 u2 u4 ?_ (by rw [ow]; rfl) j1 o2 j3
      rw [i1 (by rw [c72x]; omega), c72x, je]
      rfl
    · refine m_nextC (fun y => (nk (by decide) y).elim) (fun _ => ?_) (fun y => (nk (by decide) y).elim) (fun y => (nk (by decide) y).elim) (fun y => (nk (by decide) y).elim) (fun y => (nk (by decide) y).elim) (fun y => (nk (by decide) y).elim) (fun _ y _ _ _ _ _ => absurd (km.trans z) y)
      rw [mb]
      refine mv (fun u u1 u2 u3 u4 => ⟨fun w0 => absurd (u3.symm.trans w0) v0, fun _ => ?_⟩)
      intro Bu Fu
      exact go u _ _ (x.toNatClampNeg + 1) cf u1 u2 u4 (by omega) (by omega) f1 t1 f3
  · -- an else
    rw [r69] at z
    obtain ⟨jk, k1, k2, k3⟩ := K.2.1 _ xl z
    have jl := k3.1
    have c72x : (c.1 72 x.toNatClampNeg).toInt = (jk : Int) := by rw [c72]; exact k2
    have nk : ∀ {k : Int}, k ≠ 4 → kA m x.toNatClampNeg = k → False := fun {k} h y => h (by rw [← y, km]; exact z)
    refine m_nextC (fun y => (nk (by decide) y).elim) (fun y => (nk (by decide) y).elim) (fun _ => ?_) (fun y => (nk (by decide) y).elim) (fun y => (nk (by decide) y).elim) (fun y => (nk (by decide) y).elim) (fun y => (nk (by decide) y).elim) (fun _ _ y _ _ _ _ => absurd (km.trans z) y)
    refine pc_imp (pc_ok (s_endOf hB ⟨jk, (EN.cg fm rfl).mpr (by rw [k_3, m59]; exact k3)⟩)) (fun v hv => ?_)
    intro _ _
    obtain ⟨v0, _, v2⟩ := hv
    have v3 := (EN.cg fm rfl).mp v2
    rw [k_3, m59, hbb] at v3
    rw [hbb] at k3
    have ev := U.2.2.2.2.2 bb _ _ v3 k3
    have cv := clamp_I v0
    have e1 : ((c.1 72 x.toNatClampNeg) + 1).toInt = (jk : Int) + 1 := by rw [i1 (by rw [c72x]; omega), c72x]
    have e2 : (v + 1).toInt = (jk : Int) + 1 := by rw [i1 (by omega)]; omega
    refine still _ _ (by rw [e1, e2]) (by rw [e1]; omega) (byN _ (jk + 1) (by rw [e1]; rfl) (fun cc _ h => ?_) (by omega) (by omega) (by omega) (by omega))
    have q := h.out.2.2.2.2.1 z jk
    rw [hbb] at q
    exact q k3
  · -- a break
    rw [r69] at z
    obtain ⟨⟨jk, j1⟩, _⟩ := GOb.c6 g' z
    rw [hbb] at j1
    have k2 := K.2.2.2.2 _ _ j1
    have jl := j1.1
    have c75x : (c.1 75 bb).toInt = (jk : Int) := by rw [fc.1 75 (by decide)]; exact k2
    have nk : ∀ {k : Int}, k ≠ 6 → kA m x.toNatClampNeg = k → False := fun {k} h y => h (by rw [← y, km]; exact z)
    refine m_nextC (fun y => (nk (by decide) y).elim) (fun y => (nk (by decide) y).elim) (fun y => (nk (by decide) y).elim) (fun _ => ?_) (fun y => (nk (by decide) y).elim) (fun y => (nk (by decide) y).elim) (fun y => (nk (by decide) y).elim) (fun _ _ _ y _ _ _ => absurd (km.trans z) y)
    refine pc_imp (pc_ok (s_endOf hB ⟨jk, (EN.cg fm rfl).mpr (by rw [k_2, m59, hbb]; exact j1)⟩)) (fun v hv => ?_)
    intro _ _
    obtain ⟨v0, _, v2⟩ := hv
    have v3 := (EN.cg fm rfl).mp v2
    rw [k_2, m59, hbb] at v3
    have ev := U.2.1 bb _ _ v3 j1
    have cv := clamp_I v0
    rw [cb]
    have e1 : ((c.1 75 bb) + 1).toInt = (jk : Int) + 1 := by rw [i1 (by rw [c75x]; omega), c75x]
    have e2 : (v + 1).toInt = (jk : Int) + 1 := by rw [i1 (by omega)]; omega
    refine still _ _ (by rw [e1, e2]) (by rw [e1]; omega) (byN _ (jk + 1) (by rw [e1]; rfl) (fun cc _ h => ?_) (by omega) (by omega) (by omega) (by omega))
    have q := h.out.2.2.2.2.2.1 z jk
    rw [hbb] at q
    exact q j1
  · -- a continue
    rw [r69] at z
    obtain ⟨⟨jk, j1⟩, _⟩ := GOb.c7 g' z
    rw [hbb] at j1
    have k2 := K.2.2.2.1 _ _ j1
    have jl := j1.1
    have c74x : (c.1 74 bb).toInt = (jk : Int) := by rw [fc.1 74 (by decide)]; exact k2
    have nk : ∀ {k : Int}, k ≠ 7 → kA m x.toNatClampNeg = k → False := fun {k} h y => h (by rw [← y, km]; exact z)
    refine m_nextC (fun y => (nk (by decide) y).elim) (fun y => (nk (by decide) y).elim) (fun y => (nk (by decide) y).elim) (fun y => (nk (by decide) y).elim) (fun _ => ?_) (fun y => (nk (by decide) y).elim) (fun y => (nk (by decide) y).elim) (fun _ _ _ _ y _ _ => absurd (km.trans z) y)
    refine pc_imp (pc_ok (s_lineWith hB ⟨jk, (LWj.cg fm rfl).mpr (by rw [k_1, m59, hbb]; exact j1)⟩)) (fun v hv => ?_)
    intro _ _
    obtain ⟨v0, _, v2⟩ := hv
    have v3 := (LWj.cg fm rfl).mp v2
    rw [k_1, m59, hbb] at v3
    have ev := U.1 bb _ _ v3 j1
    have cv := clamp_I v0
    rw [cb]
    refine still _ _ (by rw [c74x]; omega) (by rw [c74x]; omega) (byN _ jk c74x (fun cc _ h => ?_) (by omega) (by omega) (by omega) (by omega))
    have q := h.out.2.2.2.2.2.2.1 z jk
    rw [hbb] at q
    exact q j1
  · -- a goto
    rw [r69] at z
    obtain ⟨⟨jk, j1⟩, _⟩ := GOb.c8 g' z
    rw [hbb] at j1
    have k2 := K.2.2.1 _ _ j1
    have jl := j1.1
    have c73x : (c.1 73 bb).toInt = (jk : Int) := by rw [fc.1 73 (by decide)]; exact k2
    have nk : ∀ {k : Int}, k ≠ 8 → kA m x.toNatClampNeg = k → False := fun {k} h y => h (by rw [← y, km]; exact z)
    refine m_nextC (fun y => (nk (by decide) y).elim) (fun y => (nk (by decide) y).elim) (fun y => (nk (by decide) y).elim) (fun y => (nk (by decide) y).elim) (fun y => (nk (by decide) y).elim) (fun _ => ?_) (fun y => (nk (by decide) y).elim) (fun _ _ _ _ _ y _ => absurd (km.trans z) y)
    refine pc_imp (pc_ok (s_lineWith hB ⟨jk, (LWj.cg fm rfl).mpr (by rw [k_11, m59, hbb]; exact j1)⟩)) (fun v hv => ?_)
    intro _ _
    obtain ⟨v0, _, v2⟩ := hv
    have v3 := (LWj.cg fm rfl).mp v2
    rw [k_11, m59, hbb] at v3
    have ev := U.2.2.1 bb _ _ v3 j1
    have cv := clamp_I v0
    rw [cb]
    refine still _ _ (by rw [c73x]; omega) (by rw [c73x]; omega) (byN _ jk c73x (fun cc _ h => ?_) (by omega) (by omega) (by omega) (by omega))
    have q := h.out.2.2.2.2.2.2.2.1 z jk
    rw [hbb] at q
    exact q j1
  · -- all others go on
    rw [r69] at z0 z3 z4 z6 z7 z8
    have kk : kA s x.toNatClampNeg = 1 ∨ kA s x.toNatClampNeg = 2 ∨ kA s x.toNatClampNeg = 5 ∨ kA s x.toNatClampNeg = 9 ∨ kA s x.toNatClampNeg = 10 := by
      rcases g'.2 with w | ⟨w, _⟩ | ⟨w, _⟩ | ⟨w, _⟩ | ⟨w, _⟩ | ⟨w, _⟩ | ⟨w, _⟩ | ⟨w, _⟩
      · exact absurd w k11
      · exact absurd w z0
      · exact absurd w z3
      · exact absurd w z4
      · exact absurd w z6
      · exact absurd w z7
      · exact absurd w z8
      · exact w
    refine m_nextC (fun y => absurd (km.symm.trans y) z0) (fun y => absurd (km.symm.trans y) z3) (fun y => absurd (km.symm.trans y) z4) (fun y => absurd (km.symm.trans y) z6) (fun y => absurd (km.symm.trans y) z7) (fun y => absurd (km.symm.trans y) z8) (fun y => absurd (km.symm.trans y) k11) (fun _ _ _ _ _ _ _ => ?_)
    intro _ _
    refine still _ _ rfl (by omega) ?_
    rw [nx1]
    rcases L with ⟨cc, c1, c2, c3⟩ | ⟨b, hb, w, Q, E⟩ | ⟨b, q, i, hb, Q, hi, xe, hq, E⟩ | ⟨b, _, _, w, _⟩
    · exact Or.inl ⟨cc, c1, c2.out.2.2.2.2.2.2.2.2 kk, c3⟩
    · exact P0.bd (i := 0) hb Q (Nat.zero_le _) (fun y en => by have := (P0.en hb en).1; omega) E
    · by_cases w : i = NNb A b
      · obtain ⟨w1, w2⟩ := hq w
        rcases Q.2 with ⟨y, _⟩ | ⟨_, _, _, t⟩
        · exact absurd y w1
        · rw [w] at E xe
          rw [xe]
          exact P0.tl hb t w2 E
      · have := (Q.1 i (by omega)).2
        rw [← xe] at this
        exact absurd (congrArg Prod.fst this) z0
    · exact absurd w.2.1 z3
