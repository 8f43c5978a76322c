/-- what instruction answers -/
def HOv (hs : Nat) (fr up : Nat → Int) (i : Nat) (v : Int) : Prop := (v = -1 ∧ hoP hs fr up i = hs) ∨ (v = (hoP hs fr up i : Int) ∧ hoP hs fr up i < hs)
def INSP (sg nm dp ob : Nat → Int) (hs : Nat) (fr up : Nat → Int) (dd : Nat → Prop) (i : Nat) (b : Int) (v : Int) : Prop := (b = 0 → v = sg i) ∧ (b = 1 → v = nm i) ∧ (b = 2 → v = dp i) ∧ (b = 3 → v = ob i) ∧ (b = 4 → HOv hs fr up i v) ∧ (b = 5 → (v = 1 ∧ dd i) ∨ (v = 0 ∧ ¬ dd i))
theorem HOv.uq {hs : Nat} {fr up : Nat → Int} {i : Nat} {v w : Int} (h : HOv hs fr up i v) (g : HOv hs fr up i w) : v = w := by
  rcases h with ⟨h1, h2⟩ | ⟨h1, h2⟩
  · rcases g with ⟨g1, g2⟩ | ⟨g1, g2⟩
    · omega
    · omega
  · rcases g with ⟨g1, g2⟩ | ⟨g1, g2⟩
    · omega
    · omega
theorem INSP.uq {sg nm dp ob : Nat → Int} {hs : Nat} {fr up : Nat → Int} {dd : Nat → Prop} {i : Nat} {b v w : Int} (h : INSP sg nm dp ob hs fr up dd i b v) (g : INSP sg nm dp ob hs fr up dd i b w) (b0 : 0 ≤ b) (b5 : b ≤ 5) : v = w := by
  obtain ⟨h0, h1, h2, h3_, h4, h5⟩ := h
  obtain ⟨g0, g1, g2, g3, g4, g5⟩ := g
  by_cases c0 : b = 0
  · rw [h0 c0, g0 c0]
  by_cases c1 : b = 1
  · rw [h1 c1, g1 c1]
  by_cases c2 : b = 2
  · rw [h2 c2, g2 c2]
  by_cases c3 : b = 3
  · rw [h3_ c3, g3 c3]
  by_cases c4 : b = 4
  · exact (h4 c4).uq (g4 c4)
  have c5 : b = 5 := by omega
  rcases h5 c5 with ⟨x1, x2⟩ | ⟨x1, x2⟩
  · rcases g5 c5 with ⟨y1, y2⟩ | ⟨y1, y2⟩
    · rw [x1, y1]
    · exact absurd x2 y2
  · rcases g5 c5 with ⟨y1, y2⟩ | ⟨y1, y2⟩
    · exact absurd y2 x2
    · rw [x1, y1]
theorem INSP.cg {sg nm dp ob sg2 nm2 dp2 ob2 : Nat → Int} {hs : Nat} {fr up fr2 up2 : Nat → Int} {dd dd2 : Nat → Prop} {i : Nat} {b v : Int} (h : INSP sg nm dp ob hs fr up dd i b v) (e1 : sg i = sg2 i) (e2 : nm i = nm2 i) (e3 : dp i = dp2 i) (e4 : ob i = ob2 i) (e5 : hoP hs fr up i = hoP hs fr2 up2 i) (e6 : dd i ↔ dd2 i) : INSP sg2 nm2 dp2 ob2 hs fr2 up2 dd2 i b v := by
  unfold INSP HOv at h ⊢
  rw [e1, e2, e3, e4, e5, e6] at h
  exact h
/-- the class's instruction, where it returns -/
theorem t_insX {a b : Int32} {σ : Sto} (h : XIN a b σ) (g4 : (σ.1 4 0).toInt ≤ 40) : PC (f_X11_instruction a b σ) (fun v => INSP (ri (σ.1 6)) (ri (σ.1 7)) (ri (σ.1 8)) (ri (σ.1 23)) (σ.1 5 0).toInt.toNat (ri (σ.1 9)) (ri (σ.1 10)) (fun i => bL (σ.2 6 0) i = true) a.toNatClampNeg b.toInt v.toInt) := by
  have k_0 : (0 : Int32).toInt = 0 := by decide +kernel
  have k_1 : (1 : Int32).toInt = 1 := by decide +kernel
  have k_5 : (5 : Int32).toInt = 5 := by decide +kernel
  obtain ⟨h1, h2, h3_, h4, h5⟩ := h
  have a0 : 0 ≤ a.toInt := by rw [fa_lt, k_0] at h2; omega
  have a1 : a.toInt < 64 := by rw [fa_le] at h3_; omega
  have b0 : 0 ≤ b.toInt := by rw [fa_lt, k_0] at h4; omega
  have b5 : b.toInt ≤ 5 := by rw [fa_le, k_5] at h5; exact h5
  unfold f_X11_instruction
  refine pc_ite (fun c => absurd c h1) (fun _ => ?_)
  refine pc_ite (fun c => absurd c h2) (fun _ => ?_)
  refine pc_ite (fun c => absurd c h3_) (fun _ => ?_)
  refine pc_ite (fun c => absurd c h4) (fun _ => ?_)
  refine pc_ite (fun _ => ?_) (fun c => absurd h5 c)
  unfold INSP
  refine pc_ite (fun c => ?_) (fun c0 => ?_)
  · refine pc_ix (fun _ => pc_lt fun v e => pc_ret ?_)
    rw [e]
    exact ⟨fun _ => rfl, fun z => by omega, fun z => by omega, fun z => by omega, fun z => by omega, fun z => by omega⟩
  refine pc_ite (fun c => ?_) (fun c1 => ?_)
  · refine pc_ix (fun _ => pc_lt fun v e => pc_ret ?_)
    rw [e]
    exact ⟨fun z => by omega, fun _ => rfl, fun z => by omega, fun z => by omega, fun z => by omega, fun z => by omega⟩
  refine pc_ite (fun c => ?_) (fun c2 => ?_)
  · refine pc_ix (fun _ => pc_lt fun v e => pc_ret ?_)
    rw [e]
    exact ⟨fun z => by omega, fun z => by omega, fun _ => rfl, fun z => by omega, fun z => by omega, fun z => by omega⟩
  refine pc_ite (fun c => ?_) (fun c3 => ?_)
  · refine pc_ix (fun _ => pc_lt fun v e => pc_ret ?_)
    rw [e]
    exact ⟨fun z => by omega, fun z => by omega, fun z => by omega, fun _ => rfl, fun z => by omega, fun z => by omega⟩
  refine pc_ite (fun c => ?_) (fun c4 => ?_)
  · refine pc_calp (t_X3_handlerOf a0) (fun v q => pc_ret ?_)
    refine ⟨fun z => by omega, fun z => by omega, fun z => by omega, fun z => by omega, fun _ => ?_, fun z => by omega⟩
    rcases q with ⟨q1, q2⟩ | ⟨q1, q2, q3⟩
    · exact Or.inl ⟨q1, q2⟩
    · refine Or.inr ⟨?_, by omega⟩
      have := clamp_I q1
      omega
  · refine pc_calp (t_isInB a0 a1) (fun v q => ?_)
    refine pc_ite (fun c => pc_ret ?_) (fun c => pc_ret ?_)
    · exact ⟨fun z => by omega, fun z => by omega, fun z => by omega, fun z => by omega, fun z => by omega, fun _ => Or.inr ⟨k_0, q.mp c⟩⟩
    · exact ⟨fun z => by omega, fun z => by omega, fun z => by omega, fun z => by omega, fun z => by omega, fun _ => Or.inl ⟨k_1, Classical.byContradiction fun z => c (q.mpr z)⟩⟩
/-- when the reference's instruction returns -/
def XIM (a b : Int32) (s : Sto) : Prop := (s.1 21 0).toInt ≠ 0 ∧ (0 ≤ a.toInt ∧ a.toInt < (s.1 15 0).toInt) ∧ 0 ≤ b.toInt ∧ b.toInt ≤ 5
theorem t_insM {a b : Int32} {s : Sto} (hB : BM s) : PC (f_X12_instruction_ a b s) (fun r => ((r.2.1 0 0).toInt = 1 ∧ ¬ XIM a b s) ∨ ((r.2.1 0 0).toInt = 0 ∧ XIM a b s ∧ INSP (ri (s.1 9)) (ri (s.1 10)) (ri (s.1 20)) (ri (s.1 24)) (s.1 16 0).toInt.toNat (ri (h3 (s.1 11) 0)) (ri (h3 (s.1 11) 1)) (fun i => (s.1 57 i).toInt ≠ 0) a.toNatClampNeg b.toInt r.1.toInt)) := by
  have k_0 : (0 : Int32).toInt = 0 := by decide +kernel
  have k_1 : (1 : Int32).toInt = 1 := by decide +kernel
  have k5 : (5 : Int64).toInt = 5 := by decide +kernel
  have g := gM_15 hB 0
  have g16 := gM_16 hB 0
  unfold f_X12_instruction_
  refine pc_jnI1 (fun t => (t.toInt = 1 ∧ ¬ XIM a b s) ∨ (t.toInt = 0 ∧ XIM a b s)) (fun t ht => ?_) (fun k hk => ?_)
  · refine pc_lt fun s2 e2 => ?_
    have q0 : s2.1 0 0 = t := by rw [e2, sti_s]
    have fr : ∀ {k : Nat}, k ≠ 0 → s2.1 k = s.1 k := fun {k} hk => by rw [e2]; exact sti_o hk
    refine pc_ite (fun c1 => ?_) (fun c1 => ?_)
    · rw [fa_le, k_0, q0] at c1
      have X : XIM a b s := by
        rcases ht with z | z
        · omega
        · exact z.2
      have t0 : (s2.1 0 0).toInt = 0 := by
        rw [q0]
        rcases ht with z | z
        · omega
        · exact z.1
      obtain ⟨_, ⟨a0, a1⟩, b0, b5⟩ := id X
      unfold INSP
      refine pc_ite (fun c => ?_) (fun c0 => ?_)
      · refine pc_ix (fun _ => pc_lt fun v e => pc_ret (Or.inr ⟨t0, X, ?_⟩))
        rw [fr (by decide)] at e
        rw [e]
        exact ⟨fun _ => rfl, fun z => by omega, fun z => by omega, fun z => by omega, fun z => by omega, fun z => by omega⟩
      refine pc_ite (fun c => ?_) (fun c1 => ?_)
      · refine pc_ix (fun _ => pc_lt fun v e => pc_ret (Or.inr ⟨t0, X, ?_⟩))
        rw [fr (by decide)] at e
        rw [e]
        exact ⟨fun z => by omega, fun _ => rfl, fun z => by omega, fun z => by omega, fun z => by omega, fun z => by omega⟩
      refine pc_ite (fun c => ?_) (fun c2 => ?_)
      · refine pc_ix (fun _ => pc_lt fun v e => pc_ret (Or.inr ⟨t0, X, ?_⟩))
        rw [fr (by decide)] at e
        rw [e]
        exact ⟨fun z => by omega, fun z => by omega, fun _ => rfl, fun z => by omega, fun z => by omega, fun z => by omega⟩
      refine pc_ite (fun c => ?_) (fun c3 => ?_)
      · refine pc_ix (fun _ => pc_lt fun v e => pc_ret (Or.inr ⟨t0, X, ?_⟩))
        rw [fr (by decide)] at e
        rw [e]
        exact ⟨fun z => by omega, fun z => by omega, fun z => by omega, fun _ => rfl, fun z => by omega, fun z => by omega⟩
      refine pc_ite (fun c => ?_) (fun c4 => ?_)
      · have B2 : BM s2 := by rw [e2]; exact pM_0 hB (by rw [← q0, t0]; omega)
        have g162 := gM_16 B2 0
        refine pc_calp (pc_ok (s_X12_handlerOf_handler (x2 := s2.1 16 0) (x3 := a) B2 g162 (by omega))) (fun v q => pc_ret (Or.inr ⟨t0, X, ?_⟩))
        rw [fr (show (11 : Nat) ≠ 0 by decide), fr (show (16 : Nat) ≠ 0 by decide)] at q
        refine ⟨fun z => by omega, fun z => by omega, fun z => by omega, fun z => by omega, fun _ => ?_, fun z => by omega⟩
        by_cases c9 : v.toInt = -1
        · exact Or.inl ⟨c9, q.2.1 c9⟩
        · have q3 := q.2.2 c9
          exact Or.inr ⟨q3.1.symm, by omega⟩
      · refine pc_ix (fun _ => pc_lt fun v e => ?_)
        rw [fr (by decide)] at e
        refine pc_ite (fun c => pc_ret (Or.inr ⟨t0, X, ?_⟩)) (fun c => pc_ret (Or.inr ⟨t0, X, ?_⟩))
        · rw [fa_eq, k_0, e] at c
          exact ⟨fun z => by omega, fun z => by omega, fun z => by omega, fun z => by omega, fun z => by omega, fun _ => Or.inr ⟨k_0, fun z => z c⟩⟩
        · rw [fa_eq, k_0, e] at c
          exact ⟨fun z => by omega, fun z => by omega, fun z => by omega, fun z => by omega, fun z => by omega, fun _ => Or.inl ⟨k_1, c⟩⟩
    · rw [fa_le, k_0, q0] at c1
      refine pc_ret (Or.inl ?_)
      rcases ht with z | z
      · exact ⟨by (try dsimp only); rw [q0]; exact z.1, z.2⟩
      · omega
  · refine pc_jnI0 (¬ XIM a b s) (fun z => hk 1 (Or.inl ⟨k_1, z⟩)) (fun k2 hk2 => ?_)
    refine pc_ite (fun c => hk2 (fun z => ?_)) (fun c1 => ?_)
    · rw [fa_eq, k_0] at c
      exact z.1 c
    rw [fa_eq, k_0] at c1
    refine pc_calp (pc_ok s_isIn) (fun v3 q => ?_)
    rw [Int32.toInt_toInt64, Int32.toInt_toInt64, i64_0, i32_m1 g.1] at q
    refine pc_ite (fun c => hk2 (fun z => ?_)) (fun c2 => ?_)
    · rw [fa_eq, k_0] at c
      have := z.2.1
      exact q.2.mpr (by omega) c
    rw [fa_eq, k_0] at c2
    have xb := q.2.mp c2
    refine pc_calp (pc_ok s_isIn) (fun v16 q => ?_)
    rw [Int32.toInt_toInt64, i64_0, k5] at q
    refine pc_ite (fun c => hk2 (fun z => ?_)) (fun c3 => ?_)
    · rw [fa_eq, k_0] at c
      exact q.2.mpr z.2.2 c
    · rw [fa_eq, k_0] at c3
      exact hk 0 (Or.inr ⟨k_0, c1, by omega, q.2.mp c3⟩)
/-- both sides: they throw alike, and answer alike -/
theorem R_instruction {σ s : Sto} (h : JT4 σ s) (a b : Int32) : ∃ w s2, f_X12_instruction_ a b s = some (w, s2) ∧ JT4 σ s2 ∧ ((XIN a b σ ∧ (s2.1 0 0).toInt = 0 ∧ f_X11_instruction a b σ = some w) ∨ (¬ XIN a b σ ∧ (s2.1 0 0).toInt = 1)) := by
  have k_0 : (0 : Int32).toInt = 0 := by decide +kernel
  have k_5 : (5 : Int32).toInt = 5 := by decide +kernel
  obtain ⟨w, s2, y, z⟩ := Q_instruction h a b
  refine ⟨w, s2, y, z, ?_⟩
  have M := t_insM h.1.1.2.1.1 _ y
  (try dsimp only at M)
  have g4 := gX_4 h.1.1.1.1 0
  have hx : XIN a b σ ↔ ((σ.1 0 0).toInt ≠ 0 ∧ (0 ≤ a.toInt ∧ a.toInt < (σ.1 4 0).toInt) ∧ 0 ≤ b.toInt ∧ b.toInt ≤ 5) := by
    unfold XIN
    rw [fa_lt, fa_lt, fa_le, fa_le, k_0, k_5]
    have e : σ.1 0 0 ≠ 0 ↔ (σ.1 0 0).toInt ≠ 0 := by
      show ¬ (σ.1 0 0 = 0) ↔ _
      rw [fa_eq, k_0]
    rw [e]
    omega
  rcases h.1.2 with ⟨l1, l2⟩ | ⟨l1, l2, l3, l4, l5, l6, l7, l8⟩
  · right
    refine ⟨fun c => (hx.mp c).1 l1, ?_⟩
    rcases M with m | m
    · exact m.1
    · exact absurd l2 m.2.1.1
  have hq : XIN a b σ ↔ XIM a b s := by
    rw [hx]
    unfold XIM
    rw [l3]
    exact ⟨fun c => ⟨l2, c.2⟩, fun c => ⟨l1, c.2⟩⟩
  rcases M with ⟨m1, m2⟩ | ⟨m1, m2, m3⟩
  · exact Or.inr ⟨fun c => m2 (hq.mp c), m1⟩
  left
  have X := hq.mpr m2
  refine ⟨X, m1, ?_⟩
  obtain ⟨v, x, _⟩ := s_X11_instruction (a := a) (b := b) h.1.1.1.1 X
  have K := t_insX X g4.2 v x
  rw [x]
  refine congrArg some (Int32.toInt_inj.mp ?_)
  obtain ⟨_, ⟨a0, a1⟩, b0, b5⟩ := m2
  obtain ⟨n, q2, q3, q4⟩ := h.eqe l1
  have lv := (h.live l1).2
  have hi : a.toNatClampNeg < (s.1 15 0).toInt.toNat := by
    have := clamp_I a0
    omega
  have li := l5 _ hi
  have hn := gM_15 h.1.1.2.1.1 0
  have e5 : hoP (s.1 16 0).toInt.toNat (ri (σ.1 9)) (ri (σ.1 10)) a.toNatClampNeg = hoP (s.1 16 0).toInt.toNat (ri (h3 (s.1 11) 0)) (ri (h3 (s.1 11) 1)) a.toNatClampNeg := fsP_cong (fun j hj => by
    have q := l6 j hj
    unfold ri
    rw [q.1, q.2.1])
  rw [l4] at K
  refine (K.cg (sg2 := ri (s.1 9)) (nm2 := ri (s.1 10)) (dp2 := ri (s.1 20)) (ob2 := ri (s.1 24)) (fr2 := ri (h3 (s.1 11) 0)) (up2 := ri (h3 (s.1 11) 1)) (dd2 := fun i => (s.1 57 i).toInt ≠ 0) ?_ ?_ ?_ ?_ e5 (lv _ (by omega))).uq m3 b0 b5
  · unfold ri; rw [li.1]
  · unfold ri; rw [li.2]
  · have d : mk (nC s) (σ.1 8) = dP s := l7
    have d1 := congrFun d a.toNatClampNeg
    unfold mk at d1
    rw [if_pos hi] at d1
    have d2 : dP s a.toNatClampNeg = (s.1 20 a.toNatClampNeg).toInt := by
      unfold dP mk
      exact if_pos hi
    exact d1.trans d2
  · exact q3 _ hi
