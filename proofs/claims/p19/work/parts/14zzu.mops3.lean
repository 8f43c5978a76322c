section
variable {b : BTy} {n : Nat} {σ : Sto} {tr : Nat → Term} {P : PSt}
theorem m_lifts {x1 x2 : Int32} {c : Bool} (h : RLM b σ n tr P) (hx : VSg x1.toInt) (hz : x1.toInt ≠ 122) (h2 : x1.toInt = 115 ∨ x1.toInt = 108 → 0 ≤ x2.toInt) (p1 : 0 ≤ x1.toInt ∧ x1.toInt ≤ 255) : PC (f_X12_lifts x1 x2 σ) (RMA b MNU σ n tr (pStep x1 x2 c P)) := by
  have k_0 : (0 : Int32).toInt = 0 := by decide +kernel
  have k_1 : (1 : Int32).toInt = 1 := by decide +kernel
  have k_4 : (4 : Int32).toInt = 4 := by decide +kernel
  have k_5 : (5 : Int32).toInt = 5 := by decide +kernel
  have k_6 : (6 : Int32).toInt = 6 := by decide +kernel
  -- a leaf
  have leaf : ∀ (k w : Int32) (t : Term), mkM k w 0 tr = t → WFM k w 0 n → pStep x1 x2 c P = pPush t P → PC (calv (f_X12_makes k w 0 σ) fun v s => cals (f_X12_lays v s) fun s_7 => some s_7) (RMA b MNU σ n tr (pStep x1 x2 c P)) := by
    intro k w t m1 m2 m3
    refine pc_calv (m_makes h.1 m2) (fun v s q => ?_)
    obtain ⟨q1, tr2, q2, q3, q4⟩ := q
    (try dsimp only at q1 q2 q4)
    rw [m1] at q4
    refine pc_cals (m_lays (h.pool q1 q2 q3) q4) (fun s7 u => ?_)
    rw [m3]
    exact pc_ret ⟨FR.cal (FR.cal FR.rf q1 rfl rfl) u.1 rfl rfl, _, tr2, u.2, q3⟩
  -- of one
  have one : ∀ (k : Int32) (f : Term → Term), (k.toInt = 5 ∨ k.toInt = 6) → (∀ v, mkM k v 0 tr = f (tr v.toNatClampNeg)) → pStep x1 x2 c P = pPush (f (pTop P)) (pPop P) → PC (calv (f_X12_pops_ σ) fun v_2 s_2 => calv (f_X12_makes k v_2 0 s_2) fun v s => cals (f_X12_lays v s) fun s_7 => some s_7) (RMA b MNU σ n tr (pStep x1 x2 c P)) := by
    intro k f hk m1 m3
    refine pc_calv (m_pop h) (fun v2 s2 w => ?_)
    obtain ⟨w1, w2, w3, _⟩ := w
    (try dsimp only at w1 w2 w3)
    obtain ⟨e, v1, v2_, v3, v4⟩ := w3.so
    refine pc_calv (m_makes w2.1 (Or.inr (Or.inr (Or.inr (Or.inl ⟨hk, by omega, by omega⟩))))) (fun v s q => ?_)
    obtain ⟨q1, tr2, q2, q3, q4⟩ := q
    (try dsimp only at q1 q2 q4)
    rw [m1, v4, v3] at q4
    refine pc_cals (m_lays (w2.pool q1 q2 q3) q4) (fun s7 u => ?_)
    rw [m3]
    exact pc_ret ⟨FR.cal (FR.cal (FR.cal FR.rf w1 rfl rfl) q1 rfl rfl) u.1 rfl rfl, _, tr2, u.2, q3⟩
  unfold f_X12_lifts
  refine pc_ite (fun z => ?_) (fun c1 => ?_)
  · exact one 5 .length (Or.inl k_5) (fun v => mkM_5 k_5) (pStep_33 z)
  refine pc_ite (fun z => ?_) (fun c2 => ?_)
  · rw [pStep_100 z]
    exact pc_cals (m_doubles h) (fun s u => pc_ret u)
  refine pc_ite (fun z => ?_) (fun c3 => ?_)
  · exact leaf 4 0 .null (mkM_4 k_4) (Or.inr (Or.inr (Or.inl k_4))) (pStep_105 z)
  refine pc_ite (fun z => ?_) (fun c4 => ?_)
  · exact leaf 0 x2 (.int x2) (mkM_0 k_0) (Or.inl k_0) (pStep_107 z)
  refine pc_ite (fun z => ?_) (fun c5 => ?_)
  · exact leaf 1 x2 (.arg x2.toNatClampNeg) (mkM_1 k_1) (Or.inr (Or.inl ⟨Or.inl k_1, h2 (Or.inr z)⟩)) (pStep_108 z)
  refine pc_ite (fun z => ?_) (fun c6 => ?_)
  · exact one 6 .sum (Or.inr k_6) (fun v => mkM_6 k_6) (pStep_110 z)
  refine pc_ite (fun z => ?_) (fun c7 => ?_)
  · rw [pStep_112 z]
    refine pc_calv (m_pop h) (fun v2 s2 w => ?_)
    obtain ⟨w1, w2, w3, _⟩ := w
    (try dsimp only at w1 w2 w3)
    refine pc_cals (m_alone w2 w3) (fun s u => pc_ret ?_)
    exact RMA.cal (FR.cal FR.rf w1 rfl rfl) EXT.rf u rfl
  refine pc_ite (fun z => ?_) (fun c8 => ?_)
  · rw [pStep_119 z]
    exact pc_cals (m_changes h) (fun s u => pc_ret u)
  refine pc_calp (pc_ok (s_X12_isOneOf_s108 (x1 := x1) p1)) (fun v18 h18 => ?_)
  refine pc_ite (fun c9 => ?_) (fun c9 => ?_)
  · rw [fa_eq, k_0] at c9
    have n18 : ¬ (x1.toInt = 43 ∨ x1.toInt = 45 ∨ x1.toInt = 42 ∨ x1.toInt = 47 ∨ x1.toInt = 37 ∨ x1.toInt = 60 ∨ x1.toInt = 61) := fun z => by have := h18.2.mpr z; omega
    exact pc_cals (m_tells h (by omega) (fun z => h2 (Or.inl z))) (fun s u => pc_ret u)
  · rw [fa_eq, k_0] at c9
    have h181 := h18.1
    have b18 := h18.2.mp (by omega)
    have gb : isBi x1.toInt := by omega
    refine pc_calv (m_pop h) (fun va s1 w => ?_)
    obtain ⟨w1, w2, w3, _⟩ := w
    (try dsimp only at w1 w2 w3)
    refine pc_calv (m_pop w2) (fun vb s2 u => ?_)
    obtain ⟨u1, u2, u3, _⟩ := u
    (try dsimp only at u1 u2 u3)
    obtain ⟨e1, a1, a2, a3, a4⟩ := w3.so
    obtain ⟨e2, b1, b2, b3, b4⟩ := u3.so
    refine pc_calv (m_makes u2.1 (Or.inr (Or.inr (Or.inr (Or.inr ⟨gb, ⟨by omega, by omega⟩, by omega, by omega⟩))))) (fun v s q => ?_)
    obtain ⟨q1, tr2, q2, q3, q4⟩ := q
    (try dsimp only at q1 q2 q4)
    rw [mkM_b gb, a4, a3, b4, b3] at q4
    refine pc_cals (m_lays (u2.pool q1 q2 q3) q4) (fun s7 y => ?_)
    rw [pStep_b gb]
    exact pc_ret ⟨FR.cal (FR.cal (FR.cal (FR.cal FR.rf w1 rfl rfl) u1 rfl rfl) q1 rfl rfl) y.1 rfl rfl, _, tr2, y.2, q3⟩
theorem PLM.bin {e : Nat} {g : Int32} {l r : Term} (h : PLM σ n tr) (he : e < n) (q : tr e = bn g l r) : isBi g.toInt ∧ σ.1 38 e = g ∧ EXV (σ.1 39 e) e tr (some l) ∧ EXV (σ.1 40 e) e tr (some r) := by
  rcases h.ways he with ⟨w, l', r', w1, w2, w3⟩ | ⟨_, l', w1, _⟩ | ⟨_, _, w1, _⟩
  · rw [q] at w1
    obtain ⟨q1, q2⟩ := Term.add.inj w1
    obtain ⟨q3, q4⟩ := Term.sub.inj q2
    have q5 := Term.int.inj q1
    rw [q3, q4, q5]
    exact ⟨w, rfl, w2, w3⟩
  · rw [q] at w1
    rcases w1 with z | z
    · exact absurd z.1 (by simp)
    · exact absurd z.1 (by simp)
  · rw [q] at w1
    exact absurd w1 (by simp [kdl])
/-- what with answers -/
def WTA (σ : Sto) (n : Nat) (tr : Nat → Term) (k x : Nat) (t : Term) (r : Int32 × Sto) : Prop := FR MNP [] σ r.2 ∧ ∃ n2 tr2, PLM r.2 n2 tr2 ∧ EXT n tr n2 tr2 ∧ EXV r.1 n2 tr2 (some (tRp k x t))
end
theorem m_with {k x : Int32} (h0 : 0 ≤ k.toInt) (hx : 0 ≤ x.toInt) : ∀ (d : Nat) (v : Int32) (σ : Sto) (n : Nat) (tr : Nat → Term) (t : Term), PLM σ n tr → EXV v n tr (some t) → PC (f_X12_with d v k x σ) (WTA σ n tr k.toNatClampNeg x.toNatClampNeg t)
  | 0, _, _, _, _, _, _, _ => pc_no
  | d + 1, v, σ, n, tr, t, h, hv => by
    have k_2 : (2 : Int32).toInt = 2 := by decide +kernel
    have k_3 : (3 : Int32).toInt = 3 := by decide +kernel
    obtain ⟨e, v1, v2, v3, v4⟩ := hv.so
    have ways := h.ways v2
    rw [v3] at ways
    have one := m_isOne (σ := σ) (v := v)
    have both := m_isBoth (σ := σ) (v := v)
    rw [v4] at one both
    show PC (b_X12_with (g_X12_with d) v k x σ) _
    unfold b_X12_with
    refine pc_calp one (fun w1 h1 => ?_)
    refine pc_ite (fun c1 => ?_) (fun c1 => ?_)
    · have n1 := h1.mp c1
      refine pc_calp both (fun w3 h3 => ?_)
      refine pc_ite (fun c3 => ?_) (fun c3 => ?_)
      · have n3 := h3.mp c3
        rcases ways with ⟨w_, _⟩ | ⟨w_, _⟩ | ⟨w0, w4, wk, _⟩
        · omega
        · exact absurd w_ n1
        · have lf := (NMQ.tn h h0).2.2.2 e v2 w4 w0
          rw [v3] at lf
          refine pc_ix (fun _ => ?_)
          rw [v4]
          refine pc_lt fun w5 e5 => ?_
          subst e5
          refine pc_jnI0 (¬ (σ.1 38 e = 2 ∧ σ.1 39 e = k)) (fun z => ?_) (fun kk hk => ?_)
          · refine pc_ret ⟨FR.rf, n, tr, h, EXT.rf, ?_⟩
            rw [tRp_id _ _ _ (bf (fun y => z (lf.mp y)))]
            exact hv
          · refine pc_ite (fun c => ?_) (fun c => hk (fun z => c z.1))
            refine pc_ix (fun _ => ?_)
            refine pc_lt fun w8 e8 => ?_
            subst e8
            refine pc_ite (fun c2 => ?_) (fun c2 => hk (fun z => c2 z.2))
            refine pc_calv (m_makes h (Or.inr (Or.inl ⟨Or.inr (Or.inr k_3), hx⟩))) (fun v10 s10 q => ?_)
            obtain ⟨q1, tr2, q2, q3, q4⟩ := q
            (try dsimp only at q1 q2 q4)
            rw [mkM_3 k_3] at q4
            refine pc_ret ⟨q1, _, tr2, q2, q3, ?_⟩
            rw [tTn_lf wk (lf.mpr ⟨c, c2⟩), tRp_i, if_pos rfl]
            exact q4
      · have n3 : ¬ (σ.1 38 e).toInt ≤ 6 := fun z => c3 (h3.mpr z)
        rcases ways with ⟨gb, l, r, w1_, w2_, w3_⟩ | ⟨w_, _⟩ | ⟨_, w_, _⟩
        · refine pc_ix (fun _ => ?_)
          rw [v4]
          refine pc_lt fun w11 e11 => ?_
          rw [← e11] at w2_
          refine pc_calv (m_with h0 hx d w11 σ n tr l h (w2_.wk (by omega))) (fun w12 s12 u => ?_)
          obtain ⟨u1, n2, tr2, u2, u3, u5⟩ := u
          (try dsimp only at u1 u2 u5)
          have e2 : tr2 e = bn (σ.1 38 e) l r := by rw [u3.2 e v2, v3, w1_]
          have v2' : e < n2 := Nat.lt_of_lt_of_le v2 u3.1
          have B2 := u2.bin v2' e2
          refine pc_ix (fun _ => ?_)
          refine pc_lt fun g13 eg13 => ?_
          rw [B2.2.1] at eg13
          subst eg13
          refine pc_ix (fun _ => ?_)
          refine pc_lt fun w14 e14 => ?_
          refine pc_calv (m_with h0 hx d w14 s12 n2 tr2 r u2 (by rw [e14]; exact B2.2.2.2.wk (by omega))) (fun w15 s15 y => ?_)
          obtain ⟨y1, n3_, tr3, y2, y3, y5⟩ := y
          (try dsimp only at y1 y2 y5)
          obtain ⟨a1, z1, z2, z3, z4⟩ := (u5.up y3).so
          obtain ⟨a2, x1, x2, x3, x4⟩ := y5.so
          refine pc_calv (m_makes y2 (Or.inr (Or.inr (Or.inr (Or.inr ⟨gb, ⟨by omega, by omega⟩, by omega, by omega⟩))))) (fun v16 s16 q => ?_)
          obtain ⟨q1, tr4, q2, q3, q4⟩ := q
          (try dsimp only at q1 q2 q4)
          rw [mkM_b gb, z4, z3, x4, x3] at q4
          refine pc_ret ⟨FR.cal (FR.cal (FR.cal FR.rf u1 rfl rfl) y1 rfl rfl) q1 rfl rfl, _, tr4, q2, (u3.tr y3).tr q3, ?_⟩
          rw [w1_]
          exact q4
        · omega
        · omega
    · have n1 : (σ.1 38 e).toInt = 5 ∨ (σ.1 38 e).toInt = 6 := Classical.byContradiction fun z => c1 (h1.mpr z)
      rcases ways with ⟨w_, _⟩ | ⟨w_, l, w1_, w2_⟩ | ⟨_, w_, _⟩
      · omega
      · refine pc_ix (fun _ => ?_)
        rw [v4]
        refine pc_lt fun g17 eg17 => ?_
        subst eg17
        refine pc_ix (fun _ => ?_)
        refine pc_lt fun w18 e18 => ?_
        rw [← e18] at w2_
        refine pc_calv (m_with h0 hx d w18 σ n tr l h (w2_.wk (by omega))) (fun w19 s19 u => ?_)
        obtain ⟨u1, n2, tr2, u2, u3, u5⟩ := u
        (try dsimp only at u1 u2 u5)
        obtain ⟨a1, z1, z2, z3, z4⟩ := u5.so
        refine pc_calv (m_makes u2 (Or.inr (Or.inr (Or.inr (Or.inl ⟨n1, by omega, by omega⟩))))) (fun v20 s20 q => ?_)
        obtain ⟨q1, tr4, q2, q3, q4⟩ := q
        (try dsimp only at q1 q2 q4)
        refine pc_ret ⟨FR.cal (FR.cal FR.rf u1 rfl rfl) q1 rfl rfl, _, tr4, q2, u3.tr q3, ?_⟩
        have mk : mkM (σ.1 38 e) w19 0 tr2 = tRp k.toNatClampNeg x.toNatClampNeg t := by
          rcases w1_ with z | z
          · rw [mkM_5 z.2, z4, z3, z.1]; rfl
          · rw [mkM_6 z.2, z4, z3, z.1]; rfl
        rw [mk] at q4
        exact q4
      · omega
