/-- the smallest loop around -/
def innP (L : Nat → Int64) (x : Nat) : Nat → Option Nat
  | 0 => none
  | k + 1 => if bL (L k) x = true then (match innP L x k with
    | none => some k
    | some c => if fb_ct (bL (L c)) 64 ≤ fb_ct (bL (L k)) 64 then some c else some k) else innP L x k
def ONV (o : Option Nat) (v : Int) : Prop := (o = none ∧ v = -1) ∨ ∃ c : Nat, o = some c ∧ v = (c : Int)
theorem ONV.uq {o : Option Nat} {v w : Int} (h : ONV o v) (g : ONV o w) : v = w := by
  rcases h with ⟨h1, h2⟩ | ⟨c, h1, h2⟩
  · rcases g with ⟨g1, g2⟩ | ⟨d, g1, g2⟩
    · rw [h2, g2]
    · rw [h1] at g1; exact absurd g1 (by simp)
  · rcases g with ⟨g1, g2⟩ | ⟨d, g1, g2⟩
    · rw [h1] at g1; exact absurd g1 (by simp)
    · rw [h1] at g1; rw [h2, g2, Option.some.inj g1]
theorem innP_lt {L : Nat → Int64} {x : Nat} : ∀ k c, innP L x k = some c → c < k
  | 0, c, h => absurd h (by simp [innP])
  | k + 1, c, h => by
    unfold innP at h
    by_cases q : bL (L k) x = true
    · rw [if_pos q] at h
      cases w : innP L x k with
      | none =>
        rw [w] at h
        have := Option.some.inj h
        omega
      | some d =>
        rw [w] at h
        have ih := innP_lt k d w
        by_cases y : fb_ct (bL (L d)) 64 ≤ fb_ct (bL (L k)) 64
        · have h : (if fb_ct (bL (L d)) 64 ≤ fb_ct (bL (L k)) 64 then some d else some k) = some c := h
          rw [if_pos y] at h
          have := Option.some.inj h
          omega
        · have h : (if fb_ct (bL (L d)) 64 ≤ fb_ct (bL (L k)) 64 then some d else some k) = some c := h
          rw [if_neg y] at h
          have := Option.some.inj h
          omega
    · rw [if_neg q] at h
      have := innP_lt k c h
      omega
theorem innP_f {L : Nat → Int64} {x k : Nat} (h : ¬ bL (L k) x = true) : innP L x (k + 1) = innP L x k := by
  show (if bL (L k) x = true then _ else innP L x k) = _
  rw [if_neg h]
theorem innP_n {L : Nat → Int64} {x k : Nat} (h : bL (L k) x = true) (g : innP L x k = none) : innP L x (k + 1) = some k := by
  show (if bL (L k) x = true then (match innP L x k with | none => some k | some c => if fb_ct (bL (L c)) 64 ≤ fb_ct (bL (L k)) 64 then some c else some k) else innP L x k) = _
  rw [if_pos h, g]
theorem innP_s {L : Nat → Int64} {x k c : Nat} (h : bL (L k) x = true) (g : innP L x k = some c) : innP L x (k + 1) = if fb_ct (bL (L c)) 64 ≤ fb_ct (bL (L k)) 64 then some c else some k := by
  show (if bL (L k) x = true then (match innP L x k with | none => some k | some c => if fb_ct (bL (L c)) 64 ≤ fb_ct (bL (L k)) 64 then some c else some k) else innP L x k) = _
  rw [if_pos h, g]
theorem t_innermost {σ : Sto} {x : Int32} {n : Nat} (hn : n ≤ 40) (h20 : (σ.1 20 0).toInt = (n : Int)) (hx : 0 ≤ x.toInt ∧ x.toInt < 64) : PC (f_X8_innermost x σ) (fun v => ONV (innP (σ.2 3) x.toNatClampNeg n) v.toInt) := by
  have k_0 : (0 : Int32).toInt = 0 := by decide +kernel
  have k_m1 : ((-1) : Int32).toInt = -1 := by decide +kernel
  unfold f_X8_innermost
  refine pc_itr2 (fun v e => 0 ≤ e.toInt ∧ e.toInt ≤ (n : Int) ∧ ONV (innP (σ.2 3) x.toNatClampNeg e.toNatClampNeg) v.toInt) ?_ (by exact ⟨by omega, by omega, Or.inl ⟨rfl, k_m1⟩⟩)
  intro ag v e I ih
  obtain ⟨e0, en, i3⟩ := I
  have ce := clamp_I e0
  refine pc_ite (fun c => ?_) (fun c => ?_)
  · rw [fa_le, h20] at c
    rw [show e.toNatClampNeg = n by omega] at i3
    exact pc_ret i3
  · rw [fa_le, h20] at c
    have ex : (e + 1).toInt = e.toInt + 1 := i1 (by omega)
    have ce1 : (e + 1).toNatClampNeg = e.toNatClampNeg + 1 := by have := clamp_I (x := e + 1) (by omega); omega
    refine pc_ix (fun _ => ?_)
    refine pc_lt fun v3 e3 => ?_
    subst e3
    refine pc_calp (t_isInB (x := σ.2 3 e.toNatClampNeg) (i := x) hx.1 hx.2) (fun v4 h4 => ?_)
    refine pc_jnI1 (fun y => ONV (innP (σ.2 3) x.toNatClampNeg (e.toNatClampNeg + 1)) y.toInt) (fun y Jy => ?_) (fun k60 hk => ?_)
    · refine pc_lt fun x6 e6 => ?_
      subst e6
      exact ih y (e + 1) ⟨by omega, by omega, by rw [ce1]; exact Jy⟩
    · refine pc_ite (fun c4 => hk v (by rw [innP_f (h4.mp c4)]; exact i3)) (fun c4 => ?_)
      have hb : bL (σ.2 3 e.toNatClampNeg) x.toNatClampNeg = true := Classical.byContradiction fun z => c4 (h4.mpr z)
      refine pc_jnI0 (innP (σ.2 3) x.toNatClampNeg (e.toNatClampNeg + 1) = some e.toNatClampNeg) (fun z => hk e (Or.inr ⟨_, z, ce.symm⟩)) (fun k58 hk58 => ?_)
      refine pc_ite (fun c5 => hk58 ?_) (fun c5 => ?_)
      · rw [fa_eq, k_m1] at c5
        rcases i3 with ⟨q1, q2⟩ | ⟨d, q1, q2⟩
        · exact innP_n hb q1
        · omega
      · rw [fa_eq, k_m1] at c5
        rcases i3 with ⟨q1, q2⟩ | ⟨d, q1, q2⟩
        · exact absurd q2 c5
        · have cv : v.toNatClampNeg = d := by have := clamp_I (x := v) (by omega); omega
          have st := innP_s hb q1
          refine pc_ix (fun _ => ?_)
          refine pc_lt fun v10 e10 => ?_
          subst e10
          refine pc_calp (pc_ok (s_J13_bitCount_95d88 (x1 := σ.2 3 e.toNatClampNeg))) (fun v11 h11 => ?_)
          refine pc_ix (fun _ => ?_)
          rw [cv]
          refine pc_lt fun v12 e12 => ?_
          subst e12
          refine pc_calp (pc_ok (s_J13_bitCount_95d88 (x1 := σ.2 3 d))) (fun v13 h13 => ?_)
          refine pc_ite (fun c6 => hk v ?_) (fun c6 => hk58 ?_)
          · rw [fa_le] at c6
            rw [st, if_pos (by omega)]
            exact Or.inr ⟨d, rfl, q2⟩
          · rw [fa_le] at c6
            rw [st, if_neg (by omega)]
theorem t_loopsRound {σ : Sto} {x : Int32} {n : Nat} (hn : n ≤ 40) (h20 : (σ.1 20 0).toInt = (n : Int)) (hx : 0 ≤ x.toInt ∧ x.toInt < 64) : PC (f_X8_loopsRound x σ) (fun v => v.toInt = (fb_ct (fun y => bL (σ.2 3 y) x.toNatClampNeg) n : Int)) := by
  have k_0 : (0 : Int32).toInt = 0 := by decide +kernel
  unfold f_X8_loopsRound
  refine pc_itr2 (fun v e => 0 ≤ e.toInt ∧ e.toInt ≤ (n : Int) ∧ v.toInt = (fb_ct (fun y => bL (σ.2 3 y) x.toNatClampNeg) e.toNatClampNeg : Int)) ?_ (by exact ⟨by omega, by omega, k_0⟩)
  intro ag v e I ih
  obtain ⟨e0, en, i3⟩ := I
  have ce := clamp_I e0
  have cl := fb_ct_le (fun y => bL (σ.2 3 y) x.toNatClampNeg) e.toNatClampNeg
  refine pc_ite (fun c => ?_) (fun c => ?_)
  · rw [fa_le, h20] at c
    rw [show e.toNatClampNeg = n by omega] at i3
    exact pc_ret i3
  · rw [fa_le, h20] at c
    have ex : (e + 1).toInt = e.toInt + 1 := i1 (by omega)
    have ce1 : (e + 1).toNatClampNeg = e.toNatClampNeg + 1 := by have := clamp_I (x := e + 1) (by omega); omega
    refine pc_ix (fun _ => ?_)
    refine pc_lt fun v3 e3 => ?_
    subst e3
    refine pc_calp (t_isInB (x := σ.2 3 e.toNatClampNeg) (i := x) hx.1 hx.2) (fun v4 h4 => ?_)
    refine pc_jnI1 (fun y => y.toInt = (fb_ct (fun y => bL (σ.2 3 y) x.toNatClampNeg) (e.toNatClampNeg + 1) : Int)) (fun y Jy => ?_) (fun k31 hk => ?_)
    · refine pc_lt fun x6 e6 => ?_
      subst e6
      exact ih y (e + 1) ⟨by omega, by omega, by rw [ce1]; exact Jy⟩
    · refine pc_ite (fun c4 => hk v ?_) (fun c4 => ?_)
      · rw [fb_ct_succ, if_neg (h4.mp c4)]; exact i3
      · refine pc_lt fun x8 e8 => ?_
        refine hk x8 ?_
        rw [e8, fb_ct_succ, if_pos (Classical.byContradiction fun z => c4 (h4.mpr z)), i1 (by omega)]
        omega
theorem m_ones {x : Int64} : PC (f_X12_ones x) (fun v => v.toInt = (fb_ct (bL x) 40 : Int)) := by
  have k_0 : (0 : Int32).toInt = 0 := by decide +kernel
  have k_1 : (1 : Int32).toInt = 1 := by decide +kernel
  have k_40 : (40 : Int32).toInt = 40 := by decide +kernel
  unfold f_X12_ones
  refine pc_itr2 (fun v e => 0 ≤ e.toInt ∧ e.toInt ≤ 40 ∧ v.toInt = (fb_ct (bL x) e.toNatClampNeg : Int)) ?_ (by exact ⟨by omega, by omega, k_0⟩)
  intro ag v e I ih
  obtain ⟨e0, en, i3⟩ := I
  have ce := clamp_I e0
  have cl := fb_ct_le (bL x) e.toNatClampNeg
  refine pc_ite (fun c => ?_) (fun c => ?_)
  · rw [fa_le, k_40] at c
    rw [show e.toNatClampNeg = 40 by omega] at i3
    exact pc_ret i3
  · rw [fa_le, k_40] at c
    have ex : (e + 1).toInt = e.toInt + 1 := i1 (by omega)
    have ce1 : (e + 1).toNatClampNeg = e.toNatClampNeg + 1 := by have := clamp_I (x := e + 1) (by omega); omega
    refine pc_calp (t_hasM (x := x) (v := e) e0 (by omega)) (fun v3 h3 => ?_)
    refine pc_jnI1 (fun t => t.toInt = if bL x e.toNatClampNeg = true then 1 else 0) (fun t ht => ?_) (fun k24 hk => ?_)
    · refine pc_lt fun x5 e5 => ?_
      refine pc_lt fun x6 e6 => ?_
      subst e6
      refine ih x5 (e + 1) ⟨by omega, by omega, ?_⟩
      rw [ce1, fb_ct_succ, e5]
      by_cases q : bL x e.toNatClampNeg = true
      · rw [if_pos q] at ht ⊢
        rw [fb_addI (by omega) (by omega)]
        omega
      · rw [if_neg q] at ht ⊢
        rw [fb_addI (by omega) (by omega)]
        omega
    · refine pc_ite (fun c3 => hk 0 ?_) (fun c3 => hk 1 ?_)
      · rw [if_neg (by rw [h3.mp c3]; decide)]; exact k_0
      · rw [if_pos (Classical.byContradiction fun z => c3 (h3.mpr (bf z)))]; exact k_1
theorem ct_40 {x : Int64} {n : Nat} (hn : n ≤ 40) (h : ∀ i, bL x i = true → i < n) : fb_ct (bL x) 40 = fb_ct (bL x) 64 := by
  have q := fb_ct_split (bL x) 40 24
  have z : fb_ct (fun k => bL x (40 + k)) 24 = 0 := fb_ct_zero.mpr (fun k _ => bf (fun y => by
    have := h _ y
    omega))
  rw [z] at q
  exact q.symm
theorem m_innermost {s : Sto} {x : Int32} {n : Nat} (hn : n ≤ 40) (h26 : (s.1 26 0).toInt = (n : Int)) (hx : 0 ≤ x.toInt ∧ x.toInt < 64) (hL : ∀ b, b < n → ∀ i, bL (s.2 1 b) i = true → i < n) : PC (f_X12_innermost x s) (fun v => ONV (innP (s.2 1) x.toNatClampNeg n) v.toInt) := by
  have k_0 : (0 : Int32).toInt = 0 := by decide +kernel
  have k_m1 : ((-1) : Int32).toInt = -1 := by decide +kernel
  unfold f_X12_innermost
  refine pc_itr2 (fun v e => 0 ≤ e.toInt ∧ e.toInt ≤ (n : Int) ∧ ONV (innP (s.2 1) x.toNatClampNeg e.toNatClampNeg) v.toInt) ?_ (by exact ⟨by omega, by omega, Or.inl ⟨rfl, k_m1⟩⟩)
  intro ag v e I ih
  obtain ⟨e0, en, i3⟩ := I
  have ce := clamp_I e0
  refine pc_ite (fun c => ?_) (fun c => ?_)
  · rw [fa_le, h26] at c
    rw [show e.toNatClampNeg = n by omega] at i3
    exact pc_ret i3
  · rw [fa_le, h26] at c
    have ex : (e + 1).toInt = e.toInt + 1 := i1 (by omega)
    have ce1 : (e + 1).toNatClampNeg = e.toNatClampNeg + 1 := by have := clamp_I (x := e + 1) (by omega); omega
    refine pc_ix (fun _ => ?_)
    refine pc_lt fun v3 e3 => ?_
    subst e3
    refine pc_calp (t_hasM (x := s.2 1 e.toNatClampNeg) (v := x) hx.1 hx.2) (fun v4 h4 => ?_)
    refine pc_jnI1 (fun y => ONV (innP (s.2 1) x.toNatClampNeg (e.toNatClampNeg + 1)) y.toInt) (fun y Jy => ?_) (fun k53 hk => ?_)
    · refine pc_lt fun x6 e6 => ?_
      subst e6
      exact ih y (e + 1) ⟨by omega, by omega, by rw [ce1]; exact Jy⟩
    · refine pc_ite (fun c4 => hk v (by rw [innP_f (by rw [h4.mp c4]; decide)]; exact i3)) (fun c4 => ?_)
      have hb : bL (s.2 1 e.toNatClampNeg) x.toNatClampNeg = true := Classical.byContradiction fun z => c4 (h4.mpr (bf z))
      refine pc_jnI0 (innP (s.2 1) x.toNatClampNeg (e.toNatClampNeg + 1) = some e.toNatClampNeg) (fun z => hk e (Or.inr ⟨_, z, ce.symm⟩)) (fun k51 hk51 => ?_)
      refine pc_ite (fun c5 => hk51 ?_) (fun c5 => ?_)
      · rw [fa_eq, k_m1] at c5
        rcases i3 with ⟨q1, q2⟩ | ⟨d, q1, q2⟩
        · exact innP_n hb q1
        · omega
      · rw [fa_eq, k_m1] at c5
        rcases i3 with ⟨q1, q2⟩ | ⟨d, q1, q2⟩
        · exact absurd q2 c5
        · have cv : v.toNatClampNeg = d := by have := clamp_I (x := v) (by omega); omega
          have st := innP_s hb q1
          have dl := innP_lt _ _ q1
          have s1 := ct_40 hn (hL e.toNatClampNeg (by omega))
          have s2 := ct_40 hn (hL d (by omega))
          refine pc_ix (fun _ => ?_)
          refine pc_lt fun v10 e10 => ?_
          subst e10
          refine pc_calp m_ones (fun v11 h11 => ?_)
          refine pc_ix (fun _ => ?_)
          rw [cv]
          refine pc_lt fun v12 e12 => ?_
          subst e12
          refine pc_calp m_ones (fun v13 h13 => ?_)
          refine pc_ite (fun c6 => hk v ?_) (fun c6 => hk51 ?_)
          · rw [fa_le] at c6
            rw [st, if_pos (by omega)]
            exact Or.inr ⟨d, rfl, q2⟩
          · rw [fa_le] at c6
            rw [st, if_neg (by omega)]
theorem m_loopsOf {s : Sto} {x : Int32} {n : Nat} (hn : n ≤ 40) (h26 : (s.1 26 0).toInt = (n : Int)) (hx : 0 ≤ x.toInt ∧ x.toInt < 64) : PC (f_X12_loopsOf x s) (fun v => v.toInt = (fb_ct (fun y => bL (s.2 1 y) x.toNatClampNeg) n : Int)) := by
  have k_0 : (0 : Int32).toInt = 0 := by decide +kernel
  have k_1 : (1 : Int32).toInt = 1 := by decide +kernel
  unfold f_X12_loopsOf
  refine pc_itr2 (fun v e => 0 ≤ e.toInt ∧ e.toInt ≤ (n : Int) ∧ v.toInt = (fb_ct (fun y => bL (s.2 1 y) x.toNatClampNeg) e.toNatClampNeg : Int)) ?_ (by exact ⟨by omega, by omega, k_0⟩)
  intro ag v e I ih
  obtain ⟨e0, en, i3⟩ := I
  have ce := clamp_I e0
  have cl := fb_ct_le (fun y => bL (s.2 1 y) x.toNatClampNeg) e.toNatClampNeg
  refine pc_ite (fun c => ?_) (fun c => ?_)
  · rw [fa_le, h26] at c
    rw [show e.toNatClampNeg = n by omega] at i3
    exact pc_ret i3
  · rw [fa_le, h26] at c
    have ex : (e + 1).toInt = e.toInt + 1 := i1 (by omega)
    have ce1 : (e + 1).toNatClampNeg = e.toNatClampNeg + 1 := by have := clamp_I (x := e + 1) (by omega); omega
    refine pc_ix (fun _ => ?_)
    refine pc_lt fun v3 e3 => ?_
    subst e3
    refine pc_calp (t_hasM (x := s.2 1 e.toNatClampNeg) (v := x) hx.1 hx.2) (fun v4 h4 => ?_)
    refine pc_jnI1 (fun t => t.toInt = if bL (s.2 1 e.toNatClampNeg) x.toNatClampNeg = true then 1 else 0) (fun t ht => ?_) (fun k31 hk => ?_)
    · refine pc_lt fun x6 e6 => ?_
      refine pc_lt fun x7 e7 => ?_
      subst e7
      refine ih x6 (e + 1) ⟨by omega, by omega, ?_⟩
      rw [ce1, fb_ct_succ, e6]
      by_cases q : bL (s.2 1 e.toNatClampNeg) x.toNatClampNeg = true
      · rw [if_pos q] at ht ⊢
        rw [fb_addI (by omega) (by omega)]
        omega
      · rw [if_neg q] at ht ⊢
        rw [fb_addI (by omega) (by omega)]
        omega
    · refine pc_ite (fun c3 => hk 0 ?_) (fun c3 => hk 1 ?_)
      · rw [if_neg (by rw [h4.mp c3]; decide)]; exact k_0
      · rw [if_pos (Classical.byContradiction fun z => c3 (h4.mpr (bf z)))]; exact k_1
