theorem t_laysEdge {s : Sto} {x1 x2 x3 : Int32} (h1 : 0 ≤ x1.toInt) (hE : 0 ≤ (s.1 32 0).toInt) : PC (f_X12_laysEdge x1 x2 x3 s) (fun t => (0 ≤ (t.1 32 0).toInt ∧ FR [27, 28, 29, 32] [] s t) ∧ EVw t 32 27 28 29 = leP x1.toNatClampNeg x2.toInt (decide (x3.toInt ≠ 0)) (EVw s 32 27 28 29)) := by
  have k_0 : (0 : Int32).toInt = 0 := by decide +kernel
  have k_1 : (1 : Int32).toInt = 1 := by decide +kernel
  have c1 := clamp_I h1
  have cE := clamp_I hE
  unfold f_X12_laysEdge
  refine pc_itr1 (fun k => 0 ≤ k.toInt ∧ ∀ d : Nat, (d : Int) < k.toInt → ¬ ((s.1 27 d).toInt = x1.toNatClampNeg ∧ (s.1 28 d).toInt = x2.toInt)) ?_ ⟨by omega, fun d hd => by omega⟩
  intro ag k I ih
  obtain ⟨k0, hno⟩ := I
  have ck := clamp_I k0
  refine pc_ite (fun c2 => ?_) (fun c2 => ?_)
  · rw [fa_le] at c2
    obtain ⟨n, hn⟩ : ∃ n : Nat, n = (s.1 32 0).toNatClampNeg := ⟨_, rfl⟩
    have nI_ : (n : Int) = (s.1 32 0).toInt := by rw [hn]; exact cE
    have N : (s.1 32 0).toInt.toNat = n := by omega
    refine pc_ix (fun i6 => ?_)
    rw [← hn]
    refine pc_lt fun s3 e3 => ?_
    have q3 : s3.1 32 = s.1 32 := by rw [e3, sti_o (by decide)]
    rw [q3]
    refine pc_ix (fun _ => ?_)
    rw [← hn]
    refine pc_lt fun s4 e4 => ?_
    have q4 : s4.1 32 = s.1 32 := by rw [e4, sti_o (by decide), q3]
    refine pc_bz (fun _ => ?_)
    rw [q4]
    refine pc_ix (fun _ => ?_)
    rw [← hn]
    refine pc_lt fun s5 e5 => ?_
    have q5 : s5.1 32 = s.1 32 := by rw [e5, sti_o (by decide), q4]
    rw [q5]
    refine pc_lt fun s7 e7 => ?_
    have ei : ((s.1 32 0) + 1).toInt = (s.1 32 0).toInt + 1 := i1 (by omega)
    have r32 : (s7.1 32 0).toInt = (s.1 32 0).toInt + 1 := by rw [e7, sti_s, ei]
    have r27 : ∀ e, s7.1 27 e = if e = n then x1 else s.1 27 e := fun e => by rw [e7, sti_o (by decide), e5, sti_o (by decide), e4, sti_o (by decide), e3, sti_if]
    have r28 : ∀ e, s7.1 28 e = if e = n then x2 else s.1 28 e := fun e => by rw [e7, sti_o (by decide), e5, sti_o (by decide), e4, sti_if, e3, sti_o (by decide)]
    have r29 : ∀ e, s7.1 29 e = if e = n then x3 else s.1 29 e := fun e => by rw [e7, sti_o (by decide), e5, sti_if, e4, sti_o (by decide), e3, sti_o (by decide)]
    have kn : knP (x1.toNatClampNeg : Int) x2.toInt (EVw s 32 27 28 29) = (EVw s 32 27 28 29).1 := knP_no (fun e he z => hno e (by have he : e < (s.1 32 0).toInt.toNat := he; omega) z)
    refine pc_ret ⟨⟨by rw [r32]; omega, ?_⟩, ?_⟩
    · rw [e7]; refine FR.st ?_ (by decide)
      rw [e5]; refine FR.st ?_ (by decide)
      rw [e4]; refine FR.st ?_ (by decide)
      rw [e3]; exact FR.st FR.rf (by decide)
    · unfold leP
      rw [if_neg (by rw [kn]; exact Nat.lt_irrefl _)]
      have a1 : (s7.1 32 0).toInt.toNat = (s.1 32 0).toInt.toNat + 1 := by omega
      have a2 : ri (s7.1 27) = upI (ri (s.1 27)) (s.1 32 0).toInt.toNat x1.toNatClampNeg := funext fun e => by
        unfold ri upI
        rw [r27, N]
        by_cases q : e = n
        · rw [if_pos q, if_pos q]; omega
        · rw [if_neg q, if_neg q]
      have a3 : ri (s7.1 28) = upI (ri (s.1 28)) (s.1 32 0).toInt.toNat x2.toInt := funext fun e => by
        unfold ri upI
        rw [r28, N]
        by_cases q : e = n
        · rw [if_pos q, if_pos q]
        · rw [if_neg q, if_neg q]
      have a4 : (fun e => decide ((s7.1 29 e).toInt ≠ 0)) = (fun e => if e = (s.1 32 0).toInt.toNat then decide (x3.toInt ≠ 0) else decide ((s.1 29 e).toInt ≠ 0)) := funext fun e => by
        rw [r29, N]
        by_cases q : e = n
        · rw [if_pos q, if_pos q]
        · rw [if_neg q, if_neg q]
      unfold EVw
      rw [a1, a2, a3, a4]
  · rw [fa_le] at c2
    refine pc_ix (fun ik => ?_)
    have ex : (k + 1).toInt = k.toInt + 1 := i1 (by omega)
    have cont : ¬ ((s.1 27 k.toNatClampNeg).toInt = x1.toNatClampNeg ∧ (s.1 28 k.toNatClampNeg).toInt = x2.toInt) → PC (lt (k + 1) fun x4_10 => ag x4_10) (fun t => (0 ≤ (t.1 32 0).toInt ∧ FR [27, 28, 29, 32] [] s t) ∧ EVw t 32 27 28 29 = leP x1.toNatClampNeg x2.toInt (decide (x3.toInt ≠ 0)) (EVw s 32 27 28 29)) := fun hno2 => pc_lt fun x10 e10 => by
      subst e10
      refine ih (k + 1) ⟨by omega, fun d hd => ?_⟩
      by_cases q : d = k.toNatClampNeg
      · rw [q]; exact hno2
      · exact hno d (by omega)
    refine pc_lt fun v8 e8 => ?_
    refine pc_jn ?_
    refine pc_ite (fun c3 => ?_) (fun c3 => ?_)
    · rw [fa_eq, e8] at c3
      refine pc_ix (fun _ => ?_)
      refine pc_lt fun v12 e12 => ?_
      refine pc_ite (fun c4 => ?_) (fun c4 => ?_)
      · rw [fa_eq, e12] at c4
        have kn : knP (x1.toNatClampNeg : Int) x2.toInt (EVw s 32 27 28 29) = k.toNatClampNeg := knP_at (by show _ < (s.1 32 0).toInt.toNat; omega) (by show (s.1 27 _).toInt = _; omega) c4 (fun d hd z => hno d (by omega) z)
        have fin : ∀ u : Int32, (u.toInt ≠ 0 ↔ ((s.1 29 k.toNatClampNeg).toInt ≠ 0 ∨ x3.toInt ≠ 0)) → PC (ix 120 k <| lt (sti s 29 k.toNatClampNeg u) fun s_16 => some s_16) (fun t => (0 ≤ (t.1 32 0).toInt ∧ FR [27, 28, 29, 32] [] s t) ∧ EVw t 32 27 28 29 = leP x1.toNatClampNeg x2.toInt (decide (x3.toInt ≠ 0)) (EVw s 32 27 28 29)) := fun u hu => by
          refine pc_ix (fun _ => ?_)
          refine pc_lt fun s15 e15 => ?_
          have o : ∀ j, j ≠ 29 → s15.1 j = s.1 j := fun j hj => by rw [e15, sti_o hj]
          refine pc_ret ⟨⟨by rw [o 32 (by decide)]; exact hE, by rw [e15]; exact FR.st FR.rf (by decide)⟩, ?_⟩
          unfold leP
          rw [if_pos (by rw [kn]; show _ < (s.1 32 0).toInt.toNat; omega), kn]
          have a4 : (fun e => decide ((s15.1 29 e).toInt ≠ 0)) = (fun e => decide ((s.1 29 e).toInt ≠ 0) || (decide (e = k.toNatClampNeg) && decide (x3.toInt ≠ 0))) := funext fun e => by
            rw [e15, sti_if]
            by_cases q : e = k.toNatClampNeg
            · rw [if_pos q, q, decide_eq_true (rfl : k.toNatClampNeg = k.toNatClampNeg), Bool.true_and, ← Bool.decide_or]
              exact decide_eq_decide.mpr hu
            · rw [if_neg q, decide_eq_false q, Bool.false_and, Bool.or_false]
          unfold EVw
          rw [a4, o 32 (by decide), o 27 (by decide), o 28 (by decide)]
        refine pc_ix (fun _ => ?_)
        refine pc_lt fun v14 e14 => ?_
        refine pc_jn ?_
        refine pc_ite (fun c5 => ?_) (fun c5 => ?_)
        · rw [fa_eq, k_0, e14] at c5
          refine pc_ite (fun c6 => fin 0 ?_) (fun c6 => fin 1 ?_)
          · rw [fa_eq, k_0] at c6; omega
          · rw [fa_eq, k_0] at c6; omega
        · rw [fa_eq, k_0, e14] at c5
          exact fin 1 (by omega)
      · rw [fa_eq, e12] at c4
        exact cont (fun z => c4 z.2)
    · rw [fa_eq, e8] at c3
      exact cont (fun z => c3 (by have := z.1; omega))
abbrev obR (σ : Sto) : Nat → Int := ri (σ.1 24)
abbrev caR (σ : Sto) (b : Nat) : Int → Prop := CAT (nH σ) (sG σ) (fR σ) (uP σ) (gO σ) (obR σ) (fiR σ b) (laR σ b)
/-- a handler among the first ones of a block -/
def CAP (σ : Sto) (f i : Nat) (v : Int) : Prop := (v = -1 ∧ ∀ j, f ≤ j → j < i → ¬ (cThI (sG σ j) ∧ hoP (nH σ) (fR σ) (uP σ) j < nH σ)) ∨ ∃ j, f ≤ j ∧ j < i ∧ (cThI (sG σ j) ∧ hoP (nH σ) (fR σ) (uP σ) j < nH σ) ∧ v = obR σ (gO σ (hoP (nH σ) (fR σ) (uP σ) j)).toNat
theorem handlerOf_cg {σ u : Sto} (e : u.1 11 = σ.1 11) (a b : Int32) : f_X12_handlerOf_handler a b u = f_X12_handlerOf_handler a b σ := by
  unfold f_X12_handlerOf_handler
  rw [e]
theorem t_laysEdges {σ : Sto} (hB : BM σ) (hQ : QL σ) (hK : BK σ) : PC (f_X12_laysEdges σ) (fun s => (∃ V : EVt, V.1 = 0 ∧ EVw s 32 27 28 29 = edP (sG σ) (nM σ) (obR σ) (laR σ) (ri (s.1 25)) (nB σ) V) ∧ ∀ b, b < nB σ → caR σ b (s.1 25 b).toInt) := by
  have k_0 : (0 : Int32).toInt = 0 := by decide +kernel
  have k_1 : (1 : Int32).toInt = 1 := by decide +kernel
  have k_2 : (2 : Int32).toInt = 2 := by decide +kernel
  have k_3 : (3 : Int32).toInt = 3 := by decide +kernel
  have k_m1 : ((-1) : Int32).toInt = -1 := by decide +kernel
  have hn := nB_le hB
  unfold f_X12_laysEdges
  refine pc_lt fun s1 e1 => ?_
  have z32 : (s1.1 32 0).toInt = 0 := by rw [e1, sti_s]; exact k_0
  refine pc_itr2 (fun x s => 0 ≤ x.toInt ∧ x.toInt ≤ (nB σ : Int) ∧ FR FE_ [] σ s ∧ 0 ≤ (s.1 32 0).toInt ∧ EVw s 32 27 28 29 = edP (sG σ) (nM σ) (obR σ) (laR σ) (ri (s.1 25)) x.toNatClampNeg (EVw s1 32 27 28 29) ∧ ∀ b, b < x.toNatClampNeg → caR σ b (s.1 25 b).toInt) ?_ ⟨by omega, by omega, by rw [e1]; exact FR.st FR.rf (by decide), by omega, rfl, fun b hb => absurd hb (Nat.not_lt_zero _)⟩
  intro ag x s I ih
  obtain ⟨x0, xb, b2, bE, b3, b4⟩ := I
  have cx := clamp_I x0
  have e26 : s.1 26 = σ.1 26 := frE b2 (by decide)
  refine pc_ite (fun c1 => ?_) (fun c1 => ?_)
  · rw [fa_le, e26] at c1
    have xe : x.toNatClampNeg = nB σ := by omega
    rw [xe] at b3 b4
    exact pc_ret ⟨⟨_, by show (s1.1 32 0).toInt.toNat = 0; rw [z32]; rfl, b3⟩, b4⟩
  rw [fa_le, e26] at c1
  have hb : x.toNatClampNeg < nB σ := by omega
  have ex : (x + 1).toInt = x.toInt + 1 := i1 (by omega)
  have nx : (x + 1).toNatClampNeg = x.toNatClampNeg + 1 := by have := clamp_I (x := x + 1) (by omega); omega
  obtain ⟨k1, k2, k3, k4, k5, k6, k7, k8, k9⟩ := hK.at_ hB hQ hb
  have hC := nC_le hB
  have g9 := gM_9 hB (laR σ x.toNatClampNeg)
  have g16 := gM_16 hB 0
  have c23 : (σ.1 23 x.toNatClampNeg).toNatClampNeg = laR σ x.toNatClampNeg := rfl
  refine pc_ix (fun xi => ?_)
  rw [frE b2 (show (23 : Nat) < 25 ∨ 23 = 26 ∨ 32 < 23 by decide)]
  refine pc_lt fun v4 e4 => ?_
  subst e4
  refine pc_ix (fun _ => ?_)
  rw [c23, frE b2 (show (9 : Nat) < 25 ∨ 9 = 26 ∨ 32 < 9 by decide)]
  refine pc_lt fun v5 e5 => ?_
  have e5' : v5.toInt = sG σ (laR σ x.toNatClampNeg) := by rw [e5]; rfl
  refine pc_calp (pc_ok (s_X12_goesOn (x1 := v5) (by rw [e5]; exact g9))) (fun v6 h6 => ?_)
  rw [e5'] at h6
  have h61 := h6.1
  refine pc_jnI1 (fun t => FR FE_ [] σ t ∧ 0 ≤ (t.1 32 0).toInt ∧ t.1 25 = s.1 25 ∧ EVw t 32 27 28 29 = eb1 (sG σ) (obR σ) (laR σ x.toNatClampNeg) x.toNatClampNeg (EVw s 32 27 28 29)) (fun t I => ?_) (fun k hk => ?_)
  · obtain ⟨t1, tE, t2, t3⟩ := I
    refine pc_calp (pc_ok (s_X12_goesTo (x1 := v5) (by rw [e5]; exact g9))) (fun v8 h8 => ?_)
    rw [e5'] at h8
    have h81 := h8.1
    refine pc_jnI1 (fun t => FR FE_ [] σ t ∧ 0 ≤ (t.1 32 0).toInt ∧ t.1 25 = s.1 25 ∧ EVw t 32 27 28 29 = eb2 (sG σ) (nM σ) (obR σ) (laR σ x.toNatClampNeg) x.toNatClampNeg (eb1 (sG σ) (obR σ) (laR σ x.toNatClampNeg) x.toNatClampNeg (EVw s 32 27 28 29))) (fun t I => ?_) (fun k hk => ?_)
    · obtain ⟨u1, uE, u2, u3⟩ := I
      refine pc_ix (fun _ => ?_)
      refine pc_lt fun s10 e10 => ?_
      have F10 : FR FE_ [] σ s10 := by rw [e10]; exact FR.st u1 (by decide)
      have o10 : ∀ q, q ≠ 25 → s10.1 q = t.1 q := fun q hq => by rw [e10, sti_o hq]
      refine pc_ix (fun _ => ?_)
      rw [frE F10 (show (22 : Nat) < 25 ∨ 22 = 26 ∨ 32 < 22 by decide)]
      refine pc_lt fun v11 e11 => ?_
      refine pc_itr2 (fun i u => (fiR σ x.toNatClampNeg : Int) ≤ i.toInt ∧ i.toInt ≤ (laR σ x.toNatClampNeg : Int) + 1 ∧ FR FE_ [] σ u ∧ 0 ≤ (u.1 32 0).toInt ∧ (∀ q, q ≠ x.toNatClampNeg → u.1 25 q = s.1 25 q) ∧ EVw u 32 27 28 29 = EVw t 32 27 28 29 ∧ CAP σ (fiR σ x.toNatClampNeg) i.toNatClampNeg (u.1 25 x.toNatClampNeg).toInt) ?_ ⟨by rw [e11]; omega, by rw [e11]; omega, F10, by rw [o10 32 (by decide)]; exact uE, fun q hq => by rw [e10, sti_j hq, u2], EVw.cg (o10 32 (by decide)) (o10 27 (by decide)) (o10 28 (by decide)) (o10 29 (by decide)), Or.inl ⟨by rw [e10, sti_s]; exact k_m1, fun j h3 h4 => by rw [e11] at h4; have : j < fiR σ x.toNatClampNeg := h4; omega⟩⟩
      intro ag2 i u I2 ih2
      obtain ⟨i0, il, w1, wE, w2, w3, w4⟩ := I2
      have ci := clamp_I (x := i) (by omega)
      refine pc_ix (fun _ => ?_)
      rw [frE w1 (show (23 : Nat) < 25 ∨ 23 = 26 ∨ 32 < 23 by decide)]
      refine pc_lt fun v13 e13 => ?_
      refine pc_ite (fun c3 => ?_) (fun c3 => ?_)
      · rw [fa_lt, e13] at c3
        have ie : i.toNatClampNeg = laR σ x.toNatClampNeg + 1 := by omega
        rw [ie] at w4
        have cat : caR σ x.toNatClampNeg (u.1 25 x.toNatClampNeg).toInt := by
          rcases w4 with ⟨z1, z2⟩ | ⟨j, z1, z2, z3, z4⟩
          · exact Or.inl ⟨z1, fun j h3 h4 => z2 j h3 (by omega)⟩
          · exact Or.inr ⟨j, z1, by omega, z3, z4⟩
        have ed : ∀ u2 : Sto, u2.1 25 = u.1 25 → EVw u2 32 27 28 29 = eb3 (u.1 25 x.toNatClampNeg).toInt x.toNatClampNeg (EVw u 32 27 28 29) → EVw u2 32 27 28 29 = edP (sG σ) (nM σ) (obR σ) (laR σ) (ri (u2.1 25)) (x.toNatClampNeg + 1) (EVw s1 32 27 28 29) := fun u2 p1 p2 => by
          show _ = ebP _ _ _ _ _ _ (edP _ _ _ _ _ x.toNatClampNeg _)
          have q := edP_ca (sg := sG σ) (nm := nM σ) (ob := obR σ) (la := laR σ) (ca := ri (s.1 25)) (ca2 := ri (u2.1 25)) (V := EVw s1 32 27 28 29) x.toNatClampNeg (fun b hb => by unfold ri; rw [p1, w2 b (by omega)])
          rw [q, ← b3, p2, w3, u3, p1]
          rfl
        refine pc_ix (fun _ => ?_)
        refine pc_lt fun v15 e15 => ?_
        refine pc_jn ?_
        have next : ∀ u2 : Sto, u2.1 25 = u.1 25 → FR FE_ [] σ u2 → 0 ≤ (u2.1 32 0).toInt → EVw u2 32 27 28 29 = eb3 (u.1 25 x.toNatClampNeg).toInt x.toNatClampNeg (EVw u 32 27 28 29) → PC (lt (x + 1) fun x1_17 => ag x1_17 u2) (fun s => (∃ V : EVt, V.1 = 0 ∧ EVw s 32 27 28 29 = edP (sG σ) (nM σ) (obR σ) (laR σ) (ri (s.1 25)) (nB σ) V) ∧ ∀ b, b < nB σ → caR σ b (s.1 25 b).toInt) := fun u2 p1 p2 p3 p4 => pc_lt fun x17 e17 => by
          subst e17
          refine ih (x + 1) u2 ⟨by omega, by omega, p2, p3, by rw [nx]; exact ed u2 p1 p4, fun b hb2 => ?_⟩
          rw [nx] at hb2
          rw [p1]
          by_cases z : b = x.toNatClampNeg
          · rw [z]; exact cat
          · rw [w2 b z]; exact b4 b (by omega)
        refine pc_ite (fun c4 => ?_) (fun c4 => ?_)
        · rw [fa_eq, k_m1, e15] at c4
          refine next u rfl w1 wE ?_
          unfold eb3
          rw [if_pos c4]
        · rw [fa_eq, k_m1, e15] at c4
          refine pc_ix (fun _ => ?_)
          refine pc_lt fun v19 e19 => ?_
          subst e19
          refine pc_cals (t_laysEdge (x1 := x) (x3 := 1) x0 wE) (fun s20 w => ?_)
          have d1 : decide ((1 : Int32).toInt ≠ 0) = true := by decide +kernel
          refine next s20 (w.1.2.1 25 (by decide)) (FR.cal w1 w.1.2 rfl rfl) w.1.1 ?_
          unfold eb3
          rw [if_neg c4, w.2, d1]
      · rw [fa_lt, e13] at c3
        have exi : (i + 1).toInt = i.toInt + 1 := i1 (by omega)
        have nxi : (i + 1).toNatClampNeg = i.toNatClampNeg + 1 := by have := clamp_I (x := i + 1) (by omega); omega
        have fq : ∀ k, k = 9 ∨ k = 10 ∨ k = 11 ∨ k = 15 ∨ k = 16 ∨ k = 20 ∨ k = 24 → u.1 k = σ.1 k := fun k hk => frE w1 (by omega)
        have cont : ∀ u2 : Sto, FR FE_ [] σ u2 → 0 ≤ (u2.1 32 0).toInt → (∀ q, q ≠ x.toNatClampNeg → u2.1 25 q = s.1 25 q) → EVw u2 32 27 28 29 = EVw t 32 27 28 29 → CAP σ (fiR σ x.toNatClampNeg) (i.toNatClampNeg + 1) (u2.1 25 x.toNatClampNeg).toInt → PC (lt (i + 1) fun x3_25 => ag2 x3_25 u2) (fun s => (∃ V : EVt, V.1 = 0 ∧ EVw s 32 27 28 29 = edP (sG σ) (nM σ) (obR σ) (laR σ) (ri (s.1 25)) (nB σ) V) ∧ ∀ b, b < nB σ → caR σ b (s.1 25 b).toInt) := fun u2 p1 pE p2 p3 p4 => pc_lt fun x25 e25 => by
          subst e25
          exact ih2 (i + 1) u2 ⟨by omega, by omega, p1, pE, p2, p3, by rw [nxi]; exact p4⟩
        have no : ¬ (cThI (sG σ i.toNatClampNeg) ∧ hoP (nH σ) (fR σ) (uP σ) i.toNatClampNeg < nH σ) → CAP σ (fiR σ x.toNatClampNeg) (i.toNatClampNeg + 1) (u.1 25 x.toNatClampNeg).toInt := fun z => by
          rcases w4 with ⟨z1, z2⟩ | ⟨j, z1, z2, z3, z4⟩
          · refine Or.inl ⟨z1, fun j h3 h4 => ?_⟩
            by_cases q : j = i.toNatClampNeg
            · rw [q]; exact z
            · exact z2 j h3 (by omega)
          · exact Or.inr ⟨j, z1, by omega, z3, z4⟩
        rw [fq 16 (by decide), handlerOf_cg (fq 11 (by decide))]
        refine pc_calp (pc_ok (s_X12_handlerOf_handler (x2 := σ.1 16 0) (x3 := i) hB g16 (by omega))) (fun v21 h21 => ?_)
        have g9i := gM_9 hB i.toNatClampNeg
        refine pc_ix (fun _ => ?_)
        rw [fq 9 (by decide)]
        refine pc_lt fun v22 e22 => ?_
        have e22' : v22.toInt = sG σ i.toNatClampNeg := by rw [e22]; rfl
        refine pc_calp (pc_ok (s_X12_canThrow (x1 := v22) (by rw [e22]; exact g9i))) (fun v23 h23 => ?_)
        rw [e22'] at h23
        have h231 := h23.1
        have r21 := h21.1
        refine pc_jn ?_
        refine pc_ite (fun c4 => cont u w1 wE w2 w3 (no ?_)) (fun c4 => ?_)
        · rw [fa_eq, k_0] at c4
          intro z
          have := h23.2.mpr z.1
          omega
        rw [fa_eq, k_0] at c4
        have hct := h23.2.mp (by omega)
        refine pc_ite (fun c5 => cont u w1 wE w2 w3 (no ?_)) (fun c5 => ?_)
        · rw [fa_eq, k_m1] at c5
          have o1 : hoP (nH σ) (fR σ) (uP σ) i.toNatClampNeg = nH σ := h21.2.1 c5
          intro z
          have := z.2
          omega
        rw [fa_eq, k_m1] at c5
        obtain ⟨o1, o2⟩ := h21.2.2 c5
        have o1' : (hoP (nH σ) (fR σ) (uP σ) i.toNatClampNeg : Int) = v21.toInt := o1
        have c21 := clamp_I (x := v21) (by omega)
        have hv : hoP (nH σ) (fR σ) (uP σ) i.toNatClampNeg = v21.toNatClampNeg := by omega
        have lh : v21.toNatClampNeg < nH σ := by unfold nH; omega
        have m21 : (((3 : Int32) * v21) + 2).toInt = 3 * v21.toInt + 2 := by
          have h8 : ((3 : Int32) * v21).toInt = 3 * v21.toInt := by
            have h := fb_mulI (x := 3) (y := v21) (by rw [k_3]; omega) (by rw [k_3]; omega)
            rw [h, k_3]
          have h9 := fb_addI (x := (3 : Int32) * v21) (y := 2) (by omega) (by omega)
          rw [h9, h8, k_2]
        have n21 : (((3 : Int32) * v21) + 2).toNatClampNeg = 3 * v21.toNatClampNeg + 2 := by have := clamp_I (x := ((3 : Int32) * v21) + 2) (by omega); omega
        refine pc_ix (fun _ => ?_)
        rw [n21, fq 11 (by decide)]
        refine pc_lt fun v28 e28 => ?_
        have gn : v28.toNatClampNeg = (gO σ v21.toNatClampNeg).toNat := by rw [e28]; rfl
        refine pc_ix (fun _ => ?_)
        rw [fq 24 (by decide), gn]
        refine pc_lt fun v29 e29 => ?_
        refine pc_ix (fun _ => ?_)
        refine pc_lt fun s30 e30 => ?_
        have o30 : ∀ q, q ≠ 25 → s30.1 q = u.1 q := fun q hq => by rw [e30, sti_o hq]
        refine cont s30 (by rw [e30]; exact FR.st w1 (by decide)) (by rw [o30 32 (by decide)]; exact wE) (fun q hq => by rw [e30, sti_j hq]; exact w2 q hq) ((EVw.cg (o30 32 (by decide)) (o30 27 (by decide)) (o30 28 (by decide)) (o30 29 (by decide))).trans w3) (Or.inr ⟨i.toNatClampNeg, by omega, by omega, ⟨hct, by rw [hv]; exact lh⟩, ?_⟩)
        rw [e30, sti_s, e29, hv]
        rfl
    · refine pc_ite (fun c2 => hk t ⟨t1, tE, t2, ?_⟩) (fun c2 => ?_)
      · rw [fa_eq, k_0] at c2
        have ne : ¬ gElI (sG σ (laR σ x.toNatClampNeg)) := fun z => by have := h8.2.mpr z; omega
        unfold eb2
        rw [if_neg ne]
        exact t3
      · rw [fa_eq, k_0] at c2
        have ge := h8.2.mp (by omega)
        refine pc_ix (fun _ => ?_)
        rw [frE t1 (show (23 : Nat) < 25 ∨ 23 = 26 ∨ 32 < 23 by decide)]
        refine pc_lt fun v32 e32 => ?_
        subst e32
        refine pc_ix (fun _ => ?_)
        rw [c23, frE t1 (show (10 : Nat) < 25 ∨ 10 = 26 ∨ 32 < 10 by decide)]
        refine pc_lt fun v33 e33 => ?_
        have c10 : v33.toNatClampNeg = (nM σ (laR σ x.toNatClampNeg)).toNat := by rw [e33]; rfl
        refine pc_ix (fun _ => ?_)
        rw [c10, frE t1 (show (24 : Nat) < 25 ∨ 24 = 26 ∨ 32 < 24 by decide)]
        refine pc_lt fun v34 e34 => ?_
        have e34' : v34.toInt = obR σ (nM σ (laR σ x.toNatClampNeg)).toNat := by rw [e34]; rfl
        refine pc_cals (t_laysEdge (x1 := x) (x3 := 0) x0 tE) (fun s35 w => hk s35 ⟨FR.cal t1 w.1.2 rfl rfl, w.1.1, by rw [w.1.2.1 25 (by decide)]; exact t2, ?_⟩)
        have d1 : decide ((0 : Int32).toInt ≠ 0) = false := by decide +kernel
        unfold eb2
        rw [if_pos ge, w.2, d1, t3, e34']
  · refine pc_ite (fun c2 => hk s ⟨b2, bE, rfl, ?_⟩) (fun c2 => ?_)
    · rw [fa_eq, k_0] at c2
      have no : ¬ gOnI (sG σ (laR σ x.toNatClampNeg)) := fun z => by have := h6.2.mpr z; omega
      unfold eb1
      rw [if_neg no]
    · rw [fa_eq, k_0] at c2
      have go := h6.2.mp (by omega)
      refine pc_ix (fun _ => ?_)
      refine pc_lt fun v37 e37 => ?_
      subst e37
      have ei : ((σ.1 23 x.toNatClampNeg) + 1).toInt = (σ.1 23 x.toNatClampNeg).toInt + 1 := i1 (by omega)
      have en : ((σ.1 23 x.toNatClampNeg) + 1).toNatClampNeg = laR σ x.toNatClampNeg + 1 := by have := clamp_I (x := (σ.1 23 x.toNatClampNeg) + 1) (by omega); omega
      refine pc_ix (fun _ => ?_)
      rw [en, frE b2 (show (24 : Nat) < 25 ∨ 24 = 26 ∨ 32 < 24 by decide)]
      refine pc_lt fun v38 e38 => ?_
      have e38' : v38.toInt = obR σ (laR σ x.toNatClampNeg + 1) := by rw [e38]; rfl
      refine pc_cals (t_laysEdge (x1 := x) (x3 := 0) x0 bE) (fun s39 w => hk s39 ⟨FR.cal b2 w.1.2 rfl rfl, w.1.1, w.1.2.1 25 (by decide), ?_⟩)
      have d1 : decide ((0 : Int32).toInt ≠ 0) = false := by decide +kernel
      unfold eb1
      rw [if_pos go, w.2, d1, e38']
