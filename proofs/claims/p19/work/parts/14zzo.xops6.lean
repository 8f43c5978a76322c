section
variable {b : BTy} {n : Nat} {σ : Sto} {tr : Nat → Term} {P : PSt}
theorem EXV.no {v : Int32} (h : EXV v n tr none) : v.toInt = -1 := by
  rcases h with h | ⟨t, e, h1, _⟩
  · exact h.2
  · exact absurd h1 (by simp)
theorem t_isNeeded {ρ : Nat → Int32} {x k : Int32} (h : RLP (x.toNatClampNeg, ρ) σ n tr P) (h0 : 0 ≤ k.toInt) (h6 : k.toInt < 6) (hk : k.toNatClampNeg < pHt P) (h8 : pHt P ≤ 6) : PC (f_X1_isNeededAbove x k σ) (fun r => r = 0 ↔ ¬ pNed k.toNatClampNeg P) := by
  have k_m1 : ((-1) : Int32).toInt = -1 := by decide +kernel
  have ck := clamp_I h0
  have ek : (k + 1).toInt = k.toInt + 1 := i1 (by omega)
  obtain ⟨h1, h2, h3_, h4, h5, h6_, h7', _⟩ := id h
  have h7 : EXV (σ.1 57 x.toNatClampNeg) n tr (pTs P) := h7'
  unfold f_X1_isNeededAbove
  refine pc_ix (fun _ => ?_)
  refine pc_lt fun v1 e1 => ?_
  rw [← e1] at h7
  refine pc_jnI1 (fun t => bI t (6 + k.toNatClampNeg) = true ↔ ∃ u, pTs P = some u ∧ tTn k.toNatClampNeg u = true) (fun t0 ht => ?_) (fun q hq => ?_)
  · refine pc_lt fun x3 e3 => ?_
    subst e3
    refine pc_itr2 (fun t y => k.toInt < y.toInt ∧ y.toInt ≤ (pHt P : Int) ∧ (bI t (6 + k.toNatClampNeg) = true ↔ (∃ j, k.toNatClampNeg < j ∧ (j : Int) < y.toInt ∧ tTn k.toNatClampNeg (pKs P j) = true) ∨ ∃ u, pTs P = some u ∧ tTn k.toNatClampNeg u = true)) ?_ ⟨by omega, by omega, ?_⟩
    · intro ag t y I ih
      obtain ⟨i1_, i2, i3⟩ := I
      have cy := clamp_I (x := y) (by omega)
      refine pc_ite (fun c => ?_) (fun c => ?_)
      · rw [fa_le, h2] at c
        have ye : y.toInt = (pHt P : Int) := by omega
        refine pc_calp t_slotBit (fun w6 ew6 => ?_)
        have pn : pNed k.toNatClampNeg P ↔ bI t (6 + k.toNatClampNeg) = true := by
          rw [i3]
          unfold pNed
          constructor
          · rintro (⟨j, a, b_, d⟩ | z)
            · exact Or.inl ⟨j, a, by omega, d⟩
            · exact Or.inr z
          · rintro (⟨j, a, b_, d⟩ | z)
            · exact Or.inl ⟨j, a, by omega, d⟩
            · exact Or.inr z
        refine pc_ite (fun c2 => ?_) (fun c2 => ?_)
        · rw [ew6, slot_z h0 h6] at c2
          exact pc_ret ⟨fun _ z => by rw [pn, c2] at z; exact absurd z (by decide), fun _ => rfl⟩
        · rw [ew6, slot_z h0 h6] at c2
          refine pc_ret ⟨fun z => absurd z (by decide), fun z => ?_⟩
          rw [pn] at z
          exact absurd (bf z) c2
      · rw [fa_le, h2] at c
        have ey : (y + 1).toInt = y.toInt + 1 := i1 (by omega)
        have v := h3_ y.toNatClampNeg (by omega)
        obtain ⟨e, v1_, v2, v3, v4⟩ := v.so
        have tb := h1.at_ v2
        rw [v3] at tb
        refine pc_ix (fun _ => ?_)
        refine pc_lt fun v8 e8 => ?_
        refine pc_ix (fun _ => ?_)
        refine pc_lt fun v9 e9 => ?_
        rw [e8, v4] at e9
        rw [← e9] at tb
        refine pc_lt fun x10 e10 => ?_
        refine pc_lt fun x11 e11 => ?_
        subst e11
        refine ih x10 (y + 1) ⟨by omega, by omega, ?_⟩
        rw [e10, bI_or, Bool.or_eq_true, i3, tb.2.1 _ (by omega), ey]
        constructor
        · rintro ((⟨j, a, b_, d⟩ | z) | z)
          · exact Or.inl ⟨j, a, by omega, d⟩
          · exact Or.inr z
          · exact Or.inl ⟨y.toNatClampNeg, by omega, by omega, z⟩
        · rintro (⟨j, a, b_, d⟩ | z)
          · by_cases w : j = y.toNatClampNeg
            · rw [w] at d; exact Or.inr d
            · exact Or.inl (Or.inl ⟨j, a, by omega, d⟩)
          · exact Or.inl (Or.inr z)
    · rw [ht, ek]
      constructor
      · exact fun z => Or.inr z
      · rintro (⟨j, a, b_, d⟩ | z)
        · omega
        · exact z
  · refine pc_ite (fun c => ?_) (fun c => ?_)
    · rw [fa_eq, k_m1] at c
      refine hq 0 ?_
      rw [bI_0]
      refine ⟨fun z => absurd z (by decide), fun ⟨u, z, _⟩ => ?_⟩
      rw [z] at h7
      obtain ⟨e, a1, _⟩ := h7.so
      omega
    · rw [fa_eq, k_m1] at c
      cases z : pTs P with
      | none => rw [z] at h7; exact absurd h7.no c
      | some u =>
        rw [z] at h7
        obtain ⟨e, a1, a2, a3, a4⟩ := h7.so
        have tb := h1.at_ a2
        rw [a3] at tb
        refine pc_ix (fun _ => ?_)
        refine pc_lt fun v13 e13 => ?_
        rw [← e1] at e13
        refine pc_ix (fun _ => ?_)
        refine pc_lt fun v14 e14 => ?_
        rw [e13, a4] at e14
        rw [← e14] at tb
        refine hq v14 ?_
        rw [tb.2.1 _ (by omega)]
        exact ⟨fun w => ⟨u, z, w⟩, fun ⟨u2, w1, w2⟩ => by rw [z] at w1; rw [Option.some.inj w1]; exact w2⟩
/-- above, up to j -/
def pRpu (k x j : Nat) (P : PSt) : PSt := (fun i => if k < i ∧ i < j then tRp k x (pKs P i) else pKs P i, pHt P, pSm P, pNn P, pFr P, pTs P)
theorem pRpu_0 {k x : Nat} : pRpu k x (k + 1) P = P := by
  have e : (fun i => if k < i ∧ i < k + 1 then tRp k x (pKs P i) else pKs P i) = pKs P := funext fun i => if_neg (by omega)
  unfold pRpu
  rw [e]
theorem pRpu_s {k x j : Nat} (h : k < j) : pSet j (tRp k x (pKs P j)) (pRpu k x j P) = pRpu k x (j + 1) P := by
  have e : upT (pKs (pRpu k x j P)) j (tRp k x (pKs P j)) = fun i => if k < i ∧ i < j + 1 then tRp k x (pKs P i) else pKs P i := funext fun i => by
    show (if i = j then tRp k x (pKs P j) else if k < i ∧ i < j then tRp k x (pKs P i) else pKs P i) = _
    by_cases c : i = j
    · rw [if_pos c, if_pos ⟨by omega, by omega⟩, c]
    · rw [if_neg c]
      by_cases d : k < i ∧ i < j
      · rw [if_pos d, if_pos ⟨d.1, by omega⟩]
      · rw [if_neg d, if_neg (by omega)]
  show (upT (pKs (pRpu k x j P)) j (tRp k x (pKs P j)), pHt P, pSm P, pNn P, pFr P, pTs P) = _
  rw [e]
  rfl
theorem pRpu_e {k x : Nat} : pTst ((pTs P).map (tRp k x)) (pRpu k x (pHt P) P) = pRpl k x P := rfl
/-- operators on the stack and in the test -/
abbrev pOm (P : PSt) : Nat := pSum (fun _ => tOp) P + pPs tOp P
theorem t_replaceAbove {ρ : Nat → Int32} {x k xv : Int32} {xn : Nat} (hx : 0 ≤ x.toInt ∧ x.toInt < 40) (h : RLP (x.toNatClampNeg, ρ) σ n tr P) (hv : EXV xv n tr (some (tX xn))) (h0 : 0 ≤ k.toInt) (h6 : k.toInt < 6) (hk : k.toNatClampNeg < pHt P) (h8 : pHt P ≤ 6) (hs : pG 0 (fun _ => tSz) tSz P ≤ 60) (hz : nzT n tr + pOm P ≤ 505) : PC (f_X1_replaceAbove x k xv σ) (RLA (x.toNatClampNeg, ρ) MST σ n tr P (pRpl k.toNatClampNeg xn P) (pOm P)) := by
  have k_0 : (0 : Int32).toInt = 0 := by decide +kernel
  have k_m1 : ((-1) : Int32).toInt = -1 := by decide +kernel
  have ck := clamp_I h0
  have ek : (k + 1).toInt = k.toInt + 1 := i1 (by omega)
  have hs' : 0 * pNn P + pSum (fun _ => tSz) P + pPs tSz P ≤ 60 := hs
  have om : pOm P = sF (fun i => tOp (pKs P i)) (pHt P) + pPs tOp P := rfl
  unfold f_X1_replaceAbove
  refine pc_lt fun x1 e1 => ?_
  subst e1
  refine pc_itr2 (fun y s => k.toInt < y.toInt ∧ y.toInt ≤ (pHt P : Int) ∧ FR MST [] σ s ∧ ∃ n2 tr2, RLP (x.toNatClampNeg, ρ) s n2 tr2 (pRpu k.toNatClampNeg xn y.toNatClampNeg P) ∧ EXT n tr n2 tr2 ∧ nzT n2 tr2 ≤ nzT n tr + sF (fun i => tOp (pKs P i)) y.toNatClampNeg) ?_ ⟨by omega, by omega, FR.rf, n, tr, ?_, EXT.rf, Nat.le_add_right _ _⟩
  · intro ag y s I ih
    obtain ⟨i1_, i2, i3, n2, tr2, r1, r2, r3⟩ := I
    have cy := clamp_I (x := y) (by omega)
    have hh : (s.1 61 0).toInt = (pHt P : Int) := r1.2.1
    refine pc_ite (fun c => ?_) (fun c => ?_)
    · rw [fa_le, hh] at c
      have ye : y.toNatClampNeg = pHt P := by omega
      rw [ye] at r1 r3
      have r7 : EXV (s.1 57 x.toNatClampNeg) n2 tr2 (pTs P) := r1.2.2.2.2.2.2.1
      refine pc_ix (fun _ => ?_)
      refine pc_lt fun v4 e4 => ?_
      rw [← e4] at r7
      refine pc_ite (fun c2 => ?_) (fun c2 => ?_)
      · rw [fa_eq, k_m1] at c2
        cases z : pTs P with
        | some u =>
          rw [z] at r7
          obtain ⟨e, a1, _⟩ := r7.so
          omega
        | none =>
          refine pc_ret ⟨i3, n2, tr2, ?_, r2, by show nzT n2 tr2 + pFr P ≤ nzT n tr + pFr P + pOm P; omega⟩
          have q : pRpl k.toNatClampNeg xn P = pRpu k.toNatClampNeg xn (pHt P) P := by
            rw [← pRpu_e, z]
            show (_, _, _, _, _, none) = (_, _, _, _, _, pTs P)
            rw [z]
            rfl
          rw [q]
          exact r1
      · rw [fa_eq, k_m1] at c2
        cases z : pTs P with
        | none => rw [z] at r7; exact absurd r7.no c2
        | some u =>
          rw [z] at r7
          have pu : pPs tOp P = tOp u ∧ pPs tSz P = tSz u := by unfold pPs; rw [z]; exact ⟨rfl, rfl⟩
          refine pc_ix (fun _ => ?_)
          refine pc_lt fun v6 e6 => ?_
          rw [← e4] at e6
          subst e6
          refine pc_calv (t_replace (x := xn) h0 h6 250 v6 0 s n2 tr2 u r1.1 r7 (hv.up r2) (by omega) (by omega) (by omega)) (fun v7 s7 w => ?_)
          obtain ⟨w1, n3, tr3, w2, w3, w4, w5⟩ := w
          (try dsimp only at w1 w2 w5)
          refine pc_ix (fun _ => ?_)
          refine pc_lt fun s8 e8 => ?_
          refine pc_ret ⟨by rw [e8]; exact FR.st (FR.cal i3 w1 rfl rfl) (by decide), n3, tr3, ?_, r2.tr w3, by show nzT n3 tr3 + pFr P ≤ nzT n tr + pFr P + pOm P; omega⟩
          rw [e8, ← pRpu_e, z]
          exact (r1.pool w1 w2 w3).tst w5
    · rw [fa_le, hh] at c
      have ey : (y + 1).toInt = y.toInt + 1 := i1 (by omega)
      have cy1 : (y + 1).toNatClampNeg = y.toNatClampNeg + 1 := by
        have := clamp_I (x := y + 1) (by omega)
        omega
      have yi : y.toNatClampNeg < pHt P := by omega
      have v := r1.2.2.1 y.toNatClampNeg yi
      have ky : pKs (pRpu k.toNatClampNeg xn y.toNatClampNeg P) y.toNatClampNeg = pKs P y.toNatClampNeg := if_neg (by omega)
      rw [ky] at v
      have o1 := sF_mono_ (f := fun i => tOp (pKs P i)) (show y.toNatClampNeg + 1 ≤ pHt P by omega)
      have o2 : sF (fun i => tOp (pKs P i)) (y.toNatClampNeg + 1) = sF (fun i => tOp (pKs P i)) y.toNatClampNeg + tOp (pKs P y.toNatClampNeg) := rfl
      have sz : tSz (pKs P y.toNatClampNeg) ≤ pSum (fun _ => tSz) P := pSum_1 (ω := tSz) yi
      refine pc_ix (fun _ => ?_)
      refine pc_lt fun v9 e9 => ?_
      rw [← e9] at v
      refine pc_calv (t_replace (x := xn) h0 h6 250 v9 0 s n2 tr2 _ r1.1 v (hv.up r2) (by omega) (by omega) (by omega)) (fun v10 s10 w => ?_)
      obtain ⟨w1, n3, tr3, w2, w3, w4, w5⟩ := w
      (try dsimp only at w1 w2 w5)
      refine pc_ix (fun _ => ?_)
      refine pc_lt fun s11 e11 => ?_
      refine pc_lt fun x12 e12 => ?_
      subst e12
      refine ih (y + 1) s11 ⟨by omega, by omega, by rw [e11]; exact FR.st (FR.cal i3 w1 rfl rfl) (by decide), n3, tr3, ?_, r2.tr w3, by rw [cy1]; omega⟩
      rw [e11, cy1, ← pRpu_s (by omega)]
      exact (r1.pool w1 w2 w3).set w5
  · rw [show (k + 1).toNatClampNeg = k.toNatClampNeg + 1 by have := clamp_I (x := k + 1) (by omega); omega, pRpu_0]
    exact h
end
