section
variable {b : BTy} {n : Nat} {σ : Sto} {tr : Nat → Term} {P : PSt}
theorem t_chooses {x : Int32} (hx : 0 ≤ x.toInt ∧ x.toInt < 40) : PC (f_X3_chooses x σ) (fun v => v = 0 ↔ ¬ ((σ.1 6 x.toNatClampNeg).toInt = 122 ∧ (σ.1 7 x.toNatClampNeg).toInt ≠ x.toInt + 1)) := by
  have k_122 : (122 : Int32).toInt = 122 := by decide +kernel
  have ex : (x + 1).toInt = x.toInt + 1 := i1 (by omega)
  unfold f_X3_chooses
  refine pc_ix (fun _ => ?_)
  refine pc_lt fun v1 e1 => ?_
  subst e1
  refine pc_jnI0 (¬ ((σ.1 6 x.toNatClampNeg).toInt = 122 ∧ (σ.1 7 x.toNatClampNeg).toInt ≠ x.toInt + 1)) (fun z => pc_ret ⟨fun _ => z, fun _ => rfl⟩) (fun k hk => ?_)
  refine pc_ite (fun c => ?_) (fun c => ?_)
  · rw [fa_eq, k_122] at c
    refine pc_ix (fun _ => ?_)
    refine pc_lt fun v4 e4 => ?_
    subst e4
    refine pc_ite (fun c2 => ?_) (fun c2 => ?_)
    · rw [fa_eq, ex] at c2
      exact hk (fun z => z.2 c2)
    · rw [fa_eq, ex] at c2
      exact pc_ret ⟨fun q => absurd q (by decide), fun q => absurd ⟨c, c2⟩ q⟩
  · rw [fa_eq, k_122] at c
    exact hk (fun z => c z.1)
theorem t_stateN {k w v : Int32} {k2 w2 : Int} {o : Option Term} (hk : ¬ k = 0) (h : RLP b σ n tr P) (hv : EXV v n tr o) (ek : k.toInt = k2) (ew : w.toInt = w2) (hb : PBD n tr P (pAdd k2 w2 o (pSp qEff (pHt P) P)) 0) : PC (f_X1_state k w v σ) (RLA b MPB σ n tr P (pAdd k2 w2 o (pSp qEff (pHt P) P)) 0) := by
  unfold f_X1_state
  refine pc_jnI1 (fun t => t = 0) (fun t ht => ?_) (fun q hq => ?_)
  · subst ht
    exact t_spadd MASK.eff0 h hv ek ew hb
  · exact pc_ite (fun c => absurd c hk) (fun _ => hq 0 rfl)
theorem t_state0 {w v : Int32} {o : Option Term} (h0 : 0 ≤ w.toInt) (h6 : w.toInt < 6) (h : RLP b σ n tr P) (hv : EXV v n tr o) (hb : PBD n tr P (pAdd 0 w.toInt o (pSp (qVar w.toNatClampNeg) (pHt P) P)) 0) : PC (f_X1_state 0 w v σ) (RLA b MPB σ n tr P (pAdd 0 w.toInt o (pSp (qVar w.toNatClampNeg) (pHt P) P)) 0) := by
  unfold f_X1_state
  refine pc_jnI1 (fun t => t = (1 : Int32) <<< (w &&& 31)) (fun t ht => ?_) (fun q hq => ?_)
  · subst ht
    exact t_spadd (MASK.var h0 h6) h hv (by decide +kernel) rfl hb
  · exact pc_ite (fun _ => hq _ rfl) (fun c => absurd rfl c)
theorem RLP.tst {v : Int32} {o : Option Term} (h : RLP b σ n tr P) (hv : EXV v n tr o) : RLP b (sti σ 57 b.1 v) n tr (pTst o P) := by
  obtain ⟨h1, h2, h3_, h4, h5, h6, h7⟩ := h
  have q : ∀ {j : Nat}, j ≠ 57 → (sti σ 57 b.1 v).1 j = σ.1 j := fun {j} hj => sti_o hj
  exact ⟨h1.cg (fun j hj => q (by omega)), by rw [q (by decide)]; exact h2, fun i hi => by rw [q (by decide)]; exact h3_ i hi, by rw [q (by decide)]; exact h4, fun j hj => (h5 j hj).up EXT.rf (fun j hj => q (by omega)), by rw [q (by decide)]; exact h6, by rw [sti_s]; exact hv, fun c hc => by rw [sti_j hc]; exact h7.2 c hc⟩
/-- goes one way or the other -/
def fkX (σ : Sto) (i : Nat) : Bool := decide ((σ.1 7 i).toInt ≠ (i : Int) + 1)
theorem INS.vs {g n : Int} (h : INS g n) : VSg g := by unfold INS at h; omega
theorem t_step {ρ : Nat → Int32} {x i : Int32} (h : RLP (x.toNatClampNeg, ρ) σ n tr P) (hx : 0 ≤ x.toInt ∧ x.toInt < 40) (hi : 0 ≤ i.toInt ∧ i.toInt < 40) (hin : INS (σ.1 6 i.toNatClampNeg).toInt (σ.1 7 i.toNatClampNeg).toInt) (hn : ndI (σ.1 6 i.toNatClampNeg).toInt ≤ (pHt P : Int)) (h6 : pHt P ≤ 6) (hs : pG 0 (fun _ => tSz) tSz P ≤ 58) (hb : PBD n tr P (pStep (σ.1 6 i.toNatClampNeg) (σ.1 7 i.toNatClampNeg) (fkX σ i.toNatClampNeg) P) 1) : PC (f_X1_step x i σ) (RLA (x.toNatClampNeg, ρ) MST σ n tr P (pStep (σ.1 6 i.toNatClampNeg) (σ.1 7 i.toNatClampNeg) (fkX σ i.toNatClampNeg) P) 1) := by
  have ci := clamp_I hi.1
  have nzn := h.1.nz_
  have k_m1 : ((-1) : Int32).toInt = -1 := by decide +kernel
  have pp : pHt (pPop P) = pHt P - 1 := rfl
  have none_ : ∀ {n : Nat} {tr : Nat → Term}, EXV ((-1) : Int32) n tr none := Or.inl ⟨rfl, k_m1⟩
  -- behind a pop
  have pop : ∀ {β : Type} {K : Int32 → Sto → Option β} {R : β → Prop}, 0 < pHt P → (∀ v s, FR MST [] σ s → RLP (x.toNatClampNeg, ρ) s n tr (pPop P) → EXV v n tr (some (pTop P)) → PC (K v s) R) → PC (calv (f_X1_pop σ) K) R := fun z w => pc_calv (t_pop h z) (fun v s u => w v s (FR.cal FR.rf u.1 rfl rfl) u.2.1 u.2.2)
  have fin : ∀ {s s2 : Sto} {Q : PSt}, FR MST [] σ s → RLA (x.toNatClampNeg, ρ) MPB s n tr (pPop P) Q 0 s2 → RLA (x.toNatClampNeg, ρ) MST σ n tr P Q 1 s2 := fun f u => RLA.cal f EXT.rf (c1 := 0) (Nat.le_refl _) u rfl (by omega)
  have bd : ∀ {Q : PSt}, PBD n tr P Q 1 → PBD n tr (pPop P) Q 0 := fun u => ⟨u.1, u.2.1, by have := u.2.2; show nzT n tr + pFr _ + 0 ≤ 500 + pFr P; omega⟩
  have z505 : nzT n tr ≤ 505 := by
    have a := hb.2.2
    have p := (PLE.step (P := P) (g := σ.1 6 i.toNatClampNeg) (n := σ.1 7 i.toNatClampNeg) (d := fkX σ i.toNatClampNeg)).2.1
    omega
  unfold f_X1_step
  refine pc_ix (fun _ => ?_)
  refine pc_lt fun g eg => ?_
  refine pc_ix (fun _ => ?_)
  refine pc_lt fun v ev => ?_
  rw [← eg] at hin hn hb ⊢
  rw [← ev] at hin hb ⊢
  have vs := hin.vs
  unfold INS at hin
  refine pc_ite (fun c => ?_) (fun c1 => ?_)
  · rw [c] at hn
    have nd : ndI 100 = 1 := by decide
    rw [pStep_100 c] at hb ⊢
    refine pc_cals (t_twice h (by omega) h6 (hb.le PLE.rf)) (fun s u => ?_)
    exact pc_ret (RLA.cal FR.rf EXT.rf (c1 := 0) (Nat.le_refl _) u rfl (by omega))
  refine pc_ite (fun c => ?_) (fun c2 => ?_)
  · rw [pStep_103 c]
    exact pc_ret ⟨FR.rf, n, tr, h, EXT.rf, Nat.le_succ _⟩
  refine pc_ite (fun c => ?_) (fun c3 => ?_)
  · have mk : ∃ t, mkX g v 0 tr = t ∧ WFX g v 0 n ∧ tSz t = 1 ∧ pStep g v (fkX σ i.toNatClampNeg) P = pPush t P ∧ ndI g.toInt = 0 := by
      rcases c with z | z | z
      · have v0 : v = 0 := by rw [fa_eq]; show v.toInt = 0; omega
        exact ⟨_, mkX_i z, Or.inr (Or.inr (Or.inr (Or.inr (Or.inl ⟨z, v0, rfl⟩)))), rfl, pStep_105 z, by rw [z]; decide⟩
      · exact ⟨_, mkX_k z, Or.inl ⟨z, by omega, by omega, rfl⟩, rfl, pStep_107 z, by rw [z]; decide⟩
      · exact ⟨_, mkX_l z, Or.inr (Or.inl ⟨z, by omega, by omega, rfl⟩), rfl, pStep_108 z, by rw [z]; decide⟩
    obtain ⟨t, m1, m2, m3, m4, m5⟩ := mk
    refine pc_calv (t_make (sg := g) (lf := v) (rt := 0) h.1 m2 (by omega) (by rw [m1, m3]; omega)) (fun v5 s5 u => ?_)
    rw [m1] at u
    obtain ⟨n2, tr2, u1, u2, u3, u4, u5⟩ := h.make u
    (try dsimp only at u1 u4 u5)
    refine pc_cals (t_push u1 u4 (by omega)) (fun s6 y => ?_)
    rw [m4]
    exact pc_ret ⟨FR.cal (FR.cal FR.rf u5 rfl rfl) y.1 rfl rfl, n2, tr2, y.2, u2, by have := oneT_le t; show nzT n2 tr2 + pFr P ≤ nzT n tr + pFr P + 1; omega⟩
  refine pc_ite (fun c => ?_) (fun c4 => ?_)
  · rw [c] at hn
    have nd : ndI 111 = 1 := by decide
    rw [pStep_111 c] at hb ⊢
    refine pop (by omega) (fun va s f r e => ?_)
    refine pc_cals (t_stateN (k := 3) (by decide) r e (by decide +kernel) k_m1 (bd hb)) (fun s8 u => pc_ret (fin f u))
  refine pc_ite (fun c => ?_) (fun c5 => ?_)
  · rw [c] at hn
    have nd : ndI 112 = 1 := by decide
    rw [pStep_112 c] at hb ⊢
    refine pop (by omega) (fun va s f r e => ?_)
    refine pc_cals (t_drop r e (bd hb)) (fun s8 u => pc_ret (fin f u))
  refine pc_ite (fun c => ?_) (fun c6 => ?_)
  · rw [pStep_114 c] at hb ⊢
    refine pc_cals (t_stateN (k := 6) (by decide) h none_ (by decide +kernel) k_m1 (hb.le PLE.rf)) (fun s8 u => pc_ret ?_)
    exact RLA.cal FR.rf EXT.rf (c1 := 0) (Nat.le_refl _) u rfl (by omega)
  refine pc_ite (fun c => ?_) (fun c7 => ?_)
  · rw [c] at hn
    have nd : ndI 115 = 1 := by decide
    rw [pStep_115 c] at hb ⊢
    refine pop (by omega) (fun va s f r e => ?_)
    refine pc_cals (t_state0 (w := v) (by omega) (by omega) r e (bd hb)) (fun s8 u => pc_ret (fin f u))
  refine pc_ite (fun c => ?_) (fun c8 => ?_)
  · rw [c] at hn
    have nd : ndI 116 = 1 := by decide
    rw [pStep_116 c] at hb ⊢
    refine pop (by omega) (fun va s f r e => ?_)
    refine pc_cals (t_stateN (k := 5) (by decide) r e (by decide +kernel) k_m1 (bd hb)) (fun s8 u => pc_ret (fin f u))
  refine pc_ite (fun c => ?_) (fun c9 => ?_)
  · rw [c] at hn
    have nd : ndI 119 = 2 := by decide
    rw [pStep_119 c] at hb ⊢
    refine pc_cals (t_exch h (by omega) h6 (hb.le PLE.rf)) (fun s u => ?_)
    exact pc_ret (RLA.cal FR.rf EXT.rf (c1 := 0) (Nat.le_refl _) u rfl (by omega))
  refine pc_ite (fun c => ?_) (fun c10 => ?_)
  · have hn' := hn
    rw [c] at hn'
    have nd : ndI 122 = 1 := by decide
    rw [pStep_122 c] at hb ⊢
    refine pc_calp (t_chooses (σ := σ) hi) (fun v17 h17 => ?_)
    rw [← eg, ← ev, ← ci] at h17
    refine pc_ite (fun y => ?_) (fun y => ?_)
    · have z : fkX σ i.toNatClampNeg = false := by
        unfold fkX
        rw [← ev]
        refine decide_eq_false (fun w => h17.mp y ⟨c, w⟩)
      rw [z] at hb ⊢
      rw [if_neg (by decide)] at hb ⊢
      refine pop (by omega) (fun va s f r e => ?_)
      refine pc_cals (t_drop r e (bd hb)) (fun s8 u => pc_ret (fin f u))
    · have z : fkX σ i.toNatClampNeg = true := by
        unfold fkX
        rw [← ev]
        refine decide_eq_true (fun w => y (h17.mpr (fun u => u.2 w)))
      rw [z] at hb ⊢
      rw [if_pos rfl]
      refine pop (by omega) (fun va s f r e => ?_)
      refine pc_ix (fun _ => ?_)
      refine pc_lt fun s22 e22 => ?_
      rw [e22]
      exact pc_ret ⟨FR.st f (by decide), n, tr, r.tst e, EXT.rf, by show nzT n tr + pFr P ≤ nzT n tr + pFr P + 1; omega⟩
  · have gg : isBi g.toInt ∨ g.toInt = 33 ∨ g.toInt = 110 := by omega
    have nn : 1 ≤ pHt P ∧ (isBi g.toInt → 2 ≤ pHt P) := by
      rcases gg with z | z
      · have e1 : ndI g.toInt = 2 := by unfold ndI; rw [if_pos (by omega)]
        exact ⟨by omega, fun _ => by omega⟩
      · have e1 : ndI g.toInt = 1 := by unfold ndI; rw [if_neg (by omega), if_pos (by omega)]
        exact ⟨by omega, fun z => by omega⟩
    have es : pStep g v (fkX σ i.toNatClampNeg) P = pStep g 0 false P := by
      rcases gg with z | z | z
      · rw [pStep_b z, pStep_b z]
      · rw [pStep_33 z, pStep_33 z]
      · rw [pStep_110 z, pStep_110 z]
    rw [es]
    refine pc_cals (t_operate h gg nn.1 nn.2 h6 z505 hs) (fun s u => pc_ret u)
end
