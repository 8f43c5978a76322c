/-- a value that names an expression, or none -/
def EXV (v : Int32) (n : Nat) (tr : Nat → Term) (o : Option Term) : Prop := (o = none ∧ v.toInt = -1) ∨ ∃ t e, o = some t ∧ v.toInt = ((e : Nat) : Int) ∧ e < n ∧ tr e = t
/-- a pool goes on -/
def EXT (n : Nat) (tr : Nat → Term) (n2 : Nat) (tr2 : Nat → Term) : Prop := n ≤ n2 ∧ ∀ d, d < n → tr2 d = tr d
theorem EXT.rf {n : Nat} {tr : Nat → Term} : EXT n tr n tr := ⟨Nat.le_refl _, fun _ _ => rfl⟩
theorem EXT.tr {n n2 n3 : Nat} {t t2 t3 : Nat → Term} (h : EXT n t n2 t2) (g : EXT n2 t2 n3 t3) : EXT n t n3 t3 := ⟨Nat.le_trans h.1 g.1, fun d hd => (g.2 d (Nat.lt_of_lt_of_le hd h.1)).trans (h.2 d hd)⟩
theorem EXV.up {v : Int32} {n n2 : Nat} {tr tr2 : Nat → Term} {o : Option Term} (h : EXV v n tr o) (g : EXT n tr n2 tr2) : EXV v n2 tr2 o := by
  rcases h with h | ⟨t, e, h1, h2, h3_, h4⟩
  · exact Or.inl h
  · exact Or.inr ⟨t, e, h1, h2, Nat.lt_of_lt_of_le h3_ g.1, (g.2 e h3_).trans h4⟩
theorem EXV.so {v : Int32} {n : Nat} {tr : Nat → Term} {t : Term} (h : EXV v n tr (some t)) : ∃ e : Nat, v.toInt = (e : Int) ∧ e < n ∧ tr e = t ∧ v.toNatClampNeg = e := by
  rcases h with h | ⟨t', e, h1, h2, h3_, h4⟩
  · exact absurd h.1 (by simp)
  · have c := clamp_I (x := v) (by omega)
    exact ⟨e, h2, h3_, by rw [h4]; exact (Option.some.inj h1).symm, by omega⟩
theorem EXV.mk {v : Int32} {n : Nat} {tr : Nat → Term} {t : Term} {e : Nat} (h1 : v.toInt = (e : Int)) (h2 : e < n) (h3_ : tr e = t) : EXV v n tr (some t) := Or.inr ⟨t, e, rfl, h1, h2, h3_⟩
/-- a statement's row -/
def STX (σ : Sto) (n : Nat) (tr : Nat → Term) (j : Nat) (S : Int × Int × Option Term) : Prop := (σ.1 53 j).toInt = S.1 ∧ (σ.1 54 j).toInt = S.2.1 ∧ EXV (σ.1 55 j) n tr S.2.2
/-- which block is lifted, and what stands of the others' tests -/
abbrev BTy : Type := Nat × (Nat → Int32)
/-- the class while it lifts, and the pure machine -/
def RLP (b : BTy) (σ : Sto) (n : Nat) (tr : Nat → Term) (P : PSt) : Prop := PLX σ n tr ∧ (σ.1 61 0).toInt = (pHt P : Int) ∧ (∀ i, i < pHt P → EXV (σ.1 60 i) n tr (some (pKs P i))) ∧ (σ.1 52 0).toInt = (pNn P : Int) ∧ (∀ j, j < pNn P → STX σ n tr j (pSm P j)) ∧ (σ.1 58 0).toInt = (pFr P : Int) ∧ EXV (σ.1 57 b.1) n tr (pTs P) ∧ ∀ c, c ≠ b.1 → σ.1 57 c = b.2 c
theorem PLX.cg {σ s : Sto} {n : Nat} {tr : Nat → Term} (h : PLX σ n tr) (e : ∀ k, k = 46 ∨ k = 47 ∨ k = 48 ∨ k = 49 ∨ k = 50 ∨ k = 51 → s.1 k = σ.1 k) : PLX s n tr := by
  unfold PLX at h ⊢
  rw [e 46 (by omega), e 47 (by omega), e 48 (by omega), e 49 (by omega), e 50 (by omega), e 51 (by omega)]
  exact h
section
variable {b : BTy} {n : Nat} {σ : Sto} {tr : Nat → Term} {P : PSt}
theorem t_push {v : Int32} {t : Term} (h : RLP b σ n tr P) (hv : EXV v n tr (some t)) (h8 : pHt P < 8) : PC (f_X1_push v σ) (fun s => FR [60, 61] [] σ s ∧ RLP b s n tr (pPush t P)) := by
  have k_8 : (8 : Int32).toInt = 8 := by decide +kernel
  obtain ⟨h1, h2, h3_, h4, h5, h6, h7⟩ := h
  unfold f_X1_push
  refine pc_ite (fun c => ?_) (fun c => ?_)
  · rw [fa_le, k_8] at c
    omega
  have cn : (σ.1 61 0).toNatClampNeg = pHt P := by
    have := clamp_I (x := σ.1 61 0) (by omega)
    omega
  refine pc_ix (fun _ => ?_)
  rw [cn]
  refine pc_lt fun s2 e2 => ?_
  refine pc_lt fun s3 e3 => ?_
  have o3 : ∀ {k : Nat}, k ≠ 60 ∧ k ≠ 61 → s3.1 k = σ.1 k := fun {k} hk => by rw [e3, sti_o hk.2, e2, sti_o hk.1]
  refine pc_ret ⟨by rw [e3, e2]; exact FR.st (FR.st FR.rf (by decide)) (by decide), h1.cg (fun k hk => o3 (by omega)), ?_, fun i hi => ?_, by rw [o3 (by decide)]; exact h4, fun j hj => ?_, by rw [o3 (by decide)]; exact h6, by rw [o3 (by decide)]; exact h7⟩
  · rw [e3, sti_s, e2, sti_o (by decide), i1 (by omega)]
    show _ = ((pHt P + 1 : Nat) : Int)
    omega
  · have hi : i < pHt P + 1 := hi
    show EXV (s3.1 60 i) n tr (some (upT (pKs P) (pHt P) t i))
    rw [e3, sti_o (by decide), e2, sti_if]
    by_cases q : i = pHt P
    · rw [if_pos q, q, upT_s]; exact hv
    · rw [if_neg q, upT_n q]; exact h3_ i (by omega)
  · have q := h5 j hj
    unfold STX at q ⊢
    rw [o3 (by decide), o3 (by decide), o3 (by decide)]
    exact q
theorem t_pop (h : RLP b σ n tr P) (h0 : 0 < pHt P) : PC (f_X1_pop σ) (fun r => FR [61] [] σ r.2 ∧ RLP b r.2 n tr (pPop P) ∧ EXV r.1 n tr (some (pTop P))) := by
  have k_0 : (0 : Int32).toInt = 0 := by decide +kernel
  obtain ⟨h1, h2, h3_, h4, h5, h6, h7⟩ := h
  unfold f_X1_pop
  refine pc_jnI1 (fun s => s = sti σ 61 0 ((σ.1 61 0) - 1)) (fun s es => ?_) (fun k hk => ?_)
  · have m : (s.1 61 0).toInt = ((pHt P - 1 : Nat) : Int) := by rw [es, sti_s, i32_m1 (by omega)]; omega
    have o : ∀ {k : Nat}, k ≠ 61 → s.1 k = σ.1 k := fun {k} hk => by rw [es, sti_o hk]
    have c : (s.1 61 0).toNatClampNeg = pHt P - 1 := by
      have := clamp_I (x := s.1 61 0) (by omega)
      omega
    refine pc_ix (fun _ => ?_)
    rw [c]
    refine pc_lt fun v2 e2 => ?_
    rw [o (by decide)] at e2
    refine pc_ret ⟨by rw [es]; exact FR.st FR.rf (by decide), ⟨h1.cg (fun k hk => o (by omega)), m, fun i hi => ?_, by rw [o (by decide)]; exact h4, fun j hj => ?_, by rw [o (by decide)]; exact h6, by rw [o (by decide)]; exact h7⟩, by rw [e2]; exact h3_ _ (by omega)⟩
    · have hi : i < pHt P - 1 := hi
      rw [o (by decide)]; exact h3_ i (by omega)
    · have q := h5 j hj
      unfold STX at q ⊢
      rw [o (by decide), o (by decide), o (by decide)]
      exact q
  · refine pc_ite (fun c => ?_) (fun c => ?_)
    · rw [fa_le, k_0] at c
      omega
    · exact pc_lt fun s4 e4 => hk s4 e4
theorem t_add {k w v : Int32} {o : Option Term} (h : RLP b σ n tr P) (hv : EXV v n tr o) (h3 : pNn P < 320) : PC (f_X1_add k w v σ) (fun s => FR [52, 53, 54, 55] [] σ s ∧ RLP b s n tr (pAdd k.toInt w.toInt o P)) := by
  have k_320 : (320 : Int32).toInt = 320 := by decide +kernel
  obtain ⟨h1, h2, h3_, h4, h5, h6, h7⟩ := h
  unfold f_X1_add
  refine pc_ite (fun c => ?_) (fun c => ?_)
  · rw [fa_le, k_320] at c
    omega
  have cn : (σ.1 52 0).toNatClampNeg = pNn P := by
    have := clamp_I (x := σ.1 52 0) (by omega)
    omega
  refine pc_ix (fun _ => ?_)
  rw [cn]
  refine pc_lt fun s2 e2 => ?_
  have r2 : s2.1 52 = σ.1 52 := by rw [e2, sti_o (by decide)]
  refine pc_ix (fun _ => ?_)
  rw [r2, cn]
  refine pc_lt fun s3 e3 => ?_
  have r3 : s3.1 52 = σ.1 52 := by rw [e3, sti_o (by decide)]; exact r2
  refine pc_ix (fun _ => ?_)
  rw [r3, cn]
  refine pc_lt fun s4 e4 => ?_
  have r4 : s4.1 52 = σ.1 52 := by rw [e4, sti_o (by decide)]; exact r3
  refine pc_lt fun s5 e5 => ?_
  have o5 : ∀ {k : Nat}, k ≠ 52 ∧ k ≠ 53 ∧ k ≠ 54 ∧ k ≠ 55 → s5.1 k = σ.1 k := fun {k} hk => by rw [e5, sti_o hk.1, e4, sti_o hk.2.2.2, e3, sti_o hk.2.2.1, e2, sti_o hk.2.1]
  have q53 : ∀ i, s5.1 53 i = if i = pNn P then k else σ.1 53 i := fun i => by rw [e5, sti_o (by decide), e4, sti_o (by decide), e3, sti_o (by decide), e2, sti_if]
  have q54 : ∀ i, s5.1 54 i = if i = pNn P then w else σ.1 54 i := fun i => by rw [e5, sti_o (by decide), e4, sti_o (by decide), e3, sti_if, e2, sti_o (by decide)]
  have q55 : ∀ i, s5.1 55 i = if i = pNn P then v else σ.1 55 i := fun i => by rw [e5, sti_o (by decide), e4, sti_if, e3, sti_o (by decide), e2, sti_o (by decide)]
  refine pc_ret ⟨by rw [e5, e4, e3, e2]; exact FR.st (FR.st (FR.st (FR.st FR.rf (by decide)) (by decide)) (by decide)) (by decide), h1.cg (fun k hk => o5 (by omega)), by rw [o5 (by decide)]; exact h2, fun i hi => by rw [o5 (by decide)]; exact h3_ i hi, ?_, fun j hj => ?_, by rw [o5 (by decide)]; exact h6, by rw [o5 (by decide)]; exact h7⟩
  · rw [e5, sti_s, r4, i1 (by omega)]
    show _ = ((pNn P + 1 : Nat) : Int)
    omega
  · have hj : j < pNn P + 1 := hj
    show STX s5 n tr j (upT (pSm P) (pNn P) (k.toInt, w.toInt, o) j)
    unfold STX
    rw [q53, q54, q55]
    by_cases q : j = pNn P
    · rw [if_pos q, if_pos q, if_pos q, q, upT_s]
      exact ⟨rfl, rfl, hv⟩
    · rw [if_neg q, if_neg q, if_neg q, upT_n q]
      exact h5 j (by omega)
theorem STX.up {σ2 : Sto} {n2 : Nat} {tr2 : Nat → Term} {j : Nat} {S : Int × Int × Option Term} (h : STX σ n tr j S) (g : EXT n tr n2 tr2) (e : ∀ k, k = 53 ∨ k = 54 ∨ k = 55 → σ2.1 k = σ.1 k) : STX σ2 n2 tr2 j S := by
  unfold STX at h ⊢
  rw [e 53 (by omega), e 54 (by omega), e 55 (by omega)]
  exact ⟨h.1, h.2.1, h.2.2.up g⟩
/-- the pool alone went on -/
theorem RLP.pool {σ2 : Sto} {n2 : Nat} {tr2 : Nat → Term} (h : RLP b σ n tr P) (f : FR MPL [] σ σ2) (m : PLX σ2 n2 tr2) (g : EXT n tr n2 tr2) : RLP b σ2 n2 tr2 P := by
  obtain ⟨h1, h2, h3_, h4, h5, h6, h7⟩ := h
  have o : ∀ {k : Nat}, 51 < k → σ2.1 k = σ.1 k := fun {k} hk => f.1 k (by simp [MPL]; omega)
  exact ⟨m, by rw [o (by decide)]; exact h2, fun i hi => by rw [o (by decide)]; exact (h3_ i hi).up g, by rw [o (by decide)]; exact h4, fun j hj => (h5 j hj).up g (fun k hk => o (by omega)), by rw [o (by decide)]; exact h6, by rw [o (by decide)]; exact ⟨h7.1.up g, h7.2⟩⟩
theorem nz_ext {n2 : Nat} {tr2 : Nat → Term} (g : EXT n tr n2 tr2) : nzT n tr ≤ nzT n2 tr2 := by
  unfold nzT
  rw [fb_ct_cong (p := fun e => nT (tr e)) (q := fun e => nT (tr2 e)) (n := n) (fun k hk => by (try dsimp only); rw [g.2 k hk])]
  exact fb_ct_mono _ g.1
def oneT (t : Term) : Nat := if nT t = true then 1 else 0
theorem oneT_le (t : Term) : oneT t ≤ 1 := by unfold oneT; split <;> omega
theorem oneT_T (k : Nat) : oneT (.index k) = 0 := rfl
theorem MKA.cnt {σ : Sto} {t : Term} {r : Int32 × Sto} (m : MKA σ n tr t r) : ∃ n2 tr2, PLX r.2 n2 tr2 ∧ EXT n tr n2 tr2 ∧ nzT n2 tr2 ≤ nzT n tr + oneT t ∧ EXV r.1 n2 tr2 (some t) := by
  obtain ⟨f, n2, tr2, e, m1, m2, m3, m4, m5, m6⟩ := m
  have g : EXT n tr n2 tr2 := ⟨by omega, m2⟩
  refine ⟨n2, tr2, m1, g, ?_, EXV.mk m3 m4 m5⟩
  have eq : nzT n tr = fb_ct (fun e => nT (tr2 e)) n := fb_ct_cong (fun k hk => by (try dsimp only); rw [m2 k hk])
  rcases m6 with q | ⟨q, q2⟩
  · rw [q, eq]
    unfold nzT
    omega
  · rw [q, eq]
    unfold nzT
    rw [fb_ct_succ, ← q2, m5]
    unfold oneT
    omega
/-- behind make -/
theorem RLP.make {r : Int32 × Sto} {t : Term} (h : RLP b σ n tr P) (m : MKA σ n tr t r) : ∃ n2 tr2, RLP b r.2 n2 tr2 P ∧ EXT n tr n2 tr2 ∧ nzT n2 tr2 ≤ nzT n tr + oneT t ∧ EXV r.1 n2 tr2 (some t) ∧ FR MPL [] σ r.2 := by
  have f := m.1
  obtain ⟨n2, tr2, m1, m2, m3, m4⟩ := m.cnt
  exact ⟨n2, tr2, h.pool f m1 m2, m2, m3, m4, f⟩
abbrev MPA : List Nat := [46, 47, 48, 49, 50, 51, 52, 53, 54, 55, 58]
/-- what putAside answers -/
def PTA (b : BTy) (σ : Sto) (n : Nat) (tr : Nat → Term) (P : PSt) (t : Term) (r : Int32 × Sto) : Prop := FR MPA [] σ r.2 ∧ ∃ n2 tr2, RLP b r.2 n2 tr2 (pPut t P) ∧ EXT n tr n2 tr2 ∧ nzT n2 tr2 ≤ nzT n tr + 1 ∧ EXV r.1 n2 tr2 (some (tX (pFr P)))
theorem t_putAside {v : Int32} {t : Term} (h : RLP b σ n tr P) (hv : EXV v n tr (some t)) (h3 : pNn P < 320) (hf : pFr P < 160) (hn : nzT n tr ≤ 505) : PC (f_X1_putAside v σ) (PTA b σ n tr P t) := by
  have k_0 : (0 : Int32).toInt = 0 := by decide +kernel
  have k_2 : (2 : Int32).toInt = 2 := by decide +kernel
  have k_88 : (88 : Int32).toInt = 88 := by decide +kernel
  have k_160 : (160 : Int32).toInt = 160 := by decide +kernel
  have f6 := h.2.2.2.2.2.1
  unfold f_X1_putAside
  refine pc_cals (t_add h hv h3) (fun s1 q => ?_)
  obtain ⟨q1, q2⟩ := q
  have e58 : s1.1 58 = σ.1 58 := q1.1 58 (by decide)
  have c58 : (s1.1 58 0).toNatClampNeg = pFr P := by
    have := clamp_I (x := s1.1 58 0) (by rw [e58]; omega)
    rw [e58] at this ⊢
    omega
  have mk : mkX 88 (s1.1 58 0) 0 tr = tX (pFr P) := by rw [mkX_x k_88, c58]
  refine pc_calv (t_make (sg := 88) (lf := s1.1 58 0) (rt := 0) q2.1 (Or.inr (Or.inr (Or.inr (Or.inl ⟨k_88, by rw [e58]; omega, by rw [e58]; omega, rfl⟩)))) (by have := h.1.nz_; omega) (by rw [mk]; show 1 ≤ 60; omega)) (fun v2 s2 w => ?_)
  rw [mk] at w
  obtain ⟨n2, tr2, w1, w2, w3, w4, w5⟩ := q2.make w
  (try dsimp only at w1 w4 w5)
  have F2 : FR MPA [] σ s2 := FR.cal (FR.cal FR.rf q1 rfl rfl) w5 rfl rfl
  have g58 : s2.1 58 = σ.1 58 := (w5.1 58 (by decide)).trans e58
  refine pc_ite (fun c => ?_) (fun c => ?_)
  · rw [fa_le, k_160, g58] at c
    omega
  refine pc_lt fun s4 e4 => ?_
  have o4 : ∀ {k : Nat}, k ≠ 58 → s4.1 k = s2.1 k := fun {k} hk => by rw [e4, sti_o hk]
  obtain ⟨y1, y2, y3, y4, y5, y6, y7⟩ := w1
  refine pc_ret ⟨by rw [e4]; exact FR.st F2 (by decide), n2, tr2, ⟨y1.cg (fun k hk => o4 (by omega)), by rw [o4 (by decide)]; exact y2, fun i hi => by rw [o4 (by decide)]; exact y3 i hi, by rw [o4 (by decide)]; exact y4, fun j hj => ?_, ?_, by rw [o4 (by decide)]; exact y7⟩, w2, (by have := oneT_le (tX (pFr P)); omega), w4⟩
  · have z := (y5 j hj).up (σ2 := s4) EXT.rf (fun k hk => o4 (by omega))
    show STX s4 n2 tr2 j (upT (pSm P) (pNn P) (2, (pFr P : Int), some t) j)
    have e : pSm (pAdd (2 : Int32).toInt (σ.1 58 0).toInt (some t) P) j = upT (pSm P) (pNn P) (2, (pFr P : Int), some t) j := by
      show upT (pSm P) (pNn P) ((2 : Int32).toInt, (σ.1 58 0).toInt, some t) j = _
      rw [k_2, f6]
    rw [e] at z
    exact z
  · rw [e4, sti_s, g58, i1 (by omega), f6]
    show (pFr P : Int) + 1 = ((pFr P + 1 : Nat) : Int)
    omega
end
