section
variable {b : BTy} {n : Nat} {σ : Sto} {tr : Nat → Term} {P : PSt}
theorem PBD.le {Q Q2 : PSt} {c : Nat} (h : PBD n tr P Q c) (g : PLE Q2 Q) : PBD n tr P Q2 0 := ⟨Nat.le_trans g.1 h.1, Nat.le_trans g.2.1 h.2.1, by have := h.2.2; have := g.2.1; omega⟩
theorem PBD.go {Q Q1 : PSt} {c c1 c2 n2 : Nat} {tr2 : Nat → Term} (h : PBD n tr P Q c) (hc : c1 + c2 ≤ c) (g : nzT n2 tr2 + pFr P ≤ nzT n tr + pFr Q1 + c1) : PBD n2 tr2 Q1 Q c2 := ⟨h.1, h.2.1, by have := h.2.2; omega⟩
theorem RLA.cal {ms ms2 : List Nat} {s1 s2 : Sto} {n2 c1 c2 c : Nat} {tr2 : Nat → Term} {Q1 Q : PSt} (f : FR ms [] σ s1) (x : EXT n tr n2 tr2) (g : nzT n2 tr2 + pFr P ≤ nzT n tr + pFr Q1 + c1) (u : RLA b ms2 s1 n2 tr2 Q1 Q c2 s2) (hm : ms2.all (fun k => ms.contains k) = true) (hc : c1 + c2 ≤ c) : RLA b ms σ n tr P Q c s2 := by
  obtain ⟨u1, n3, tr3, u2, u3, u4⟩ := u
  exact ⟨FR.cal f u1 hm rfl, n3, tr3, u2, x.tr u3, by omega⟩
theorem PLX.kind {e : Nat} (h : PLX σ n tr) (he : e < n) : ((σ.1 47 e).toInt = 107 ↔ isNu (tr e) = true) ∧ ((σ.1 47 e).toInt = 108 ∨ (σ.1 47 e).toInt = 84 ∨ (σ.1 47 e).toInt = 88 ↔ isNm (tr e) = true) := by
  obtain ⟨w, q, _⟩ := h.2.2.1 e he
  rw [q]
  rcases w with w | w | w | w | w | w | w
  · rw [mkX_k w.1]; exact ⟨⟨fun _ => rfl, fun _ => w.1⟩, ⟨fun z => by omega, fun z => absurd z (by simp [isNm])⟩⟩
  · rw [mkX_l w.1]; exact ⟨⟨fun z => by omega, fun z => absurd z (by simp [isNu])⟩, ⟨fun _ => rfl, fun _ => Or.inl w.1⟩⟩
  · rw [mkX_t w.1]; exact ⟨⟨fun z => by omega, fun z => absurd z (by simp [isNu])⟩, ⟨fun _ => rfl, fun _ => Or.inr (Or.inl w.1)⟩⟩
  · rw [mkX_x w.1]; exact ⟨⟨fun z => by omega, fun z => absurd z (by simp [isNu])⟩, ⟨fun _ => rfl, fun _ => Or.inr (Or.inr w.1)⟩⟩
  · rw [mkX_i w.1]; exact ⟨⟨fun z => by omega, fun z => absurd z (by simp [isNu])⟩, ⟨fun z => by omega, fun z => absurd z (by simp [isNm])⟩⟩
  · rcases w.1 with y | y
    · rw [mkX_n y]; exact ⟨⟨fun z => by omega, fun z => absurd z (by simp [isNu])⟩, ⟨fun z => by omega, fun z => absurd z (by simp [isNm])⟩⟩
    · rw [mkX_g y]; exact ⟨⟨fun z => by omega, fun z => absurd z (by simp [isNu])⟩, ⟨fun z => by omega, fun z => absurd z (by simp [isNm])⟩⟩
  · have w1 := w.1
    rw [mkX_b w.1]; exact ⟨⟨fun z => by omega, fun z => absurd z (by simp [isNu])⟩, ⟨fun z => by omega, fun z => absurd z (by simp [isNm])⟩⟩
theorem t_hasEff {v : Int32} {t : Term} (h : PLX σ n tr) (hv : EXV v n tr (some t)) : PC (f_X7_hasEffects v σ) (fun r => r = 0 ↔ ¬ tEff t = true) := by
  obtain ⟨e, v1, v2, v3, v4⟩ := hv.so
  unfold f_X7_hasEffects
  refine pc_ix (fun _ => ?_)
  refine pc_lt fun x1 e1 => ?_
  have tb := h.at_ v2
  rw [v3] at tb
  have m := MASK.eff _ _ tb
  rw [v4] at e1
  rw [← e1] at m
  refine pc_ite (fun c => pc_ret ?_) (fun c => pc_ret ?_)
  · have z : tEff t = false := m.mp c
    exact ⟨fun _ => by rw [z]; decide, fun _ => rfl⟩
  · exact ⟨fun q => absurd q (by decide), fun z => absurd (m.mpr (bf z)) c⟩
theorem t_isName {v : Int32} {t : Term} (h : PLX σ n tr) (hv : EXV v n tr (some t)) : PC (f_X7_isName v σ) (fun r => r = 0 ↔ ¬ isNm t = true) := by
  have k_108 : (108 : Int32).toInt = 108 := by decide +kernel
  have k_84 : (84 : Int32).toInt = 84 := by decide +kernel
  have k_88 : (88 : Int32).toInt = 88 := by decide +kernel
  obtain ⟨e, v1, v2, v3, v4⟩ := hv.so
  have kd := (h.kind v2).2
  rw [v3] at kd
  unfold f_X7_isName
  refine pc_ix (fun _ => ?_)
  rw [v4]
  refine pc_lt fun x1 e1 => ?_
  refine pc_jnI0 (isNm t = true) (fun z => pc_ret ⟨fun q => absurd q (by decide), fun q => absurd z q⟩) (fun k hk => ?_)
  refine pc_ite (fun c => hk (kd.mp (Or.inl (by rw [fa_eq, k_108, e1] at c; exact c)))) (fun c => ?_)
  refine pc_ix (fun _ => ?_)
  refine pc_lt fun x4 e4 => ?_
  refine pc_ite (fun c2 => hk (kd.mp (Or.inr (Or.inl (by rw [fa_eq, k_84, e4] at c2; exact c2))))) (fun c2 => ?_)
  refine pc_ix (fun _ => ?_)
  refine pc_lt fun x6 e6 => ?_
  refine pc_ite (fun c3 => hk (kd.mp (Or.inr (Or.inr (by rw [fa_eq, k_88, e6] at c3; exact c3))))) (fun c3 => ?_)
  rw [fa_eq, k_108, e1] at c
  rw [fa_eq, k_84, e4] at c2
  rw [fa_eq, k_88, e6] at c3
  refine pc_ret ⟨fun _ z => ?_, fun _ => rfl⟩
  have := kd.mpr z
  omega
theorem t_spadd {m k w v : Int32} {k2 w2 : Int} {o : Option Term} {q : Term → Bool} (hm : MASK m q) (h : RLP b σ n tr P) (hv : EXV v n tr o) (ek : k.toInt = k2) (ew : w.toInt = w2) (hb : PBD n tr P (pAdd k2 w2 o (pSp q (pHt P) P)) 0) : PC (cals (f_X1_spill m σ) fun s_2 => cals (f_X1_add k w v s_2) fun s_3 => some s_3) (RLA b MPB σ n tr P (pAdd k2 w2 o (pSp q (pHt P) P)) 0) := by
  subst ek
  subst ew
  obtain ⟨b1, b2, b3⟩ := hb
  have b1 : pNn (pSp q (pHt P) P) + 1 ≤ 320 := b1
  have b2 : pFr (pSp q (pHt P) P) ≤ 160 := b2
  have b3 : nzT n tr + pFr (pSp q (pHt P) P) + 0 ≤ 500 + pFr P := b3
  refine pc_cals (t_spill hm h ⟨by omega, b2, b3⟩) (fun s2 w_ => ?_)
  obtain ⟨w1, n2, tr2, w2, w3, w4⟩ := w_
  refine pc_cals (t_add w2 (hv.up w3) (by omega)) (fun s3 u => ?_)
  exact pc_ret ⟨FR.cal w1 u.1 rfl rfl, n2, tr2, u.2, w3, w4⟩
theorem t_drop {v : Int32} {t : Term} (h : RLP b σ n tr P) (hv : EXV v n tr (some t)) (hb : PBD n tr P (pDrop t P) 0) : PC (f_X1_drop v σ) (RLA b MPB σ n tr P (pDrop t P) 0) := by
  unfold f_X1_drop
  refine pc_calp (t_hasEff h.1 hv) (fun r hr => ?_)
  refine pc_ite (fun c => ?_) (fun c => ?_)
  · rw [pDrop_2 (hr.mp c)]
    exact pc_ret ⟨FR.rf, n, tr, h, EXT.rf, Nat.le_refl _⟩
  · have z : tEff t = true := by
      cases y : tEff t with
      | true => rfl
      | false => exact absurd (hr.mpr (by rw [y]; decide)) c
    rw [pDrop_1 z] at hb ⊢
    exact t_spadd MASK.eff h hv (by decide +kernel) (by decide +kernel) hb
abbrev MST : List Nat := [46, 47, 48, 49, 50, 51, 52, 53, 54, 55, 57, 58, 60, 61]
theorem t_twice (h : RLP b σ n tr P) (h0 : 0 < pHt P) (h6 : pHt P ≤ 6) (hb : PBD n tr P (pTwice P) 0) : PC (f_X1_twice σ) (RLA b MST σ n tr P (pTwice P) 0) := by
  have k_107 : (107 : Int32).toInt = 107 := by decide +kernel
  unfold f_X1_twice
  refine pc_calv (t_pop h h0) (fun va s1 w => ?_)
  obtain ⟨w1, w2, w3⟩ := w
  (try dsimp only at w1 w2 w3)
  obtain ⟨e, v1, v2, v3, v4⟩ := w3.so
  have kd := w2.1.kind v2
  rw [v3] at kd
  have pp : pHt (pPop P) = pHt P - 1 := rfl
  refine pc_ix (fun _ => ?_)
  refine pc_lt fun x2 e2 => ?_
  rw [v4] at e2
  refine pc_jnI2 (fun x s => FR MST [] σ s ∧ ∃ n2 tr2 t Q, pTwice P = pPush t (pPush t Q) ∧ pHt Q = pHt P - 1 ∧ RLP b s n2 tr2 Q ∧ EXT n tr n2 tr2 ∧ nzT n2 tr2 + pFr P ≤ nzT n tr + pFr Q ∧ EXV x n2 tr2 (some t)) (fun x s J => ?_) (fun k hk => ?_)
  · obtain ⟨j1, n2, tr2, t, Q, j2, j3, j4, j5, j6, j7⟩ := J
    refine pc_cals (t_push j4 j7 (by omega)) (fun s4 u => ?_)
    refine pc_cals (t_push u.2 j7 (by show pHt Q + 1 < 8; omega)) (fun s5 y => ?_)
    rw [j2]
    exact pc_ret ⟨FR.cal (FR.cal j1 u.1 rfl rfl) y.1 rfl rfl, n2, tr2, y.2, j5, j6⟩
  · have one : (isNu (pTop P) || isNm (pTop P)) = true → PC (k va s1) (RLA b MST σ n tr P (pTwice P) 0) := fun z => hk va s1 ⟨FR.cal FR.rf w1 rfl rfl, n, tr, pTop P, pPop P, pTwice_1 z, pp, w2, EXT.rf, Nat.le_refl _, w3⟩
    refine pc_ite (fun c => one ?_) (fun c => ?_)
    · rw [fa_eq, k_107, e2] at c
      rw [kd.1.mp c]; rfl
    · rw [fa_eq, k_107, e2] at c
      refine pc_calp (t_isName w2.1 w3) (fun v7 h7 => ?_)
      refine pc_ite (fun c2 => ?_) (fun c2 => one ?_)
      · have z : ¬ (isNu (pTop P) || isNm (pTop P)) = true := fun y => by
          rw [Bool.or_eq_true] at y
          rcases y with y | y
          · exact c (kd.1.mpr y)
          · exact h7.mp c2 y
        have pt := pTwice_2 z
        rw [pt] at hb
        obtain ⟨b1, b2, b3⟩ := hb
        have b1 : pNn (pSp qEff (pHt (pPop P)) (pPop P)) + 1 ≤ 320 := b1
        have b2 : pFr (pSp qEff (pHt (pPop P)) (pPop P)) + 1 ≤ 160 := b2
        have b3 : nzT n tr + (pFr (pSp qEff (pHt (pPop P)) (pPop P)) + 1) + 0 ≤ 500 + pFr (pPop P) := b3
        refine pc_cals (t_spill MASK.eff w2 ⟨by omega, by omega, by omega⟩) (fun s9 y => ?_)
        obtain ⟨y1, n2, tr2, y2, y3, y4⟩ := y
        refine pc_calv (t_putAside y2 (w3.up y3) (by omega) (by omega) (by omega)) (fun v10 s10 u => ?_)
        obtain ⟨u1, n3, tr3, u2, u3, u4, u5⟩ := u
        (try dsimp only at u1 u2 u5)
        refine hk v10 s10 ⟨FR.cal (FR.cal (FR.cal FR.rf w1 rfl rfl) y1 rfl rfl) u1 rfl rfl, n3, tr3, _, _, pt, ?_, u2, y3.tr u3, ?_, u5⟩
        · show pHt (pSp qEff (pHt (pPop P)) (pPop P)) = _
          rw [pSp_h, pp]
        · have y4 : nzT n2 tr2 + pFr P ≤ nzT n tr + pFr (pSp qEff (pHt (pPop P)) (pPop P)) + 0 := y4
          show nzT n3 tr3 + pFr P ≤ nzT n tr + (pFr (pSp qEff (pHt (pPop P)) (pPop P)) + 1)
          omega
      · cases y : isNm (pTop P) with
        | true => rw [Bool.or_true]
        | false => exact absurd (h7.mpr (by rw [y]; decide)) c2
theorem t_exch (h : RLP b σ n tr P) (h2 : 2 ≤ pHt P) (h6 : pHt P ≤ 6) (hb : PBD n tr P (pExch P) 0) : PC (f_X1_exchange σ) (RLA b MST σ n tr P (pExch P) 0) := by
  have k_0 : (0 : Int32).toInt = 0 := by decide +kernel
  unfold f_X1_exchange
  refine pc_calv (t_pop h (by omega)) (fun va s1 w => ?_)
  obtain ⟨w1, w2, w3⟩ := w
  (try dsimp only at w1 w2 w3)
  have pp : pHt (pPop P) = pHt P - 1 := rfl
  have h61 : (s1.1 61 0).toInt = ((pHt P - 1 : Nat) : Int) := w2.2.1
  refine pc_jnI1 (fun s => FR MST [] σ s ∧ ∃ n2 tr2 Q, pExch P = pPush (pTop Q) (pPush (pTop P) (pPop Q)) ∧ pHt Q = pHt P - 1 ∧ RLP b s n2 tr2 Q ∧ EXT n tr n2 tr2 ∧ nzT n2 tr2 + pFr P ≤ nzT n tr + pFr Q ∧ EXV va n2 tr2 (some (pTop P))) (fun s J => ?_) (fun k hk => ?_)
  · obtain ⟨j1, n2, tr2, Q, j2, j3, j4, j5, j6, j7⟩ := J
    refine pc_calv (t_pop j4 (by omega)) (fun v3 s3 u => ?_)
    obtain ⟨u1, u2, u3⟩ := u
    (try dsimp only at u1 u2 u3)
    refine pc_cals (t_push u2 j7 (by show pHt Q - 1 < 8; omega)) (fun s4 y => ?_)
    refine pc_cals (t_push y.2 u3 (by show pHt Q - 1 + 1 < 8; omega)) (fun s5 z => ?_)
    rw [j2]
    exact pc_ret ⟨FR.cal (FR.cal (FR.cal j1 u1 rfl rfl) y.1 rfl rfl) z.1 rfl rfl, n2, tr2, z.2, j5, j6⟩
  · have one : ¬ (tEff (pTop P) && tEff (pTop (pPop P))) = true → PC (k s1) (RLA b MST σ n tr P (pExch P) 0) := fun z => hk s1 ⟨FR.cal FR.rf w1 rfl rfl, n, tr, pPop P, pExch_2 z, pp, w2, EXT.rf, Nat.le_refl _, w3⟩
    refine pc_ite (fun c => ?_) (fun c => ?_)
    · rw [fa_le, k_0] at c
      omega
    · refine pc_calp (t_hasEff w2.1 w3) (fun v7 h7 => ?_)
      refine pc_ite (fun c2 => one ?_) (fun c2 => ?_)
      · intro z
        rw [Bool.and_eq_true] at z
        exact h7.mp c2 z.1
      · have t1 : tEff (pTop P) = true := by
          cases y : tEff (pTop P) with
          | true => rfl
          | false => exact absurd (h7.mpr (by rw [y]; decide)) c2
        have m1 : ((s1.1 61 0) - 1).toInt = (s1.1 61 0).toInt - 1 := i32_m1 (by omega)
        have c1 : ((s1.1 61 0) - 1).toNatClampNeg = pHt P - 1 - 1 := by
          have := clamp_I (x := (s1.1 61 0) - 1) (by omega)
          omega
        refine pc_ix (fun _ => ?_)
        rw [c1]
        refine pc_lt fun v9 e9 => ?_
        have v := w2.2.2.1 (pHt P - 1 - 1) (by rw [pp]; omega)
        rw [← e9] at v
        have v' : EXV v9 n tr (some (pTop (pPop P))) := v
        refine pc_calp (t_hasEff w2.1 v') (fun v10 h10 => ?_)
        refine pc_ite (fun c3 => one ?_) (fun c3 => ?_)
        · intro z
          rw [Bool.and_eq_true] at z
          exact h10.mp c3 z.2
        · have t2 : tEff (pTop (pPop P)) = true := by
            cases y : tEff (pTop (pPop P)) with
            | true => rfl
            | false => exact absurd (h10.mpr (by rw [y]; decide)) c3
          have pe := pExch_1 (P := P) (by rw [t1, t2]; rfl)
          rw [pe] at hb
          obtain ⟨b1, b2, b3⟩ := hb
          have b1 : pNn (pSp qEff (pHt (pPop P)) (pPop P)) ≤ 320 := b1
          have b2 : pFr (pSp qEff (pHt (pPop P)) (pPop P)) ≤ 160 := b2
          have b3 : nzT n tr + pFr (pSp qEff (pHt (pPop P)) (pPop P)) + 0 ≤ 500 + pFr (pPop P) := b3
          refine pc_cals (t_spill MASK.eff w2 ⟨b1, b2, b3⟩) (fun s12 y => ?_)
          obtain ⟨y1, n2, tr2, y2, y3, y4⟩ := y
          exact hk s12 ⟨FR.cal (FR.cal FR.rf w1 rfl rfl) y1 rfl rfl, n2, tr2, _, pe, by rw [pSp_h, pp], y2, y3, y4, w3.up y3⟩
theorem isB_1 {g : Int32} (h : isBi g.toInt) : opB g := by unfold opB; omega
theorem isB_2 {g : Int32} (h : opB g) : isBi g.toInt := by unfold opB at h; omega
theorem t_operate {g : Int32} (h : RLP b σ n tr P) (hg : isBi g.toInt ∨ g.toInt = 33 ∨ g.toInt = 110) (h1 : 1 ≤ pHt P) (h2 : isBi g.toInt → 2 ≤ pHt P) (h6 : pHt P ≤ 6) (hz : nzT n tr ≤ 505) (hs : pG 0 (fun _ => tSz) tSz P ≤ 58) : PC (f_X1_operate g σ) (RLA b MST σ n tr P (pStep g 0 false P) 1) := by
  have k_0 : (0 : Int32).toInt = 0 := by decide +kernel
  unfold f_X1_operate
  refine pc_calv (t_pop h (by omega)) (fun va s1 w => ?_)
  obtain ⟨w1, w2, w3⟩ := w
  (try dsimp only at w1 w2 w3)
  obtain ⟨e, v1, v2, v3, v4⟩ := w3.so
  have pp : pHt (pPop P) = pHt P - 1 := rfl
  have nzn := h.1.nz_
  have sz1 : tSz (pTop P) ≤ pSum (fun _ => tSz) P := pSum_1 (ω := tSz) (i := pHt P - 1) (by omega)
  have hs' : 0 * pNn P + pSum (fun _ => tSz) P + pPs tSz P ≤ 58 := hs
  refine pc_calp (pc_ok s_X11_isBinary) (fun r hr => ?_)
  have hr1 := hr.1
  refine pc_ite (fun c => ?_) (fun c => ?_)
  · rw [fa_eq, k_0] at c
    have nb : ¬ isBi g.toInt := fun z => by
      have := hr.2.mpr (isB_1 z)
      omega
    have gu : g.toInt = 33 ∨ g.toInt = 110 := by omega
    have mk : ∃ t, mkX g va 0 tr = t ∧ tSz t = 1 + tSz (pTop P) ∧ pStep g 0 false P = pPush t (pPop P) := by
      rcases gu with z | z
      · exact ⟨_, rfl, by rw [mkX_n z, v4, v3]; rfl, by rw [pStep_33 z, mkX_n z, v4, v3]⟩
      · exact ⟨_, rfl, by rw [mkX_g z, v4, v3]; rfl, by rw [pStep_110 z, mkX_g z, v4, v3]⟩
    obtain ⟨t, m1, m2, m3⟩ := mk
    refine pc_calv (t_make (sg := g) (lf := va) (rt := 0) w2.1 (Or.inr (Or.inr (Or.inr (Or.inr (Or.inr (Or.inl ⟨gu, by omega, by omega, rfl⟩)))))) (by omega) (by rw [m1, m2]; omega)) (fun v4_ s4 u => ?_)
    rw [m1] at u
    obtain ⟨n2, tr2, u1, u2, u3, u4, u5⟩ := w2.make u
    (try dsimp only at u1 u4 u5)
    refine pc_cals (t_push u1 u4 (by rw [pp]; omega)) (fun s5 y => ?_)
    rw [m3]
    exact pc_ret ⟨FR.cal (FR.cal (FR.cal FR.rf w1 rfl rfl) u5 rfl rfl) y.1 rfl rfl, n2, tr2, y.2, u2, by have := oneT_le t; show nzT n2 tr2 + pFr P ≤ nzT n tr + pFr P + 1; omega⟩
  · rw [fa_eq, k_0] at c
    have gb : isBi g.toInt := isB_2 (hr.2.mp (by omega))
    have p2 := h2 gb
    refine pc_calv (t_pop w2 (by rw [pp]; omega)) (fun vb s6 u => ?_)
    obtain ⟨u1, u2, u3⟩ := u
    (try dsimp only at u1 u2 u3)
    obtain ⟨e', x1, x2, x3, x4⟩ := u3.so
    have m1 : mkX g vb va tr = bn g (pTop (pPop P)) (pTop P) := by rw [mkX_b gb, v4, v3, x4, x3]
    have gp : pG 0 (fun _ => tSz) tSz (pPop P) + tSz (pTop P) = pG 0 (fun _ => tSz) tSz P := pG_pop (α := 0) (φ := fun _ => tSz) (ψ := tSz) (by omega)
    have sz2 : tSz (pTop (pPop P)) ≤ pSum (fun _ => tSz) (pPop P) := pSum_1 (P := pPop P) (ω := tSz) (i := pHt P - 1 - 1) (by rw [pp]; omega)
    have gp' : 0 * pNn (pPop P) + pSum (fun _ => tSz) (pPop P) + pPs tSz (pPop P) + tSz (pTop P) ≤ 58 := by
      have q : 0 * pNn (pPop P) + pSum (fun _ => tSz) (pPop P) + pPs tSz (pPop P) = pG 0 (fun _ => tSz) tSz (pPop P) := rfl
      omega
    have sz3 : tSz (mkX g vb va tr) ≤ 60 := by
      rw [m1]
      show 1 + (tSz (pTop (pPop P)) + tSz (pTop P)) ≤ 60
      omega
    refine pc_calv (t_make (sg := g) (lf := vb) (rt := va) u2.1 (Or.inr (Or.inr (Or.inr (Or.inr (Or.inr (Or.inr ⟨gb, ⟨by omega, by omega⟩, by omega, by omega⟩)))))) (by omega) sz3) (fun v7 s7 y => ?_)
    rw [m1] at y
    obtain ⟨n2, tr2, y1, y2, y3, y4, y5⟩ := u2.make y
    (try dsimp only at y1 y4 y5)
    refine pc_cals (t_push y1 y4 (by show pHt P - 1 - 1 < 8; omega)) (fun s8 z => ?_)
    rw [pStep_b gb]
    exact pc_ret ⟨FR.cal (FR.cal (FR.cal (FR.cal FR.rf w1 rfl rfl) u1 rfl rfl) y5 rfl rfl) z.1 rfl rfl, n2, tr2, z.2, y2, by have := oneT_le (bn g (pTop (pPop P)) (pTop P)); show nzT n2 tr2 + pFr P ≤ nzT n tr + pFr P + 1; omega⟩
end
