section
variable {b : BTy} {n : Nat} {σ : Sto} {tr : Nat → Term} {P : PSt}
theorem MQm.no : MQm ((-1) : Int32) qEff := Or.inl ⟨by decide +kernel, rfl⟩
theorem PLM.nu {e : Nat} (h : PLM σ n tr) (he : e < n) : (σ.1 38 e).toInt = 0 ↔ isNu (tr e) = true := by
  obtain ⟨w, q⟩ := h.2 e he
  rw [q]
  rcases w with w | ⟨w | w | w, w2⟩ | w | ⟨w | w, w2, w3⟩ | ⟨w, w2, w3⟩
  · rw [mkM_0 w]; exact ⟨fun _ => rfl, fun _ => w⟩
  · rw [mkM_1 w]; exact ⟨fun z => by omega, fun z => absurd z (by simp [isNu])⟩
  · rw [mkM_2 w]; exact ⟨fun z => by omega, fun z => absurd z (by simp [isNu])⟩
  · rw [mkM_3 w]; exact ⟨fun z => by omega, fun z => absurd z (by simp [isNu])⟩
  · rw [mkM_4 w]; exact ⟨fun z => by omega, fun z => absurd z (by simp [isNu])⟩
  · rw [mkM_5 w]; exact ⟨fun z => by omega, fun z => absurd z (by simp [isNu])⟩
  · rw [mkM_6 w]; exact ⟨fun z => by omega, fun z => absurd z (by simp [isNu])⟩
  · rw [mkM_b w]; exact ⟨fun z => by omega, fun z => absurd z (by simp [isNu])⟩
abbrev MNU : List Nat := [38, 39, 40, 41, 42, 43, 44, 47, 48, 49, 50]
theorem m_doubles (h : RLM b σ n tr P) : PC (f_X12_doubles σ) (RMA b MNU σ n tr (pTwice P)) := by
  have k_0 : (0 : Int32).toInt = 0 := by decide +kernel
  unfold f_X12_doubles
  refine pc_calv (m_pop h) (fun va s1 w => ?_)
  obtain ⟨w1, w2, w3, w0⟩ := w
  (try dsimp only at w1 w2 w3)
  obtain ⟨e, v1, v2, v3, v4⟩ := w3.so
  have kd_ := w2.1.nu v2
  rw [v3] at kd_
  refine pc_ix (fun _ => ?_)
  refine pc_lt fun x2 e2 => ?_
  rw [v4] at e2
  refine pc_jnI2 (fun x s => FR MNU [] σ s ∧ ∃ n2 tr2 t Q, pTwice P = pPush t (pPush t Q) ∧ RLM b s n2 tr2 Q ∧ EXT n tr n2 tr2 ∧ EXV x n2 tr2 (some t)) (fun x s J => ?_) (fun k hk => ?_)
  · obtain ⟨j1, n2, tr2, t, Q, j2, j4, j5, j7⟩ := J
    refine pc_cals (m_lays j4 j7) (fun s4 u => ?_)
    refine pc_cals (m_lays u.2 j7) (fun s5 y => ?_)
    rw [j2]
    exact pc_ret ⟨FR.cal (FR.cal j1 u.1 rfl rfl) y.1 rfl rfl, n2, tr2, y.2, j5⟩
  · have one : (isNu (pTop P) || isNm (pTop P)) = true → PC (k va s1) (RMA b MNU σ n tr (pTwice P)) := fun z => hk va s1 ⟨FR.cal FR.rf w1 rfl rfl, n, tr, pTop P, pPop P, pTwice_1 z, w2, EXT.rf, w3⟩
    refine pc_ite (fun c => one ?_) (fun c => ?_)
    · rw [fa_eq, k_0, e2] at c
      rw [kd_.mp c]; rfl
    · rw [fa_eq, k_0, e2] at c
      refine pc_calp (m_isName w2.1 w3) (fun v7 h7 => ?_)
      refine pc_ite (fun c2 => ?_) (fun c2 => one ?_)
      · have z : ¬ (isNu (pTop P) || isNm (pTop P)) = true := fun y => by
          rw [Bool.or_eq_true] at y
          rcases y with y | y
          · exact c (kd_.mpr y)
          · exact h7.mp c2 y
        refine pc_cals (m_settles MQm.no w2 w2.2.1 (Nat.le_refl _)) (fun s9 y => ?_)
        obtain ⟨y1, n2, tr2, y2, y3⟩ := y
        refine pc_calv (m_fresh y2 (w3.up y3)) (fun v10 s10 u => ?_)
        obtain ⟨u1, n3, tr3, u2, u3, u5⟩ := u
        (try dsimp only at u1 u2 u5)
        exact hk v10 s10 ⟨FR.cal (FR.cal (FR.cal FR.rf w1 rfl rfl) y1 rfl rfl) u1.1 rfl rfl, n3, tr3, _, _, pTwice_2 z, u2, y3.tr u3, u5⟩
      · cases y : isNm (pTop P) with
        | true => rw [Bool.or_true]
        | false => exact absurd (h7.mpr (by rw [y]; decide)) c2
theorem m_alone {v : Int32} {t : Term} (h : RLM b σ n tr P) (hv : EXV v n tr (some t)) : PC (f_X12_alone v σ) (RMA b MNU σ n tr (pDrop t P)) := by
  unfold f_X12_alone
  refine pc_calp (m_hasEff h.1 250 v t hv) (fun r hr => ?_)
  refine pc_ite (fun c => ?_) (fun c => ?_)
  · rw [pDrop_2 (hr.mp c)]
    exact pc_ret ⟨FR.rf, n, tr, h, EXT.rf⟩
  · have z : tEff t = true := by
      cases y : tEff t with
      | true => rfl
      | false => exact absurd (hr.mpr (by rw [y]; decide)) c
    rw [pDrop_1 z]
    refine pc_cals (m_settles MQm.no h h.2.1 (Nat.le_refl _)) (fun s3 y => ?_)
    obtain ⟨y1, n2, tr2, y2, y3⟩ := y
    refine pc_cals (m_states (k2 := 4) (w2 := -1) y2 (hv.up y3) (by decide +kernel) (by decide +kernel)) (fun s4 u => ?_)
    exact pc_ret ⟨FR.cal (FR.cal FR.rf y1 rfl rfl) u.1 rfl rfl, n2, tr2, u.2, y3⟩
theorem m_changes (h : RLM b σ n tr P) : PC (f_X12_changes σ) (RMA b MNU σ n tr (pExch P)) := by
  unfold f_X12_changes
  have m1 : ((σ.1 50 0) - 1).toInt = (pHt P : Int) - 1 := by rw [i32_m1 (by rw [h.2.1]; omega), h.2.1]
  refine pc_ix (fun g => ?_)
  have h1 : 1 ≤ pHt P := by omega
  have c1 : ((σ.1 50 0) - 1).toNatClampNeg = pHt P - 1 := by
    have := clamp_I (x := (σ.1 50 0) - 1) (by omega)
    omega
  rw [c1]
  refine pc_lt fun v1 e1 => ?_
  have v := h.2.2.1 (pHt P - 1) (by omega)
  rw [← e1] at v
  have v' : EXV v1 n tr (some (pTop P)) := v
  refine pc_calp (m_hasEff h.1 250 v1 _ v') (fun v2 h2 => ?_)
  refine pc_jnI1 (fun s => FR MNU [] σ s ∧ ∃ n2 tr2 Q, pExch P = pPush (pTop Q) (pPush (pTop P) (pPop Q)) ∧ pHt Q = pHt P - 1 ∧ pKs Q (pHt P - 1) = pTop P ∧ EXT n tr n2 tr2 ∧ ∃ R, RLM b s n2 tr2 R ∧ pTop R = pTop P ∧ pPop R = Q) (fun s J => ?_) (fun k hk => ?_)
  · obtain ⟨j1, n2, tr2, Q, j2, j3, j4, j5, R, j6, j7, j8⟩ := J
    refine pc_calv (m_pop j6) (fun v4 s4 u => ?_)
    obtain ⟨u1, u2, u3, _⟩ := u
    (try dsimp only at u1 u2 u3)
    rw [j7] at u3
    rw [j8] at u2
    refine pc_calv (m_pop u2) (fun v5 s5 y => ?_)
    obtain ⟨y1, y2, y3, _⟩ := y
    (try dsimp only at y1 y2 y3)
    refine pc_cals (m_lays y2 u3) (fun s6 z => ?_)
    refine pc_cals (m_lays z.2 y3) (fun s7 z2 => ?_)
    rw [j2]
    exact pc_ret ⟨FR.cal (FR.cal (FR.cal (FR.cal j1 u1 rfl rfl) y1 rfl rfl) z.1 rfl rfl) z2.1 rfl rfl, n2, tr2, z2.2, j5⟩
  · have one : ¬ (tEff (pTop P) && tEff (pTop (pPop P))) = true → PC (k σ) (RMA b MNU σ n tr (pExch P)) := fun z => hk σ ⟨FR.rf, n, tr, pPop P, pExch_2 z, rfl, rfl, EXT.rf, P, h, rfl, rfl⟩
    refine pc_ite (fun c2 => one ?_) (fun c2 => ?_)
    · intro z
      rw [Bool.and_eq_true] at z
      exact h2.mp c2 z.1
    · have t1 : tEff (pTop P) = true := by
        cases y : tEff (pTop P) with
        | true => rfl
        | false => exact absurd (h2.mpr (by rw [y]; decide)) c2
      have m2 : ((σ.1 50 0) - 2).toInt = (pHt P : Int) - 2 := by rw [show (2 : Int32) = nI 2 by decide +kernel, i_sub (by decide) (by rw [h.2.1]; omega), h.2.1]; rfl
      refine pc_ix (fun g2 => ?_)
      have c22 : ((σ.1 50 0) - 2).toNatClampNeg = pHt P - 1 - 1 := by
        have := clamp_I (x := (σ.1 50 0) - 2) (by omega)
        omega
      rw [c22]
      refine pc_lt fun v9 e9 => ?_
      have w := h.2.2.1 (pHt P - 1 - 1) (by omega)
      rw [← e9] at w
      have w' : EXV v9 n tr (some (pTop (pPop P))) := w
      refine pc_calp (m_hasEff h.1 250 v9 _ w') (fun v10 h10 => ?_)
      refine pc_ite (fun c3 => one ?_) (fun c3 => ?_)
      · intro z
        rw [Bool.and_eq_true] at z
        exact h10.mp c3 z.2
      · have t2 : tEff (pTop (pPop P)) = true := by
          cases y : tEff (pTop (pPop P)) with
          | true => rfl
          | false => exact absurd (h10.mpr (by rw [y]; decide)) c3
        have pe := pExch_1 (P := P) (by rw [t1, t2]; rfl)
        refine pc_cals (m_settles (k := pHt P - 1) MQm.no h (by omega) (by omega)) (fun s12 y => ?_)
        obtain ⟨y1, n2, tr2, y2, y3⟩ := y
        have sp := pSp_pop (q := qEff) (P := P) (pHt P - 1)
        refine hk s12 ⟨FR.cal FR.rf y1 rfl rfl, n2, tr2, _, pe, by rw [pSp_h]; rfl, ?_, y3, _, y2, ?_, ?_⟩
        · have q := pSp_k (q := qEff) (P := pPop P) (pHt P - 1) (pHt P - 1) (Nat.le_refl _)
          exact q
        · show pKs (pSp qEff (pHt P - 1) P) (pHt (pSp qEff (pHt P - 1) P) - 1) = _
          rw [pSp_h, pSp_k _ _ (Nat.le_refl _)]; rfl
        · exact sp
theorem m_tail {m k w v : Int32} {k2 w2 : Int} {o : Option Term} {q : Term → Bool} (hm : MQm m q) (h : RLM b σ n tr P) (hv : EXV v n tr o) (ek : k.toInt = k2) (ew : w.toInt = w2) : PC (cals (f_X12_settles (σ.1 50 0) m σ) fun s_4 => cals (f_X12_states k w v s_4) fun s_7 => some s_7) (RMA b MNU σ n tr (pAdd k2 w2 o (pSp q (pHt P) P))) := by
  refine pc_cals (m_settles hm h h.2.1 (Nat.le_refl _)) (fun s4 y => ?_)
  obtain ⟨y1, n2, tr2, y2, y3⟩ := y
  refine pc_cals (m_states y2 (hv.up y3) ek ew) (fun s7 u => ?_)
  exact pc_ret ⟨FR.cal (FR.cal FR.rf y1 rfl rfl) u.1 rfl rfl, n2, tr2, u.2, y3⟩
/-- no node is -1 -/
theorem EXV.nm1 {v : Int32} {t : Term} (h : EXV v n tr (some t)) : ¬ v = (-1) := fun z => by
  obtain ⟨e, v1, _⟩ := h.so
  have k : ((-1) : Int32).toInt = -1 := by decide +kernel
  rw [z, k] at v1
  omega
theorem m_tells {x1 x2 : Int32} {c : Bool} (h : RLM b σ n tr P) (hx : x1.toInt = 115 ∨ x1.toInt = 111 ∨ x1.toInt = 116 ∨ x1.toInt = 114 ∨ x1.toInt = 103) (h2 : x1.toInt = 115 → 0 ≤ x2.toInt) : PC (f_X12_tells x1 x2 σ) (RMA b MNU σ n tr (pStep x1 x2 c P)) := by
  have k_115 : (115 : Int32).toInt = 115 := by decide +kernel
  have k_111 : (111 : Int32).toInt = 111 := by decide +kernel
  have k_116 : (116 : Int32).toInt = 116 := by decide +kernel
  have k_114 : (114 : Int32).toInt = 114 := by decide +kernel
  have k_m1 : ((-1) : Int32).toInt = -1 := by decide +kernel
  have ne : ∀ {y : Int32}, x1.toInt ≠ y.toInt → ¬ x1 = y := fun z w => z (by rw [w])
  have eq : ∀ {y : Int32}, x1.toInt = y.toInt → x1 = y := fun z => Int32.toInt_inj.mp z
  unfold f_X12_tells
  refine pc_jn ?_
  refine pc_jn ?_
  rcases hx with z | z | z | z | z
  · refine pc_ite (fun _ => ?_) (fun c1 => absurd (eq (by omega)) c1)
    refine pc_calv (m_pop h) (fun v s w => ?_)
    obtain ⟨w1, w2, w3, _⟩ := w
    (try dsimp only at w1 w2 w3)
    refine pc_jn ?_
    refine pc_ite (fun c1 => absurd c1 w3.nm1) (fun _ => ?_)
    refine pc_jn ?_
    refine pc_ite (fun _ => ?_) (fun c1 => absurd (eq (by omega)) c1)
    refine pc_cals (m_settles (q := qVar x2.toNatClampNeg) (Or.inr ⟨h2 z, rfl⟩) w2 w2.2.1 (Nat.le_refl _)) (fun s4 y => ?_)
    obtain ⟨y1, n2, tr2, y2, y3⟩ := y
    refine pc_jn ?_
    refine pc_ite (fun _ => ?_) (fun c1 => absurd (eq (by omega)) c1)
    refine pc_jn ?_
    refine pc_ite (fun _ => ?_) (fun c1 => absurd (eq (by omega)) c1)
    refine pc_cals (m_states (k2 := 0) (w2 := x2.toInt) y2 (w3.up y3) (by decide +kernel) rfl) (fun s7 u => ?_)
    rw [pStep_115 z]
    exact pc_ret ⟨FR.cal (FR.cal (FR.cal FR.rf w1 rfl rfl) y1 rfl rfl) u.1 rfl rfl, n2, tr2, u.2, y3⟩
  · refine pc_ite (fun c1 => absurd c1 (ne (by omega))) (fun _ => ?_)
    refine pc_ite (fun _ => ?_) (fun c1 => absurd (eq (by omega)) c1)
    refine pc_calv (m_pop h) (fun v s w => ?_)
    obtain ⟨w1, w2, w3, _⟩ := w
    (try dsimp only at w1 w2 w3)
    refine pc_jn ?_
    refine pc_ite (fun c1 => absurd c1 w3.nm1) (fun _ => ?_)
    refine pc_jn ?_
    refine pc_ite (fun c1 => absurd c1 (ne (by omega))) (fun _ => ?_)
    refine pc_cals (m_settles MQm.no w2 w2.2.1 (Nat.le_refl _)) (fun s4 y => ?_)
    obtain ⟨y1, n2, tr2, y2, y3⟩ := y
    refine pc_jn ?_
    refine pc_ite (fun c1 => absurd c1 (ne (by omega))) (fun _ => ?_)
    refine pc_ite (fun _ => ?_) (fun c1 => absurd (eq (by omega)) c1)
    refine pc_jn ?_
    refine pc_ite (fun c1 => absurd c1 (ne (by omega))) (fun _ => ?_)
    refine pc_cals (m_states (k2 := 3) (w2 := -1) y2 (w3.up y3) (by decide +kernel) k_m1) (fun s7 u => ?_)
    rw [pStep_111 z]
    exact pc_ret ⟨FR.cal (FR.cal (FR.cal FR.rf w1 rfl rfl) y1 rfl rfl) u.1 rfl rfl, n2, tr2, u.2, y3⟩
  · refine pc_ite (fun c1 => absurd c1 (ne (by omega))) (fun _ => ?_)
    refine pc_ite (fun c1 => absurd c1 (ne (by omega))) (fun _ => ?_)
    refine pc_ite (fun _ => ?_) (fun c1 => absurd (eq (by omega)) c1)
    refine pc_calv (m_pop h) (fun v s w => ?_)
    obtain ⟨w1, w2, w3, _⟩ := w
    (try dsimp only at w1 w2 w3)
    refine pc_jn ?_
    refine pc_ite (fun c1 => absurd c1 w3.nm1) (fun _ => ?_)
    refine pc_jn ?_
    refine pc_ite (fun c1 => absurd c1 (ne (by omega))) (fun _ => ?_)
    refine pc_cals (m_settles MQm.no w2 w2.2.1 (Nat.le_refl _)) (fun s4 y => ?_)
    obtain ⟨y1, n2, tr2, y2, y3⟩ := y
    refine pc_jn ?_
    refine pc_ite (fun c1 => absurd c1 (ne (by omega))) (fun _ => ?_)
    refine pc_ite (fun c1 => absurd c1 (ne (by omega))) (fun _ => ?_)
    refine pc_ite (fun _ => ?_) (fun c1 => absurd (eq (by omega)) c1)
    refine pc_jn ?_
    refine pc_ite (fun c1 => absurd c1 (ne (by omega))) (fun _ => ?_)
    refine pc_cals (m_states (k2 := 5) (w2 := -1) y2 (w3.up y3) (by decide +kernel) k_m1) (fun s7 u => ?_)
    rw [pStep_116 z]
    exact pc_ret ⟨FR.cal (FR.cal (FR.cal FR.rf w1 rfl rfl) y1 rfl rfl) u.1 rfl rfl, n2, tr2, u.2, y3⟩
  · refine pc_ite (fun c1 => absurd c1 (ne (by omega))) (fun _ => ?_)
    refine pc_ite (fun c1 => absurd c1 (ne (by omega))) (fun _ => ?_)
    refine pc_ite (fun c1 => absurd c1 (ne (by omega))) (fun _ => ?_)
    refine pc_jn ?_
    refine pc_ite (fun _ => ?_) (fun c1 => absurd rfl c1)
    refine pc_ite (fun _ => ?_) (fun c1 => absurd (eq (by omega)) c1)
    refine pc_jn ?_
    refine pc_ite (fun c1 => absurd c1 (ne (by omega))) (fun _ => ?_)
    refine pc_cals (m_settles MQm.no h h.2.1 (Nat.le_refl _)) (fun s4 y => ?_)
    obtain ⟨y1, n2, tr2, y2, y3⟩ := y
    refine pc_jn ?_
    refine pc_ite (fun c1 => absurd c1 (ne (by omega))) (fun _ => ?_)
    refine pc_ite (fun c1 => absurd c1 (ne (by omega))) (fun _ => ?_)
    refine pc_ite (fun c1 => absurd c1 (ne (by omega))) (fun _ => ?_)
    refine pc_jn ?_
    refine pc_ite (fun c1 => absurd c1 (ne (by omega))) (fun _ => ?_)
    refine pc_cals (m_states (k2 := 6) (w2 := -1) (o := none) y2 (Or.inl ⟨rfl, k_m1⟩) (by decide +kernel) k_m1) (fun s7 u => ?_)
    rw [pStep_114 z]
    exact pc_ret ⟨FR.cal (FR.cal FR.rf y1 rfl rfl) u.1 rfl rfl, n2, tr2, u.2, y3⟩
  · refine pc_ite (fun c1 => absurd c1 (ne (by omega))) (fun _ => ?_)
    refine pc_ite (fun c1 => absurd c1 (ne (by omega))) (fun _ => ?_)
    refine pc_ite (fun c1 => absurd c1 (ne (by omega))) (fun _ => ?_)
    refine pc_jn ?_
    refine pc_ite (fun _ => ?_) (fun c1 => absurd rfl c1)
    refine pc_ite (fun c1 => absurd c1 (ne (by omega))) (fun _ => ?_)
    rw [pStep_103 z]
    exact pc_ret ⟨FR.rf, n, tr, h, EXT.rf⟩
end
