section
variable {b : BTy} {n : Nat} {σ : Sto} {tr : Nat → Term} {P : PSt}
theorem m_isOne {v : Int32} : PC (f_X12_isOne v σ) (fun r => r = 0 ↔ ¬ ((σ.1 38 v.toNatClampNeg).toInt = 5 ∨ (σ.1 38 v.toNatClampNeg).toInt = 6)) := by
  have k_5 : (5 : Int32).toInt = 5 := by decide +kernel
  have k_6 : (6 : Int32).toInt = 6 := by decide +kernel
  unfold f_X12_isOne
  refine pc_ix (fun _ => ?_)
  refine pc_lt fun v1 e1 => ?_
  refine pc_jnI0 ((σ.1 38 v.toNatClampNeg).toInt = 5 ∨ (σ.1 38 v.toNatClampNeg).toInt = 6) (fun z => pc_ret ⟨fun q => absurd q (by decide), fun q => absurd z q⟩) (fun k hk => ?_)
  refine pc_ite (fun c => hk (Or.inl (by rw [fa_eq, k_5, e1] at c; exact c))) (fun c => ?_)
  refine pc_ix (fun _ => ?_)
  refine pc_lt fun v4 e4 => ?_
  refine pc_ite (fun c2 => hk (Or.inr (by rw [fa_eq, k_6, e4] at c2; exact c2))) (fun c2 => ?_)
  rw [fa_eq, k_5, e1] at c
  rw [fa_eq, k_6, e4] at c2
  exact pc_ret ⟨fun _ z => by omega, fun _ => rfl⟩
theorem m_isBoth {v : Int32} : PC (f_X12_isBoth v σ) (fun r => r = 0 ↔ (σ.1 38 v.toNatClampNeg).toInt ≤ 6) := by
  have k_6 : (6 : Int32).toInt = 6 := by decide +kernel
  unfold f_X12_isBoth
  refine pc_ix (fun _ => ?_)
  refine pc_lt fun v1 e1 => ?_
  refine pc_ite (fun c => ?_) (fun c => ?_)
  · rw [fa_le, k_6, e1] at c
    exact pc_ret ⟨fun _ => c, fun _ => rfl⟩
  · rw [fa_le, k_6, e1] at c
    exact pc_ret ⟨fun q => absurd q (by decide), fun q => absurd q c⟩
/-- a node of two, of one, a leaf -/
theorem PLM.ways {e : Nat} (h : PLM σ n tr) (he : e < n) : (isBi (σ.1 38 e).toInt ∧ ∃ l r, tr e = bn (σ.1 38 e) l r ∧ EXV (σ.1 39 e) e tr (some l) ∧ EXV (σ.1 40 e) e tr (some r)) ∨ (((σ.1 38 e).toInt = 5 ∨ (σ.1 38 e).toInt = 6) ∧ ∃ l, (tr e = .length l ∧ (σ.1 38 e).toInt = 5 ∨ tr e = .sum l ∧ (σ.1 38 e).toInt = 6) ∧ EXV (σ.1 39 e) e tr (some l)) ∨ (0 ≤ (σ.1 38 e).toInt ∧ (σ.1 38 e).toInt ≤ 4 ∧ kdl (tr e) = true ∧ ((σ.1 38 e).toInt = 4 ↔ tEff (tr e) = true)) := by
  obtain ⟨w, q⟩ := h.2 e he
  rcases w with w | ⟨w | w | w, w2⟩ | w | ⟨w, w2, w3⟩ | ⟨w, w2, w3⟩
  · exact Or.inr (Or.inr ⟨by omega, by omega, by rw [q, mkM_0 w]; rfl, ⟨fun z => by omega, fun z => by rw [q, mkM_0 w] at z; exact absurd z (by simp [tEff])⟩⟩)
  · exact Or.inr (Or.inr ⟨by omega, by omega, by rw [q, mkM_1 w]; rfl, ⟨fun z => by omega, fun z => by rw [q, mkM_1 w] at z; exact absurd z (by simp [tEff])⟩⟩)
  · exact Or.inr (Or.inr ⟨by omega, by omega, by rw [q, mkM_2 w]; rfl, ⟨fun z => by omega, fun z => by rw [q, mkM_2 w] at z; exact absurd z (by simp [tEff])⟩⟩)
  · exact Or.inr (Or.inr ⟨by omega, by omega, by rw [q, mkM_3 w]; rfl, ⟨fun z => by omega, fun z => by rw [q, mkM_3 w] at z; exact absurd z (by simp [tEff])⟩⟩)
  · exact Or.inr (Or.inr ⟨by omega, by omega, by rw [q, mkM_4 w]; rfl, ⟨fun _ => by rw [q, mkM_4 w]; rfl, fun _ => w⟩⟩)
  · have c := clamp_I w2
    refine Or.inr (Or.inl ⟨w, tr (σ.1 39 e).toNatClampNeg, ?_, EXV.mk c.symm (by omega) rfl⟩)
    rcases w with z | z
    · exact Or.inl ⟨by rw [q, mkM_5 z], z⟩
    · exact Or.inr ⟨by rw [q, mkM_6 z], z⟩
  · have c := clamp_I w2.1
    have d := clamp_I w3.1
    exact Or.inl ⟨w, _, _, by rw [q, mkM_b w], EXV.mk c.symm (by omega) rfl, EXV.mk d.symm (by omega) rfl⟩
theorem m_hasEff (h : PLM σ n tr) : ∀ (d : Nat) (v : Int32) (t : Term), EXV v n tr (some t) → PC (f_X12_hasEffects d v σ) (fun r => r = 0 ↔ ¬ tEff t = true)
  | 0, _, _, _ => pc_no
  | d + 1, v, t, hv => by
    have k_4 : (4 : Int32).toInt = 4 := by decide +kernel
    have k_47 : (47 : Int32).toInt = 47 := by decide +kernel
    have k_37 : (37 : Int32).toInt = 37 := by decide +kernel
    obtain ⟨e, v1, v2, v3, v4⟩ := hv.so
    have ways := h.ways v2
    rw [v3] at ways
    have one := m_isOne (σ := σ) (v := v)
    have both := m_isBoth (σ := σ) (v := v)
    rw [v4] at one both
    show PC (b_X12_hasEffects (g_X12_hasEffects d) v σ) _
    unfold b_X12_hasEffects
    refine pc_calp one (fun w1 h1 => ?_)
    refine pc_ite (fun c1 => ?_) (fun c1 => ?_)
    · have n1 := h1.mp c1
      refine pc_calp both (fun w3 h3 => ?_)
      refine pc_ite (fun c3 => ?_) (fun c3 => ?_)
      · have n3 := h3.mp c3
        refine pc_ix (fun _ => ?_)
        rw [v4]
        refine pc_lt fun w5 e5 => ?_
        rcases ways with ⟨w, _⟩ | ⟨w, _⟩ | ⟨_, _, _, w⟩
        · omega
        · exact absurd w n1
        · refine pc_ite (fun c => ?_) (fun c => ?_)
          · rw [fa_eq, k_4, e5] at c
            exact pc_ret ⟨fun q => absurd q (by decide), fun q => absurd (w.mp c) q⟩
          · rw [fa_eq, k_4, e5] at c
            exact pc_ret ⟨fun _ z => c (w.mpr z), fun _ => rfl⟩
      · have n3 : ¬ (σ.1 38 e).toInt ≤ 6 := fun z => c3 (h3.mpr z)
        rcases ways with ⟨gb, l, r, w1_, w2_, w3_⟩ | ⟨w, _⟩ | ⟨_, w, _⟩
        · have te : tEff t = (decide ((σ.1 38 e) = 47) || decide ((σ.1 38 e) = 37) || tEff l || tEff r) := by rw [w1_]; rfl
          refine pc_ix (fun _ => ?_)
          rw [v4]
          refine pc_lt fun w7 e7 => ?_
          subst e7
          refine pc_jnI0 (tEff t = true) (fun z => pc_ret ⟨fun q => absurd q (by decide), fun q => absurd z q⟩) (fun k hk => ?_)
          refine pc_ite (fun c => hk (by rw [te, decide_eq_true c]; rfl)) (fun c => ?_)
          refine pc_ix (fun _ => ?_)
          refine pc_lt fun w10 e10 => ?_
          subst e10
          refine pc_ite (fun c2 => hk (by rw [te, decide_eq_true c2, Bool.or_true]; rfl)) (fun c2 => ?_)
          refine pc_ix (fun _ => ?_)
          refine pc_lt fun w12 e12 => ?_
          rw [← e12] at w2_
          refine pc_calp (m_hasEff h d w12 l (w2_.wk (by omega))) (fun w13 h13 => ?_)
          refine pc_ite (fun c4 => ?_) (fun c4 => ?_)
          · refine pc_ix (fun _ => ?_)
            refine pc_lt fun w15 e15 => ?_
            rw [← e15] at w3_
            refine pc_calp (m_hasEff h d w15 r (w3_.wk (by omega))) (fun w16 h16 => ?_)
            refine pc_ite (fun c5 => ?_) (fun c5 => ?_)
            · refine pc_ret ⟨fun _ z => ?_, fun _ => rfl⟩
              rw [te, decide_eq_false c, decide_eq_false c2, bf (h13.mp c4), bf (h16.mp c5)] at z
              exact absurd z (by decide)
            · refine hk ?_
              have y : tEff r = true := by
                cases u : tEff r with
                | true => rfl
                | false => exact absurd (h16.mpr (by rw [u]; decide)) c5
              rw [te, y, Bool.or_true]
          · refine hk ?_
            have y : tEff l = true := by
              cases u : tEff l with
              | true => rfl
              | false => exact absurd (h13.mpr (by rw [u]; decide)) c4
            rw [te, y, Bool.or_true, Bool.true_or]
        · omega
        · omega
    · have n1 : (σ.1 38 e).toInt = 5 ∨ (σ.1 38 e).toInt = 6 := Classical.byContradiction fun z => c1 (h1.mpr z)
      rcases ways with ⟨w, _⟩ | ⟨w, l, w1_, w2_⟩ | ⟨_, w, _⟩
      · omega
      · have te : tEff t = tEff l := by
          rcases w1_ with z | z
          · rw [z.1]; rfl
          · rw [z.1]; rfl
        refine pc_ix (fun _ => ?_)
        rw [v4]
        refine pc_lt fun w18 e18 => ?_
        rw [← e18] at w2_
        refine pc_calp (m_hasEff h d w18 l (w2_.wk (by omega))) (fun w19 h19 => ?_)
        refine pc_bz (fun _ => ?_)
        rw [te]
        exact pc_ret h19
      · omega
/-- what a leaf of this name is -/
def NMQ (σ : Sto) (n : Nat) (tr : Nat → Term) (kk w : Int32) (q : Term → Bool) : Prop := (∀ t, q (.length t) = q t) ∧ (∀ t, q (.sum t) = q t) ∧ (∀ g l r, q (bn g l r) = (q l || q r)) ∧ ∀ e, e < n → (σ.1 38 e).toInt ≤ 4 → 0 ≤ (σ.1 38 e).toInt → (q (tr e) = true ↔ σ.1 38 e = kk ∧ σ.1 39 e = w)
theorem NMQ.var {w : Int32} (h : PLM σ n tr) (hw : 0 ≤ w.toInt) : NMQ σ n tr 1 w (tVar w.toNatClampNeg) := by
  have k_1 : (1 : Int32).toInt = 1 := by decide +kernel
  refine ⟨fun _ => rfl, fun _ => rfl, fun _ _ _ => rfl, fun e he h4 h0 => ?_⟩
  obtain ⟨y, q⟩ := h.2 e he
  have no : (σ.1 38 e).toInt ≠ 1 → tVar w.toNatClampNeg (tr e) = false → (tVar w.toNatClampNeg (tr e) = true ↔ σ.1 38 e = 1 ∧ σ.1 39 e = w) := fun a c => ⟨fun z => by rw [c] at z; exact absurd z (by decide), fun z => absurd (by rw [z.1, k_1]) a⟩
  rcases y with y | ⟨y | y | y, y2⟩ | y | ⟨y, _⟩ | ⟨y, _⟩
  · exact no (by omega) (by rw [q, mkM_0 y]; rfl)
  · rw [q, mkM_1 y]
    show decide ((σ.1 39 e).toNatClampNeg = w.toNatClampNeg) = true ↔ _
    rw [decide_eq_true_eq]
    constructor
    · exact fun z => ⟨by rw [fa_eq, k_1]; exact y, clamp_in y2 hw z⟩
    · exact fun z => by rw [z.2]
  · exact no (by omega) (by rw [q, mkM_2 y]; rfl)
  · exact no (by omega) (by rw [q, mkM_3 y]; rfl)
  · exact no (by omega) (by rw [q, mkM_4 y]; rfl)
  · omega
  · omega
theorem NMQ.tn {w : Int32} (h : PLM σ n tr) (hw : 0 ≤ w.toInt) : NMQ σ n tr 2 w (tTn w.toNatClampNeg) := by
  have k_2 : (2 : Int32).toInt = 2 := by decide +kernel
  refine ⟨fun _ => rfl, fun _ => rfl, fun _ _ _ => rfl, fun e he h4 h0 => ?_⟩
  obtain ⟨y, q⟩ := h.2 e he
  have no : (σ.1 38 e).toInt ≠ 2 → tTn w.toNatClampNeg (tr e) = false → (tTn w.toNatClampNeg (tr e) = true ↔ σ.1 38 e = 2 ∧ σ.1 39 e = w) := fun a c => ⟨fun z => by rw [c] at z; exact absurd z (by decide), fun z => absurd (by rw [z.1, k_2]) a⟩
  rcases y with y | ⟨y | y | y, y2⟩ | y | ⟨y, _⟩ | ⟨y, _⟩
  · exact no (by omega) (by rw [q, mkM_0 y]; rfl)
  · exact no (by omega) (by rw [q, mkM_1 y]; rfl)
  · rw [q, mkM_2 y]
    show decide ((σ.1 39 e).toNatClampNeg = w.toNatClampNeg) = true ↔ _
    rw [decide_eq_true_eq]
    constructor
    · exact fun z => ⟨by rw [fa_eq, k_2]; exact y, clamp_in y2 hw z⟩
    · exact fun z => by rw [z.2]
  · exact no (by omega) (by rw [q, mkM_3 y]; rfl)
  · exact no (by omega) (by rw [q, mkM_4 y]; rfl)
  · omega
  · omega
theorem m_hasName {kk w : Int32} {q : Term → Bool} (h : PLM σ n tr) (hq : NMQ σ n tr kk w q) : ∀ (d : Nat) (v : Int32) (t : Term), EXV v n tr (some t) → PC (f_X12_hasName d v kk w σ) (fun r => r = 0 ↔ ¬ q t = true)
  | 0, _, _, _ => pc_no
  | d + 1, v, t, hv => by
    obtain ⟨e, v1, v2, v3, v4⟩ := hv.so
    have ways := h.ways v2
    rw [v3] at ways
    have one := m_isOne (σ := σ) (v := v)
    have both := m_isBoth (σ := σ) (v := v)
    rw [v4] at one both
    show PC (b_X12_hasName (g_X12_hasName d) v kk w σ) _
    unfold b_X12_hasName
    refine pc_calp one (fun w1 h1 => ?_)
    refine pc_ite (fun c1 => ?_) (fun c1 => ?_)
    · have n1 := h1.mp c1
      refine pc_calp both (fun w3 h3 => ?_)
      refine pc_ite (fun c3 => ?_) (fun c3 => ?_)
      · have n3 := h3.mp c3
        rcases ways with ⟨w_, _⟩ | ⟨w_, _⟩ | ⟨w0, w4, _⟩
        · omega
        · exact absurd w_ n1
        · have lf := hq.2.2.2 e v2 w4 w0
          rw [v3] at lf
          refine pc_ix (fun _ => ?_)
          rw [v4]
          refine pc_lt fun w5 e5 => ?_
          subst e5
          refine pc_jnI0 (¬ (σ.1 38 e = kk ∧ σ.1 39 e = w)) (fun z => pc_ret ⟨fun _ y => z (lf.mp y), fun _ => rfl⟩) (fun k hk => ?_)
          refine pc_ite (fun c => ?_) (fun c => hk (fun z => c z.1))
          refine pc_ix (fun _ => ?_)
          refine pc_lt fun w8 e8 => ?_
          subst e8
          exact pc_ite (fun c2 => pc_ret ⟨fun y => absurd y (by decide), fun y => absurd (lf.mpr ⟨c, c2⟩) y⟩) (fun c2 => hk (fun z => c2 z.2))
      · have n3 : ¬ (σ.1 38 e).toInt ≤ 6 := fun z => c3 (h3.mpr z)
        rcases ways with ⟨gb, l, r, w1_, w2_, w3_⟩ | ⟨w_, _⟩ | ⟨_, w_, _⟩
        · have te : q t = (q l || q r) := by rw [w1_]; exact hq.2.2.1 _ _ _
          refine pc_ix (fun _ => ?_)
          rw [v4]
          refine pc_lt fun w10 e10 => ?_
          rw [← e10] at w2_
          refine pc_calp (m_hasName h hq d w10 l (w2_.wk (by omega))) (fun w11 h11 => ?_)
          refine pc_jnI0 (q t = true) (fun z => pc_ret ⟨fun y => absurd y (by decide), fun y => absurd z y⟩) (fun k hk => ?_)
          refine pc_ite (fun c4 => ?_) (fun c4 => ?_)
          · refine pc_ix (fun _ => ?_)
            refine pc_lt fun w14 e14 => ?_
            rw [← e14] at w3_
            refine pc_calp (m_hasName h hq d w14 r (w3_.wk (by omega))) (fun w15 h15 => ?_)
            refine pc_ite (fun c5 => ?_) (fun c5 => ?_)
            · refine pc_ret ⟨fun _ z => ?_, fun _ => rfl⟩
              rw [te, bf (h11.mp c4), bf (h15.mp c5)] at z
              exact absurd z (by decide)
            · refine hk ?_
              have y : q r = true := by
                cases u : q r with
                | true => rfl
                | false => exact absurd (h15.mpr (by rw [u]; decide)) c5
              rw [te, y, Bool.or_true]
          · refine hk ?_
            have y : q l = true := by
              cases u : q l with
              | true => rfl
              | false => exact absurd (h11.mpr (by rw [u]; decide)) c4
            rw [te, y, Bool.true_or]
        · omega
        · omega
    · have n1 : (σ.1 38 e).toInt = 5 ∨ (σ.1 38 e).toInt = 6 := Classical.byContradiction fun z => c1 (h1.mpr z)
      rcases ways with ⟨w_, _⟩ | ⟨w_, l, w1_, w2_⟩ | ⟨_, w_, _⟩
      · omega
      · have te : q t = q l := by
          rcases w1_ with z | z
          · rw [z.1]; exact hq.1 _
          · rw [z.1]; exact hq.2.1 _
        refine pc_ix (fun _ => ?_)
        rw [v4]
        refine pc_lt fun w17 e17 => ?_
        rw [← e17] at w2_
        refine pc_calp (m_hasName h hq d w17 l (w2_.wk (by omega))) (fun w18 h18 => ?_)
        refine pc_bz (fun _ => ?_)
        rw [te]
        exact pc_ret h18
      · omega
theorem m_isName {v : Int32} {t : Term} (h : PLM σ n tr) (hv : EXV v n tr (some t)) : PC (f_X12_isName v σ) (fun r => r = 0 ↔ ¬ isNm t = true) := by
  have k_1 : (1 : Int32).toInt = 1 := by decide +kernel
  have k_2 : (2 : Int32).toInt = 2 := by decide +kernel
  have k_3 : (3 : Int32).toInt = 3 := by decide +kernel
  obtain ⟨e, v1, v2, v3, v4⟩ := hv.so
  obtain ⟨w, q⟩ := h.2 e v2
  rw [v3] at q
  have kd_ : isNm t = true ↔ (σ.1 38 e).toInt = 1 ∨ (σ.1 38 e).toInt = 2 ∨ (σ.1 38 e).toInt = 3 := by
    rw [q]
    rcases w with w | ⟨w | w | w, w2⟩ | w | ⟨w | w, w2, w3⟩ | ⟨w, w2, w3⟩
    · rw [mkM_0 w]; exact ⟨fun z => absurd z (by simp [isNm]), fun z => by omega⟩
    · rw [mkM_1 w]; exact ⟨fun _ => Or.inl w, fun _ => rfl⟩
    · rw [mkM_2 w]; exact ⟨fun _ => Or.inr (Or.inl w), fun _ => rfl⟩
    · rw [mkM_3 w]; exact ⟨fun _ => Or.inr (Or.inr w), fun _ => rfl⟩
    · rw [mkM_4 w]; exact ⟨fun z => absurd z (by simp [isNm]), fun z => by omega⟩
    · rw [mkM_5 w]; exact ⟨fun z => absurd z (by simp [isNm]), fun z => by omega⟩
    · rw [mkM_6 w]; exact ⟨fun z => absurd z (by simp [isNm]), fun z => by omega⟩
    · rw [mkM_b w]; exact ⟨fun z => absurd z (by simp [isNm]), fun z => by omega⟩
  unfold f_X12_isName
  refine pc_ix (fun _ => ?_)
  rw [v4]
  refine pc_lt fun x1 e1 => ?_
  refine pc_jnI0 (isNm t = true) (fun z => pc_ret ⟨fun y => absurd y (by decide), fun y => absurd z y⟩) (fun k hk => ?_)
  refine pc_ite (fun c => hk (kd_.mpr (Or.inl (by rw [fa_eq, k_1, e1] at c; exact c)))) (fun c => ?_)
  refine pc_ix (fun _ => ?_)
  refine pc_lt fun x4 e4 => ?_
  refine pc_ite (fun c2 => hk (kd_.mpr (Or.inr (Or.inl (by rw [fa_eq, k_2, e4] at c2; exact c2))))) (fun c2 => ?_)
  refine pc_ix (fun _ => ?_)
  refine pc_lt fun x6 e6 => ?_
  refine pc_ite (fun c3 => hk (kd_.mpr (Or.inr (Or.inr (by rw [fa_eq, k_3, e6] at c3; exact c3))))) (fun c3 => ?_)
  rw [fa_eq, k_1, e1] at c
  rw [fa_eq, k_2, e4] at c2
  rw [fa_eq, k_3, e6] at c3
  refine pc_ret ⟨fun _ z => ?_, fun _ => rfl⟩
  have := kd_.mp z
  omega
abbrev MNT : List Nat := [38, 39, 40, 41, 42, 43, 44, 47, 48, 49]
def MQm (x2 : Int32) (q : Term → Bool) : Prop := (x2.toInt = -1 ∧ q = qEff) ∨ (0 ≤ x2.toInt ∧ q = qVar x2.toNatClampNeg)
theorem m_settles {x1 x2 : Int32} {q : Term → Bool} {k : Nat} (hq : MQm x2 q) (h : RLM b σ n tr P) (hk : x1.toInt = (k : Int)) (hk2 : k ≤ pHt P) : PC (f_X12_settles x1 x2 σ) (RMA b MNT σ n tr (pSp q k P)) := by
  have k_0 : (0 : Int32).toInt = 0 := by decide +kernel
  have k_m1 : ((-1) : Int32).toInt = -1 := by decide +kernel
  unfold f_X12_settles
  refine pc_itr2 (fun x s => 0 ≤ x.toInt ∧ x.toInt ≤ (k : Int) ∧ RMA b MNT σ n tr (pSp q x.toNatClampNeg P) s) ?_ (by exact ⟨by omega, by omega, FR.rf, n, tr, h, EXT.rf⟩)
  intro ag x s I ih
  obtain ⟨x0, xh, f, n2, tr2, r1, r2⟩ := I
  have cx := clamp_I x0
  refine pc_ite (fun c => ?_) (fun c => ?_)
  · rw [fa_le, hk] at c
    have e : x.toNatClampNeg = k := by omega
    rw [e] at r1
    exact pc_ret ⟨f, n2, tr2, r1, r2⟩
  · rw [fa_le, hk] at c
    have rx := tI_rng x1
    have ex : (x + 1).toInt = x.toInt + 1 := i1 (by omega)
    have cx1 : (x + 1).toNatClampNeg = x.toNatClampNeg + 1 := by
      have := clamp_I (x := x + 1) (by omega)
      omega
    have v := r1.2.2.1 x.toNatClampNeg (by rw [pSp_h]; omega)
    rw [pSp_k x.toNatClampNeg x.toNatClampNeg (Nat.le_refl _)] at v
    have st : pSp q (x.toNatClampNeg + 1) P = pSp1 q x.toNatClampNeg (pSp q x.toNatClampNeg P) := rfl
    have kx : pKs (pSp q x.toNatClampNeg P) x.toNatClampNeg = pKs P x.toNatClampNeg := pSp_k _ _ (Nat.le_refl _)
    refine pc_ix (fun _ => ?_)
    refine pc_lt fun v3 e3 => ?_
    rw [← e3] at v
    refine pc_calp (m_hasEff r1.1 250 v3 _ v) (fun v4 h4 => ?_)
    refine pc_jnI1 (fun u => RMA b MNT σ n tr (pSp q (x.toNatClampNeg + 1) P) u) (fun u J => ?_) (fun k56 hk56 => ?_)
    · refine pc_lt fun x6 e6 => ?_
      subst e6
      exact ih (x + 1) u ⟨by omega, by omega, by rw [cx1]; exact J⟩
    · have skip : q (pKs P x.toNatClampNeg) = false → PC (k56 s) (RMA b MNT σ n tr (pSp q k P)) := fun z => hk56 s ⟨f, n2, tr2, by
        rw [st]
        unfold pSp1
        rw [if_neg (by rw [kx, z]; decide)]
        exact r1, r2⟩
      refine pc_jnI0 (q (pKs P x.toNatClampNeg) = true) (fun z => ?_) (fun k40 hk40 => ?_)
      · have sp : pSp1 q x.toNatClampNeg (pSp q x.toNatClampNeg P) = pSet x.toNatClampNeg (tX (pFr (pSp q x.toNatClampNeg P))) (pPut (pKs P x.toNatClampNeg) (pSp q x.toNatClampNeg P)) := by
          unfold pSp1
          rw [kx, if_pos z]
        refine pc_ix (fun _ => ?_)
        refine pc_lt fun v8 e8 => ?_
        rw [← e3] at e8
        subst e8
        refine pc_calv (m_fresh r1 v) (fun v9 s9 w => ?_)
        obtain ⟨w1, n3, tr3, w2, w3, w4⟩ := w
        (try dsimp only at w1 w2 w4)
        refine pc_ix (fun _ => ?_)
        refine pc_lt fun s10 e10 => ?_
        refine hk56 s10 ⟨by rw [e10]; exact FR.st (FR.cal f w1.1 rfl rfl) (by decide), n3, tr3, ?_, r2.tr w3⟩
        rw [e10, st, sp]
        exact w2.set w4
      · have te : ∀ y, tEff (pKs P x.toNatClampNeg) = y → (y = true → q (pKs P x.toNatClampNeg) = true) := fun y hy z => by
          rcases hq with ⟨_, w⟩ | ⟨_, w⟩
          · rw [w]; show tEff _ = true; rw [hy, z]
          · rw [w]; show (tEff _ || _) = true; rw [hy, z]; rfl
        refine pc_ite (fun c4 => ?_) (fun c4 => ?_)
        · have nf := bf (h4.mp c4)
          refine pc_ite (fun c5 => ?_) (fun c5 => ?_)
          · rw [fa_eq, k_m1] at c5
            rcases hq with ⟨_, w⟩ | ⟨w, _⟩
            · exact skip (by rw [w]; exact nf)
            · omega
          · rw [fa_eq, k_m1] at c5
            rcases hq with ⟨w, _⟩ | ⟨w0, w⟩
            · exact absurd w c5
            · refine pc_ix (fun _ => ?_)
              refine pc_lt fun v13 e13 => ?_
              rw [← e3] at e13
              subst e13
              refine pc_calp (m_hasName r1.1 (NMQ.var r1.1 w0) 250 v13 _ v) (fun v14 h14 => ?_)
              refine pc_ite (fun c6 => skip ?_) (fun c6 => hk40 ?_)
              · rw [w]
                show (tEff _ || tVar _ _) = false
                rw [nf, bf (h14.mp c6)]
                rfl
              · have y : tVar x2.toNatClampNeg (pKs P x.toNatClampNeg) = true := by
                  cases u : tVar x2.toNatClampNeg (pKs P x.toNatClampNeg) with
                  | true => rfl
                  | false => exact absurd (h14.mpr (by rw [u]; decide)) c6
                rw [w]
                show (tEff _ || tVar _ _) = true
                rw [y, Bool.or_true]
        · refine hk40 (te _ rfl ?_)
          cases u : tEff (pKs P x.toNatClampNeg) with
          | true => rfl
          | false => exact absurd (h4.mpr (by rw [u]; decide)) c4
end
