theorem PLX.tN_ {σ : Sto} {n : Nat} {tr : Nat → Term} (h : PLX σ n tr) : ∀ m e, e < m → e < n → tN (tr e)
  | 0, _, he, _ => absurd he (Nat.not_lt_zero _)
  | m + 1, e, he, hn => by
    obtain ⟨w, q, _⟩ := h.2.2.1 e hn
    rw [q]
    rcases w with w | w | w | w | w | w | w
    · rw [mkX_k w.1]; exact ⟨w.2.1, w.2.2.1⟩
    · rw [mkX_l w.1]; exact trivial
    · rw [mkX_t w.1]
      have := clamp_I w.2.1
      show (σ.1 48 e).toNatClampNeg ≤ 999
      omega
    · rw [mkX_x w.1]
      have := clamp_I w.2.1
      show (σ.1 48 e).toNatClampNeg ≤ 999
      omega
    · rw [mkX_i w.1]; exact trivial
    · have c := clamp_I w.2.1
      have r := h.tN_ m (σ.1 48 e).toNatClampNeg (by omega) (by omega)
      rcases w.1 with z | z
      · rw [mkX_n z]; exact r
      · rw [mkX_g z]; exact r
    · have c := clamp_I w.2.1.1
      have d := clamp_I w.2.2.1
      rw [mkX_b w.1]
      exact ⟨h.tN_ m (σ.1 48 e).toNatClampNeg (by omega) (by omega), h.tN_ m (σ.1 49 e).toNatClampNeg (by omega) (by omega)⟩
/-- an expression of both -/
def EXB (σ s : Sto) (v w : Int32) (o : Option Term) : Prop := (v.toInt = -1 ∧ w.toInt = -1 ∧ o = none) ∨ ∃ t n tr n2 tr2, o = some t ∧ PLX σ n tr ∧ EXV v n tr (some t) ∧ PLM s n2 tr2 ∧ EXV w n2 tr2 (some t) ∧ tSz t ≤ 60 ∧ tN t
theorem EXB.mk {σ s : Sto} {v w : Int32} {o : Option Term} {n n2 : Nat} {tr tr2 : Nat → Term} (h : PLX σ n tr) (g : PLM s n2 tr2) (hv : EXV v n tr o) (hw : EXV w n2 tr2 o) : EXB σ s v w o := by
  cases o with
  | none => exact Or.inl ⟨hv.no, hw.no, rfl⟩
  | some t =>
    obtain ⟨e, v1, v2, v3, v4⟩ := hv.so
    have z := (h.2.2.1 e v2).2.2.2.2
    have y := h.tN_ (e + 1) e (Nat.lt_succ_self _) v2
    rw [v3] at z y
    exact Or.inr ⟨t, n, tr, n2, tr2, rfl, h, hv, g, hw, z, y⟩
/-- how wide -/
theorem t_width {σ : Sto} {n : Nat} {tr : Nat → Term} {v : Int32} {t : Term} (h : PLX σ n tr) (hv : EXV v n tr (some t)) (hs : tSz t ≤ 60) : PC (f_X6_widthOf v σ) (fun r => FR [93, 94] [] σ r.2 ∧ WRX r.2 (spl t) ∧ r.1.toInt = ((spl t).length : Int)) := by
  have k_0 : (0 : Int32).toInt = 0 := by decide +kernel
  have sl := spl_l t
  unfold f_X6_widthOf
  refine pc_lt fun s1 e1 => ?_
  have f1 : FR [93, 94] [] σ s1 := by rw [e1]; exact FR.st FR.rf (by decide)
  have w1 : WRX s1 [] := ⟨by rw [e1, sti_s]; exact k_0, fun i hi => absurd hi (Nat.not_lt_zero _)⟩
  refine pc_cals (w_exp 250 v 0 s1 t [] (h.cg (fun k hk => f1.1 k (by simp; omega))) hv w1 (by omega) (by omega) (by show 0 + (spl t).length ≤ 400; omega)) (fun s2 u => ?_)
  rw [List.nil_append] at u
  exact pc_ret ⟨FR.cal f1 u.1 rfl rfl, u.2, u.2.1⟩
theorem m_within {s : Sto} {n : Nat} {tr : Nat → Term} (h : PLM s n tr) : ∀ (d : Nat) (v : Int32) (t : Term), EXV v n tr (some t) → tSz t ≤ 60 → PC (f_X12_within d v s) (fun r => r.toInt = (tSz t : Int))
  | 0, _, _, _, _ => pc_no
  | d + 1, v, t, hv, hs => by
    have k_1 : (1 : Int32).toInt = 1 := by decide +kernel
    obtain ⟨e, v1, v2, v3, v4⟩ := hv.so
    have ways := h.ways v2
    rw [v3] at ways
    have one := m_isOne (σ := s) (v := v)
    have both := m_isBoth (σ := s) (v := v)
    rw [v4] at one both
    show PC (b_X12_within (g_X12_within d) v s) _
    unfold b_X12_within
    refine pc_calp one (fun w1 h1 => ?_)
    refine pc_ite (fun c1 => ?_) (fun c1 => ?_)
    · have n1 := h1.mp c1
      refine pc_calp both (fun w3 h3 => ?_)
      refine pc_ite (fun c3 => ?_) (fun c3 => ?_)
      · have n3 := h3.mp c3
        rcases ways with ⟨w_, _⟩ | ⟨w_, _⟩ | ⟨_, _, wk, _⟩
        · omega
        · exact absurd w_ n1
        · refine pc_ret ?_
          rw [(tLf wk).1]
          exact k_1
      · have n3 : ¬ (s.1 38 e).toInt ≤ 6 := fun z => c3 (h3.mpr z)
        rcases ways with ⟨gb, l, r, w1_, w2_, w3_⟩ | ⟨w_, _⟩ | ⟨_, w_, _⟩
        · have ez : tSz t = 1 + (tSz l + tSz r) := by rw [w1_]; rfl
          refine pc_ix (fun _ => ?_)
          rw [v4]
          refine pc_lt fun w5 e5 => ?_
          rw [← e5] at w2_
          refine pc_calp (m_within h d w5 l (w2_.wk (by omega)) (by omega)) (fun w6 h6 => ?_)
          refine pc_ix (fun _ => ?_)
          refine pc_lt fun w7 e7 => ?_
          rw [← e7] at w3_
          refine pc_calp (m_within h d w7 r (w3_.wk (by omega)) (by omega)) (fun w8 h8 => ?_)
          refine pc_ret ?_
          have a1 : ((1 : Int32) + w6).toInt = 1 + w6.toInt := by rw [fb_addI (by rw [k_1]; omega) (by rw [k_1]; omega), k_1]
          rw [fb_addI (by rw [a1]; omega) (by rw [a1]; omega), a1]
          omega
        · omega
        · omega
    · have n1 : (s.1 38 e).toInt = 5 ∨ (s.1 38 e).toInt = 6 := Classical.byContradiction fun z => c1 (h1.mpr z)
      rcases ways with ⟨w_, _⟩ | ⟨w_, l, w1_, w2_⟩ | ⟨_, w_, _⟩
      · omega
      · have ez : tSz t = 1 + tSz l := by
          rcases w1_ with z | z
          · rw [z.1]; rfl
          · rw [z.1]; rfl
        refine pc_ix (fun _ => ?_)
        rw [v4]
        refine pc_lt fun w9 e9 => ?_
        rw [← e9] at w2_
        refine pc_calp (m_within h d w9 l (w2_.wk (by omega)) (by omega)) (fun w10 h10 => ?_)
        refine pc_ret ?_
        rw [fb_addI (by rw [k_1]; omega) (by rw [k_1]; omega), k_1]
        omega
      · omega
