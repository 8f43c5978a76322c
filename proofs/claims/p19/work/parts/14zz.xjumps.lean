theorem RG.cgJ {V : EVt} {J J2 : Nat → Bool} (h : ∀ e, e < V.1 → J e = J2 e) {d b : Nat} : RG V J d b ↔ RG V J2 d b := by
  constructor
  · exact fun z P p1 p2 => z P p1 (fun e he ha hd => p2 e ⟨he.1, by rw [← h e he.1]; exact he.2⟩ ha hd)
  · exact fun z P p1 p2 => z P p1 (fun e he ha hd => p2 e ⟨he.1, by rw [h e he.1]; exact he.2⟩ ha hd)
theorem DG.cgJ {V : EVt} {J J2 : Nat → Bool} (h : ∀ e, e < V.1 → J e = J2 e) {d b : Nat} : DG V J d b ↔ DG V J2 d b := by
  unfold DG
  rw [RG.cgJ h]
theorem ct_two {p : Nat → Bool} {n a b : Nat} (ha : a < n) (hb : b < n) (h : a ≠ b) (pa : p a = true) (pb : p b = true) : 2 ≤ fb_ct p n := by
  have q : 0 < fb_ct (fun k => decide (k = a)) n := fb_ct_pos.mpr ⟨a, ha, decide_eq_true rfl⟩
  have r : fb_ct (fun k => decide (k = a)) n + 1 ≤ fb_ct p n := fb_ct_lt (fun k _ z => by rw [of_decide_eq_true z]; exact pa) ⟨b, hb, pb, decide_eq_false (fun z => h z.symm)⟩
  omega
abbrev thx (σ : Sto) (e : Nat) : Bool := (EVx σ).2.2.2 e
theorem thx_f {σ : Sto} {e : Nat} : thx σ e = false ↔ (σ.1 31 e).toInt = 0 := by
  show decide ((σ.1 31 e).toInt ≠ 0) = false ↔ _
  rw [decide_eq_false_iff_not]
  exact ⟨fun h => Classical.byContradiction h, fun h z => z h⟩
/-- edges to be tried, in order; of all others it is known that they don't help -/
def CLX (σ s : Sto) : Prop := ∃ m : Nat, (s.1 45 0).toInt = m ∧ (∀ k, k < m → ∃ e : Nat, (s.1 44 k).toInt = e ∧ e < (EVx σ).1 ∧ thx σ e = false) ∧ (∀ j k, j < k → k < m → (s.1 44 j).toInt < (s.1 44 k).toInt) ∧ ∀ e, e < (EVx σ).1 → thx σ e = false → (∃ k, k < m ∧ (s.1 44 k).toInt = e) ∨ NCD (EVx σ) e
theorem CLX.cg {σ s t : Sto} (h : CLX σ s) (e44 : t.1 44 = s.1 44) (e45 : t.1 45 = s.1 45) : CLX σ t := by
  unfold CLX
  rw [e44, e45]; exact h
theorem t_findCandidates {σ : Sto} (hB : BX σ) (hr : ∀ e, e < (EVx σ).1 → gA (EVx σ) e < nX σ ∧ gB (EVx σ) e < nX σ) (hU : ∀ e d, e < (EVx σ).1 → d < (EVx σ).1 → gA (EVx σ) e = gA (EVx σ) d → gB (EVx σ) e = gB (EVx σ) d → e = d) (hJ : ∀ e, e < (EVx σ).1 → Jx σ e = J0f e) (hb : BEF σ σ) (hd : DMX σ σ) : PC (f_X8_findCandidates σ) (fun s => FR [44, 45] [] σ s ∧ CLX σ s) := by
  have k_0 : (0 : Int32).toInt = 0 := by decide +kernel
  have k_2 : (2 : Int32).toInt = 2 := by decide +kernel
  have n1 : (1 : Int32) ≠ 0 := by decide
  have g20 := gX_20 hB 0
  have g27 := gX_27 hB 0
  have hV : ((EVx σ).1 : Int) = (σ.1 27 0).toInt := Int.toNat_of_nonneg g27.1
  have hN : (nX σ : Int) = (σ.1 20 0).toInt := Int.toNat_of_nonneg g20.1
  have dcg : ∀ {d b : Nat}, DG (EVx σ) (Jx σ) d b ↔ DG (EVx σ) J0f d b := fun {d b} => DG.cgJ hJ
  unfold f_X8_findCandidates
  refine pc_lt fun s1 e1 => ?_
  refine pc_itr2 (fun x s => 0 ≤ x.toInt ∧ FR [44, 45] [] σ s ∧ ∃ m : Nat, (s.1 45 0).toInt = m ∧ (∀ k, k < m → ∃ e : Nat, (s.1 44 k).toInt = e ∧ (e : Int) < x.toInt ∧ e < (EVx σ).1 ∧ thx σ e = false) ∧ (∀ j k, j < k → k < m → (s.1 44 j).toInt < (s.1 44 k).toInt) ∧ ∀ e : Nat, (e : Int) < x.toInt → e < (EVx σ).1 → thx σ e = false → (∃ k, k < m ∧ (s.1 44 k).toInt = e) ∨ NCD (EVx σ) e) ?_ ⟨by omega, by rw [e1]; exact FR.st FR.rf (by decide), 0, by rw [e1, sti_s]; exact k_0, fun k hk => by omega, fun j k _ hk => by omega, fun e he => by omega⟩
  intro ag x s I ih
  obtain ⟨x0, f, m, m1, m2, m3, m4⟩ := I
  have cx := clamp_I x0
  have fs : ∀ {k : Nat}, k ≠ 44 ∧ k ≠ 45 → s.1 k = σ.1 k := fun {k} hk => f.1 k (by simp; omega)
  have eVs : EVx s = EVx σ := EVw.cg (fs (by decide)) (fs (by decide)) (fs (by decide)) (fs (by decide))
  refine pc_ite (fun c => ?_) (fun c => ?_)
  · rw [fa_le, fs (by decide)] at c
    exact pc_ret ⟨f, m, m1, fun k hk => by
      obtain ⟨e, y1, y2, y3, y4⟩ := m2 k hk
      exact ⟨e, y1, y3, y4⟩, m3, fun e he ht => m4 e (by omega) he ht⟩
  · rw [fa_le, fs (by decide)] at c
    have ex : (x + 1).toInt = x.toInt + 1 := i1 (by omega)
    have heE : x.toNatClampNeg < (EVx σ).1 := by omega
    have he := hr _ heE
    have kg : KG (EVx σ) (Jx σ) x.toNatClampNeg := ⟨heE, hJ _ heE⟩
    refine pc_ix (fun _ => ?_)
    refine pc_lt fun v4 e4 => ?_
    have c4 : v4.toNatClampNeg = gB (EVx σ) x.toNatClampNeg := by rw [e4, fs (by decide)]; rfl
    refine pc_ix (fun _ => ?_)
    rw [c4, f.2 5 List.not_mem_nil]
    refine pc_lt fun v5 e5 => ?_
    refine pc_calp (pc_ok (s_J13_bitCount_95d88 (x1 := v5))) (fun v6 h6 => ?_)
    have only : fb_ct (bL v5) 64 < 2 → NCD (EVx σ) x.toNatClampNeg := fun h => by
      by_cases q : gB (EVx σ) x.toNatClampNeg = 0
      · exact Or.inl (Or.inl q)
      · refine Or.inr ⟨q, fun i hi hq => ?_⟩
        have b1 : bL v5 (gA (EVx σ) x.toNatClampNeg) = true := by rw [e5]; exact (hb _ he.2 _).mpr ⟨_, kg, rfl, rfl⟩
        have b2 : bL v5 (gA (EVx σ) i) = true := by rw [e5]; exact (hb _ he.2 _).mpr ⟨i, ⟨hi, hJ i hi⟩, hq, rfl⟩
        refine hU i _ hi heE (Classical.byContradiction fun z => ?_) hq
        have := ct_two (p := bL v5) (n := 64) (by have := (hr i hi).1; omega) (by omega) z b2 b1
        omega
    -- on with what stands
    have on : ∀ t : Sto, FR [44, 45] [] σ t → t.1 45 = s.1 45 → t.1 44 = s.1 44 → (thx σ x.toNatClampNeg = false → NCD (EVx σ) x.toNatClampNeg) → PC (lt (x + 1) fun x1_10 => ag x1_10 t) (fun s => FR [44, 45] [] σ s ∧ CLX σ s) := fun t ft t45 t44 hx => by
      refine pc_lt fun x10 e10 => ?_
      subst e10
      refine ih (x + 1) t ⟨by omega, ft, m, by rw [t45]; exact m1, fun k hk => ?_, fun j k h1 h2 => by rw [t44]; exact m3 j k h1 h2, fun e h1 h2 h3 => ?_⟩
      · obtain ⟨e, y1, y2, y3, y4⟩ := m2 k hk
        exact ⟨e, by rw [t44]; exact y1, by omega, y3, y4⟩
      · by_cases q : e = x.toNatClampNeg
        · rw [q]
          rw [q] at h3
          exact Or.inr (hx h3)
        · rw [t44]; exact m4 e (by omega) h2 h3
    refine pc_jnI1 (fun t => t = 0 ↔ 2 ≤ fb_ct (bL v5) 64) (fun t ht => ?_) (fun k hk => ?_)
    · refine pc_ix (fun _ => ?_)
      refine pc_lt fun v8 e8 => ?_
      rw [fs (by decide)] at e8
      refine pc_jnI1 (fun t => t = s ∧ (thx σ x.toNatClampNeg = false → NCD (EVx σ) x.toNatClampNeg) ∨ ∃ s15, s15 = sti s 44 m x ∧ t = sti s15 45 0 ((s15.1 45 0) + 1) ∧ thx σ x.toNatClampNeg = false ∧ m < 120) (fun t J => ?_) (fun k2 hk2 => ?_)
      · rcases J with ⟨h1, h2⟩ | ⟨s15, h1, h2, h3, h4⟩
        · rw [h1]; exact on s f rfl rfl h2
        · refine pc_lt fun x10 e10 => ?_
          subst e10
          have t44 : t.1 44 = (sti s 44 m x).1 44 := by rw [h2, sti_o (by decide), h1]
          have t45 : (t.1 45 0).toInt = ((m + 1 : Nat) : Int) := by
            rw [h2, sti_s, h1, sti_o (by decide), i1 (by omega)]
            omega
          refine ih (x + 1) t ⟨by omega, by rw [h2, h1]; exact FR.st (FR.st f (by decide)) (by decide), m + 1, t45, fun k hk => ?_, fun j k y1 y2 => ?_, fun e y1 y2 y3 => ?_⟩
          · rw [t44, sti_if]
            by_cases q : k = m
            · rw [if_pos q]
              exact ⟨x.toNatClampNeg, cx.symm, by omega, heE, h3⟩
            · rw [if_neg q]
              obtain ⟨e, z1, z2, z3, z4⟩ := m2 k (by omega)
              exact ⟨e, z1, by omega, z3, z4⟩
          · rw [t44, sti_if, sti_if]
            have q : j ≠ m := by omega
            rw [if_neg q]
            by_cases r : k = m
            · rw [if_pos r]
              obtain ⟨e, z1, z2, _⟩ := m2 j (by omega)
              omega
            · rw [if_neg r]; exact m3 j k y1 (by omega)
          · rw [t44]
            by_cases q : e = x.toNatClampNeg
            · refine Or.inl ⟨m, by omega, ?_⟩
              rw [sti_if, if_pos rfl, q]; exact cx.symm
            · rcases m4 e (by omega) y2 y3 with ⟨k, k1, k2_⟩ | z
              · refine Or.inl ⟨k, by omega, ?_⟩
                rw [sti_if, if_neg (by omega)]; exact k2_
              · exact Or.inr z
      · refine pc_ite (fun c8 => ?_) (fun c8 => ?_)
        · rw [fa_eq, k_0, e8] at c8
          refine pc_calp (t_isBackX (σ := s) (x := x) hB (fs (by decide)) (fs (by decide))) (fun v12 h12 => ?_)
          rw [eVs, f.2 1 List.not_mem_nil, hd _ he.1, dcg] at h12
          refine pc_ite (fun c9 => ?_) (fun c9 => hk2 s (Or.inl ⟨rfl, fun _ => Or.inl (Classical.byContradiction fun z => c9 (h12.2.mpr (fun y => z y.2)))⟩))
          refine pc_ite (fun c10 => ?_) (fun c10 => hk2 s (Or.inl ⟨rfl, fun _ => only (by
            have : ¬ 2 ≤ fb_ct (bL v5) 64 := fun z => c10 (ht.mpr z)
            omega)⟩))
          have cm : (s.1 45 0).toNatClampNeg = m := by
            have := clamp_I (x := s.1 45 0) (by omega)
            omega
          refine pc_ix (fun im => ?_)
          rw [cm]
          refine pc_lt fun s15 e15 => ?_
          refine pc_lt fun s16 e16 => ?_
          exact hk2 s16 (Or.inr ⟨s15, e15, e16, thx_f.mpr c8, by omega⟩)
        · rw [fa_eq, k_0, e8] at c8
          exact hk2 s (Or.inl ⟨rfl, fun z => absurd (thx_f.mp z) c8⟩)
    · refine pc_ite (fun c2 => ?_) (fun c2 => ?_)
      · rw [fa_le, k_2, h6.2] at c2
        exact hk 0 ⟨fun _ => by omega, fun _ => rfl⟩
      · rw [fa_le, k_2, h6.2] at c2
        exact hk 1 ⟨fun z => absurd z n1, fun z => by omega⟩
/-- jumps that stand -/
def JEx (σ s : Sto) (f : Nat → Bool) : Prop := ∀ d, d < (EVx σ).1 → Jx s d = f d
theorem JEx.cg {σ s t : Sto} {f : Nat → Bool} (h : JEx σ s f) (e : t.1 37 = s.1 37) : JEx σ t f := fun d hd => by
  show decide ((t.1 37 d).toInt ≠ 0) = _
  rw [e]; exact h d hd
theorem JEx.on {σ s t : Sto} {f : Nat → Bool} {e : Nat} {v : Int32} (h : JEx σ s f) (et : t.1 37 = (sti s 37 e v).1 37) (hv : v.toInt ≠ 0) : JEx σ t (sJ f e) := fun d hd => by
  show decide ((t.1 37 d).toInt ≠ 0) = (f d || decide (d = e))
  rw [et, sti_if]
  by_cases q : d = e
  · rw [if_pos q, decide_eq_true q, Bool.or_true]; exact decide_eq_true hv
  · rw [if_neg q, decide_eq_false q, Bool.or_false]; exact h d hd
theorem JEx.off {σ s t : Sto} {f : Nat → Bool} {e : Nat} {v : Int32} (h : JEx σ s (sJ f e)) (et : t.1 37 = (sti s 37 e v).1 37) (hv : v.toInt = 0) (hf : f e = false) : JEx σ t f := fun d hd => by
  show decide ((t.1 37 d).toInt ≠ 0) = f d
  rw [et, sti_if]
  by_cases q : d = e
  · rw [if_pos q, q, hf]
    exact decide_eq_false (fun z => z hv)
  · rw [if_neg q]
    have := h d hd
    rw [show Jx s d = decide ((s.1 37 d).toInt ≠ 0) from rfl] at this
    rw [this]
    unfold sJ
    rw [decide_eq_false q, Bool.or_false]
/-- what the last of isReducedNow left -/
def LST (s : Sto) : Prop := PRM (EVx s) (Jx s) (nX s) (ri (s.1 39)) (ri (s.1 40)) ∧ BEF s s ∧ DMX s s
theorem LST.cg {s t : Sto} (h : LST s) (e20 : t.1 20 = s.1 20) (e27 : t.1 27 = s.1 27) (e29 : t.1 29 = s.1 29) (e30 : t.1 30 = s.1 30) (e31 : t.1 31 = s.1 31) (e37 : t.1 37 = s.1 37) (e39 : t.1 39 = s.1 39) (e40 : t.1 40 = s.1 40) (l1 : t.2 1 = s.2 1) (l5 : t.2 5 = s.2 5) : LST t := by
  have eV : EVx t = EVx s := EVw.cg e27 e29 e30 e31
  have eJ : Jx t = Jx s := by unfold Jx; rw [e37]
  have eN : nX t = nX s := by unfold nX; rw [e20]
  obtain ⟨h1, h2, h3⟩ := h
  refine ⟨by rw [eV, eJ, eN, e39, e40]; exact h1, ?_, ?_⟩
  · unfold BEF
    rw [eV, eJ, eN, l5]; exact h2
  · unfold DMX
    rw [eV, eJ, eN, l1]; exact h3
/-- where form works -/
abbrev MSQ : List Nat := [34, 35, 36, 37, 38, 39, 40, 42, 43, 44, 45]
def SOK (s : Sto) : Prop := BX s ∧ EB s ∧ BV s
def FMX (σ : Sto) : Prop := SOK σ ∧ PFE (EVx σ) (nX σ) (fEx σ) ∧ 0 < nX σ ∧ ∀ e d, e < (EVx σ).1 → d < (EVx σ).1 → gA (EVx σ) e = gA (EVx σ) d → gB (EVx σ) e = gB (EVx σ) d → e = d
theorem MSQ.e {σ t : Sto} (f : FR MSQ [1, 5] σ t) : EVx t = EVx σ ∧ nX t = nX σ ∧ fEx t = fEx σ := ⟨EVw.cg (f.1 27 (by decide)) (f.1 29 (by decide)) (f.1 30 (by decide)) (f.1 31 (by decide)), by unfold nX; rw [f.1 20 (by decide)], by unfold fEx; rw [f.1 28 (by decide)]⟩
theorem t_red {σ t : Sto} (h : FMX σ) (f : FR MSQ [1, 5] σ t) (k : SOK t) {g : Nat → Bool} (hj : JEx σ t g) : PC (f_X8_isReducedNow t) (fun r => SOK r.2 ∧ FR MS9 [1, 5] t r.2 ∧ (r.1 = 0 ∨ r.1 = 1) ∧ (r.1 ≠ 0 ↔ GG (EVx σ) g (nX σ)) ∧ ((∀ b, b < nX σ → AG (EVx σ) g b) → LST r.2)) := by
  obtain ⟨a, b, c⟩ := MSQ.e f
  obtain ⟨hS, hE, hn, hU⟩ := h
  have gg : GG (EVx t) (Jx t) (nX t) ↔ GG (EVx σ) g (nX σ) := by
    rw [a, b]
    exact GG.cg ⟨rfl, fun _ _ => ⟨rfl, rfl, rfl⟩⟩ hj
  refine pc_imp (pc_and (t_isReducedNow k.1 k.2.1 (by rw [a, b, c]; exact hE) (by rw [b]; exact hn)) (pc_ok (s_X8_isReducedNow k.1 k.2.1 k.2.2))) (fun r q => ?_)
  obtain ⟨⟨q1, q2, q3, q4⟩, _, w1, w2, w3⟩ := q
  rw [gg] at q3
  refine ⟨⟨w1, EB.fr w2 (by decide) k.2.1, w3⟩, q1, q2, q3, fun hA => ?_⟩
  have hA2 : ∀ x, x < nX t → AG (EVx t) (Jx t) x := fun x hx => by
    rw [b] at hx
    rw [a]
    exact fun P p1 p2 => hA x hx P p1 (fun e he ha => p2 e ⟨he.1, by rw [hj e he.1]; exact he.2⟩ ha)
  obtain ⟨y1, y2, y3⟩ := q4 hA2
  have f9 : ∀ {k : Nat}, k ≠ 39 ∧ k ≠ 40 ∧ k ≠ 42 ∧ k ≠ 43 → r.2.1 k = t.1 k := fun {k} hk => q1.1 k (by simp; omega)
  have eV : EVx r.2 = EVx t := EVw.cg (f9 (by decide)) (f9 (by decide)) (f9 (by decide)) (f9 (by decide))
  have eJ : Jx r.2 = Jx t := by unfold Jx; rw [f9 (show (37 : Nat) ≠ 39 ∧ (37 : Nat) ≠ 40 ∧ (37 : Nat) ≠ 42 ∧ (37 : Nat) ≠ 43 by decide)]
  have eN : nX r.2 = nX t := by unfold nX; rw [f9 (show (20 : Nat) ≠ 39 ∧ (20 : Nat) ≠ 40 ∧ (20 : Nat) ≠ 42 ∧ (20 : Nat) ≠ 43 by decide)]
  refine ⟨by rw [eV, eJ, eN]; exact y1, ?_, ?_⟩
  · unfold BEF
    rw [eV, eJ, eN]; exact y2
  · unfold DMX
    rw [eV, eJ, eN]; exact y3
abbrev MSO : List Nat := [36, 37, 39, 40, 42, 43]
theorem t_oneJump {σ s : Sto} (h : FMX σ) (f : FR MSQ [1, 5] σ s) (k : SOK s) (hc : CLX σ s) (hj : JEx σ s J0f) (h0 : ¬ GG (EVx σ) J0f (nX σ)) : PC (f_X8_oneJumpIsEnough s) (fun r => (SOK r.2 ∧ FR MSO [1, 5] s r.2) ∧ ((r.1 = 0 ∧ JEx σ r.2 J0f ∧ ∀ e, e < (EVx σ).1 → thx σ e = false → ¬ GG (EVx σ) (sJ J0f e) (nX σ)) ∨ (r.1 ≠ 0 ∧ LST r.2 ∧ (r.2.1 36 0).toInt = 1 ∧ ∃ a, a < (EVx σ).1 ∧ thx σ a = false ∧ GG (EVx σ) (sJ J0f a) (nX σ) ∧ (∀ e, e < a → thx σ e = false → ¬ GG (EVx σ) (sJ J0f e) (nX σ)) ∧ JEx σ r.2 (sJ J0f a)))) := by
  have k_0 : (0 : Int32).toInt = 0 := by decide +kernel
  have k_1 : (1 : Int32).toInt = 1 := by decide +kernel
  have n1 : (1 : Int32) ≠ 0 := by decide
  obtain ⟨m, m1, m2, m3, m4⟩ := hc
  have hE := h.2.1
  have nc : ∀ e, e < (EVx σ).1 → NCD (EVx σ) e → ¬ GG (EVx σ) (sJ J0f e) (nX σ) := fun e he q => q.one (fun d hd => (hE.2 d hd).2) he h0
  unfold f_X8_oneJumpIsEnough
  refine pc_itr2 (fun c t => 0 ≤ c.toInt ∧ SOK t ∧ FR MSO [1, 5] s t ∧ JEx σ t J0f ∧ ∀ j : Nat, (j : Int) < c.toInt → j < m → ∀ e : Nat, (s.1 44 j).toInt = e → ¬ GG (EVx σ) (sJ J0f e) (nX σ)) ?_ ⟨by omega, k, FR.rf, hj, fun j hj => by omega⟩
  intro ag c t I ih
  obtain ⟨c0, t1, t2, t3, t4⟩ := I
  have cc := clamp_I c0
  have ft : ∀ {k : Nat}, k ∉ MSO → t.1 k = s.1 k := fun {k} hk => t2.1 k hk
  refine pc_ite (fun c1 => ?_) (fun c1 => ?_)
  · rw [fa_le, ft (by decide), m1] at c1
    refine pc_ret ⟨⟨t1, t2⟩, Or.inl ⟨rfl, t3, fun e he ht => ?_⟩⟩
    rcases m4 e he ht with ⟨j, j1, j2⟩ | z
    · exact t4 j (by omega) j1 e j2
    · exact nc e he z
  · rw [fa_le, ft (by decide), m1] at c1
    have ex : (c + 1).toInt = c.toInt + 1 := i1 (by have := gX_45 t1.1 0; rw [ft (by decide)] at this; omega)
    obtain ⟨a, a1, a2, a3⟩ := m2 c.toNatClampNeg (by omega)
    have aV : a < 120 := by
      have := gX_27 h.1.1 0
      have hV : ((EVx σ).1 : Int) = (σ.1 27 0).toInt := Int.toNat_of_nonneg this.1
      omega
    refine pc_ix (fun _ => ?_)
    rw [ft (show (44 : Nat) ∉ MSO by decide)]
    refine pc_lt fun v3 e3 => ?_
    have v3a : v3.toInt = a := by rw [e3]; exact a1
    have c3 : v3.toNatClampNeg = a := by
      have := clamp_I (x := v3) (by omega)
      omega
    refine pc_ix (fun _ => ?_)
    rw [c3]
    refine pc_lt fun s4 e4 => ?_
    have F4 : FR MSO [1, 5] s s4 := by rw [e4]; exact FR.st t2 (by decide)
    have K4 : SOK s4 := by
      rw [e4]
      exact ⟨pX_37 t1.1 (by omega), EB.st1 (by decide) t1.2.1, BV.st1 (by decide) t1.2.2⟩
    have J4 : JEx σ s4 (sJ J0f a) := t3.on (by rw [e4]) (by rw [k_1]; decide)
    refine pc_calv (t_red h (FR.cal f F4 rfl rfl) K4 J4) (fun v5 s5 q => ?_)
    obtain ⟨q1, q2, q3, q4, q5⟩ := q
    (try dsimp only at q1 q2 q3 q4 q5)
    have F5 : FR MSO [1, 5] s s5 := FR.cal F4 q2 rfl rfl
    have J5 : JEx σ s5 (sJ J0f a) := J4.cg (q2.1 37 (by decide))
    refine pc_ite (fun c5 => ?_) (fun c5 => ?_)
    · refine pc_ix (fun _ => ?_)
      rw [F5.1 44 (by decide)]
      refine pc_lt fun v7 e7 => ?_
      have c7 : v7.toNatClampNeg = a := by
        have := clamp_I (x := v7) (by rw [e7, a1]; omega)
        rw [e7, a1] at this
        rw [e7]; omega
      refine pc_ix (fun _ => ?_)
      rw [c7]
      refine pc_lt fun s8 e8 => ?_
      refine pc_lt fun x9 e9 => ?_
      subst e9
      refine ih (c + 1) s8 ⟨by omega, by rw [e8]; exact ⟨pX_37 q1.1 (by omega), EB.st1 (by decide) q1.2.1, BV.st1 (by decide) q1.2.2⟩, by rw [e8]; exact FR.st F5 (by decide), J5.off (by rw [e8]) k_0 rfl, fun j j1 j2 e j3 => ?_⟩
      by_cases w : j = c.toNatClampNeg
      · have ea : e = a := by
          rw [w, a1] at j3
          omega
        rw [ea]
        exact fun z => q4.mpr z c5
      · exact t4 j (by omega) j2 e j3
    · refine pc_lt fun s10 e10 => ?_
      have G := q4.mp c5
      have L5 := q5 G.1
      refine pc_ret ⟨⟨by rw [e10]; exact ⟨pX_36 q1.1 (by omega), EB.st1 (by decide) q1.2.1, BV.st1 (by decide) q1.2.2⟩, by rw [e10]; exact FR.st F5 (by decide)⟩, Or.inr ⟨n1, ?_, by rw [e10, sti_s]; exact k_1, a, a2, a3, G, fun e h1 h2 => ?_, J5.cg (by rw [e10, sti_o (by decide)])⟩⟩
      · exact L5.cg (by rw [e10, sti_o (by decide)]) (by rw [e10, sti_o (by decide)]) (by rw [e10, sti_o (by decide)]) (by rw [e10, sti_o (by decide)]) (by rw [e10, sti_o (by decide)]) (by rw [e10, sti_o (by decide)]) (by rw [e10, sti_o (by decide)]) (by rw [e10, sti_o (by decide)]) (by rw [e10]; rfl) (by rw [e10]; rfl)
      · rcases m4 e (by omega) h2 with ⟨j, j1, j2⟩ | z
        · have jc : j < c.toNatClampNeg := Classical.byContradiction fun z => by
            by_cases w : j = c.toNatClampNeg
            · rw [w, a1] at j2; omega
            · have := m3 c.toNatClampNeg j (by omega) j1
              omega
          exact t4 j (by omega) j1 e j2
        · exact nc e (by omega) z
theorem t_twoJumps {σ s : Sto} (h : FMX σ) (f : FR MSQ [1, 5] σ s) (k : SOK s) (hc : CLX σ s) (hj : JEx σ s J0f) (h0 : ¬ GG (EVx σ) J0f (nX σ)) (h1 : ∀ e, e < (EVx σ).1 → thx σ e = false → ¬ GG (EVx σ) (sJ J0f e) (nX σ)) : PC (f_X8_twoJumpsAreEnough s) (fun r => (SOK r.2 ∧ FR MSO [1, 5] s r.2) ∧ ((r.1 = 0 ∧ JEx σ r.2 J0f ∧ ∀ c d, c < d → d < (EVx σ).1 → thx σ c = false → thx σ d = false → ¬ GG (EVx σ) (sJ (sJ J0f c) d) (nX σ)) ∨ (r.1 ≠ 0 ∧ LST r.2 ∧ (r.2.1 36 0).toInt = 2 ∧ ∃ a b, a < b ∧ b < (EVx σ).1 ∧ thx σ a = false ∧ thx σ b = false ∧ GG (EVx σ) (sJ (sJ J0f a) b) (nX σ) ∧ (∀ c d, c < a → c < d → d < (EVx σ).1 → thx σ c = false → thx σ d = false → ¬ GG (EVx σ) (sJ (sJ J0f c) d) (nX σ)) ∧ (∀ d, a < d → d < b → thx σ d = false → ¬ GG (EVx σ) (sJ (sJ J0f a) d) (nX σ)) ∧ JEx σ r.2 (sJ (sJ J0f a) b)))) := by
  have k_0 : (0 : Int32).toInt = 0 := by decide +kernel
  have k_1 : (1 : Int32).toInt = 1 := by decide +kernel
  have k_2 : (2 : Int32).toInt = 2 := by decide +kernel
  have n1 : (1 : Int32) ≠ 0 := by decide
  obtain ⟨m, m1, m2, m3, m4⟩ := hc
  have hE := h.2.1
  have g27 := gX_27 h.1.1 0
  have hV : ((EVx σ).1 : Int) = (σ.1 27 0).toInt := Int.toNat_of_nonneg g27.1
  have g45 := gX_45 k.1 0
  -- of two that are tried, both are told
  have nc : ∀ c d, c < d → d < (EVx σ).1 → thx σ c = false → thx σ d = false → (NCD (EVx σ) c ∨ NCD (EVx σ) d) → ¬ GG (EVx σ) (sJ (sJ J0f c) d) (nX σ) := fun c d hcd hd hc ht q => NCD.two (fun e he => (hE.2 e he).2) (by omega) hd q (h1 c (by omega) hc) (h1 d hd ht)
  have lt : ∀ i j, i < m → j < m → (s.1 44 i).toInt < (s.1 44 j).toInt → i < j := fun i j hi hj hl => Classical.byContradiction fun z => by
    by_cases w : i = j
    · rw [w] at hl; omega
    · have := m3 j i (by omega) hi
      omega
  unfold f_X8_twoJumpsAreEnough
  refine pc_itr2 (fun c t => 0 ≤ c.toInt ∧ SOK t ∧ FR MSO [1, 5] s t ∧ JEx σ t J0f ∧ ∀ i j : Nat, (i : Int) < c.toInt → i < j → j < m → ∀ e d : Nat, (s.1 44 i).toInt = e → (s.1 44 j).toInt = d → ¬ GG (EVx σ) (sJ (sJ J0f e) d) (nX σ)) ?_ ⟨by omega, k, FR.rf, hj, fun i j hi => by omega⟩
  intro ag c t I ih
  obtain ⟨c0, t1, t2, t3, t4⟩ := I
  have cc := clamp_I c0
  have ft : ∀ {k : Nat}, k ∉ MSO → t.1 k = s.1 k := fun {k} hk => t2.1 k hk
  refine pc_ite (fun c1 => ?_) (fun c1 => ?_)
  · rw [fa_le, ft (by decide), m1] at c1
    refine pc_ret ⟨⟨t1, t2⟩, Or.inl ⟨rfl, t3, fun x y hxy hy hx ht => ?_⟩⟩
    rcases m4 x (by omega) hx with ⟨i, i1_, i2⟩ | z
    · rcases m4 y hy ht with ⟨j, j1, j2⟩ | z
      · exact t4 i j (by omega) (lt i j i1_ j1 (by omega)) j1 x y i2 j2
      · exact nc x y hxy hy hx ht (Or.inr z)
    · exact nc x y hxy hy hx ht (Or.inl z)
  · rw [fa_le, ft (by decide), m1] at c1
    have ex : (c + 1).toInt = c.toInt + 1 := i1 (by omega)
    obtain ⟨a, a1, a2, a3⟩ := m2 c.toNatClampNeg (by omega)
    refine pc_ix (fun _ => ?_)
    rw [ft (show (44 : Nat) ∉ MSO by decide)]
    refine pc_lt fun v3 e3 => ?_
    have v3a : v3.toInt = a := by rw [e3]; exact a1
    have c3 : v3.toNatClampNeg = a := by
      have := clamp_I (x := v3) (by omega)
      omega
    refine pc_ix (fun _ => ?_)
    rw [c3]
    refine pc_lt fun s4 e4 => ?_
    have F4 : FR MSO [1, 5] s s4 := by rw [e4]; exact FR.st t2 (by decide)
    have K4 : SOK s4 := by
      rw [e4]
      exact ⟨pX_37 t1.1 (by omega), EB.st1 (by decide) t1.2.1, BV.st1 (by decide) t1.2.2⟩
    have J4 : JEx σ s4 (sJ J0f a) := t3.on (by rw [e4]) (by rw [k_1]; decide)
    refine pc_lt fun x5 e5 => ?_
    subst e5
    refine pc_itr2 (fun d u => c.toInt < d.toInt ∧ SOK u ∧ FR MSO [1, 5] s u ∧ JEx σ u (sJ J0f a) ∧ ∀ j : Nat, c.toNatClampNeg < j → (j : Int) < d.toInt → j < m → ∀ e : Nat, (s.1 44 j).toInt = e → ¬ GG (EVx σ) (sJ (sJ J0f a) e) (nX σ)) ?_ ⟨by omega, K4, F4, J4, fun j h1 h2 => by omega⟩
    intro ag2 d u I2 ih2
    obtain ⟨d0, u1, u2, u3, u4⟩ := I2
    have cd := clamp_I (x := d) (by omega)
    have fu : ∀ {k : Nat}, k ∉ MSO → u.1 k = s.1 k := fun {k} hk => u2.1 k hk
    refine pc_ite (fun c2 => ?_) (fun c2 => ?_)
    · rw [fa_le, fu (by decide), m1] at c2
      refine pc_ix (fun _ => ?_)
      rw [fu (show (44 : Nat) ∉ MSO by decide)]
      refine pc_lt fun v8 e8 => ?_
      have c8 : v8.toNatClampNeg = a := by
        have := clamp_I (x := v8) (by rw [e8, a1]; omega)
        rw [e8, a1] at this
        rw [e8]; omega
      refine pc_ix (fun _ => ?_)
      rw [c8]
      refine pc_lt fun s9 e9 => ?_
      refine pc_lt fun x10 e10 => ?_
      subst e10
      refine ih (c + 1) s9 ⟨by omega, by rw [e9]; exact ⟨pX_37 u1.1 (by omega), EB.st1 (by decide) u1.2.1, BV.st1 (by decide) u1.2.2⟩, by rw [e9]; exact FR.st u2 (by decide), u3.off (by rw [e9]) k_0 rfl, fun i j y1 y2 y3 e g y4 y5 => ?_⟩
      by_cases w : i = c.toNatClampNeg
      · have ea : e = a := by
          rw [w, a1] at y4
          omega
        rw [ea]
        exact u4 j (by omega) (by omega) y3 g y5
      · exact t4 i j (by omega) y2 y3 e g y4 y5
    · rw [fa_le, fu (by decide), m1] at c2
      have exd : (d + 1).toInt = d.toInt + 1 := i1 (by omega)
      obtain ⟨b, b1, b2, b3⟩ := m2 d.toNatClampNeg (by omega)
      have ab : a < b := by
        have := m3 c.toNatClampNeg d.toNatClampNeg (by omega) (by omega)
        omega
      refine pc_ix (fun _ => ?_)
      rw [fu (show (44 : Nat) ∉ MSO by decide)]
      refine pc_lt fun v11 e11 => ?_
      have v11b : v11.toInt = b := by rw [e11]; exact b1
      have c11 : v11.toNatClampNeg = b := by
        have := clamp_I (x := v11) (by omega)
        omega
      refine pc_ix (fun _ => ?_)
      rw [c11]
      refine pc_lt fun s12 e12 => ?_
      have F12 : FR MSO [1, 5] s s12 := by rw [e12]; exact FR.st u2 (by decide)
      have K12 : SOK s12 := by
        rw [e12]
        exact ⟨pX_37 u1.1 (by omega), EB.st1 (by decide) u1.2.1, BV.st1 (by decide) u1.2.2⟩
      have J12 : JEx σ s12 (sJ (sJ J0f a) b) := u3.on (by rw [e12]) (by rw [k_1]; decide)
      refine pc_calv (t_red h (FR.cal f F12 rfl rfl) K12 J12) (fun v13 s13 q => ?_)
      obtain ⟨q1, q2, q3, q4, q5⟩ := q
      (try dsimp only at q1 q2 q3 q4 q5)
      have F13 : FR MSO [1, 5] s s13 := FR.cal F12 q2 rfl rfl
      have J13 : JEx σ s13 (sJ (sJ J0f a) b) := J12.cg (q2.1 37 (by decide))
      refine pc_ite (fun c5 => ?_) (fun c5 => ?_)
      · refine pc_ix (fun _ => ?_)
        rw [F13.1 44 (by decide)]
        refine pc_lt fun v15 e15 => ?_
        have c15 : v15.toNatClampNeg = b := by
          have := clamp_I (x := v15) (by rw [e15, b1]; omega)
          rw [e15, b1] at this
          rw [e15]; omega
        refine pc_ix (fun _ => ?_)
        rw [c15]
        refine pc_lt fun s16 e16 => ?_
        refine pc_lt fun x17 e17 => ?_
        subst e17
        refine ih2 (d + 1) s16 ⟨by omega, by rw [e16]; exact ⟨pX_37 q1.1 (by omega), EB.st1 (by decide) q1.2.1, BV.st1 (by decide) q1.2.2⟩, by rw [e16]; exact FR.st F13 (by decide), J13.off (by rw [e16]) k_0 (by unfold sJ J0f; rw [Bool.false_or]; exact decide_eq_false (by omega)), fun j y1 y2 y3 e y4 => ?_⟩
        by_cases w : j = d.toNatClampNeg
        · have eb : e = b := by
            rw [w, b1] at y4
            omega
          rw [eb]
          exact fun z => q4.mpr z c5
        · exact u4 j y1 (by omega) y3 e y4
      · refine pc_lt fun s18 e18 => ?_
        have G := q4.mp c5
        have L5 := q5 G.1
        refine pc_ret ⟨⟨by rw [e18]; exact ⟨pX_36 q1.1 (by omega), EB.st1 (by decide) q1.2.1, BV.st1 (by decide) q1.2.2⟩, by rw [e18]; exact FR.st F13 (by decide)⟩, Or.inr ⟨n1, ?_, by rw [e18, sti_s]; exact k_2, a, b, ab, b2, a3, b3, G, fun x y z1 z2 z3 z4 z5 => ?_, fun y z1 z2 z3 => ?_, J13.cg (by rw [e18, sti_o (by decide)])⟩⟩
        · exact L5.cg (by rw [e18, sti_o (by decide)]) (by rw [e18, sti_o (by decide)]) (by rw [e18, sti_o (by decide)]) (by rw [e18, sti_o (by decide)]) (by rw [e18, sti_o (by decide)]) (by rw [e18, sti_o (by decide)]) (by rw [e18, sti_o (by decide)]) (by rw [e18, sti_o (by decide)]) (by rw [e18]; rfl) (by rw [e18]; rfl)
        · rcases m4 x (by omega) z4 with ⟨i, i1_, i2⟩ | w
          · rcases m4 y z3 z5 with ⟨j, j1, j2⟩ | w
            · have ic := lt i c.toNatClampNeg i1_ (by omega) (by omega)
              exact t4 i j (by omega) (lt i j i1_ j1 (by omega)) j1 x y i2 j2
            · exact nc x y z2 z3 z4 z5 (Or.inr w)
          · exact nc x y z2 z3 z4 z5 (Or.inl w)
        · rcases m4 y (by omega) z3 with ⟨j, j1, j2⟩ | w
          · have jc := lt c.toNatClampNeg j (by omega) j1 (by omega)
            have jd := lt j d.toNatClampNeg j1 (by omega) (by omega)
            exact u4 j jc (by omega) j1 y j2
          · exact nc a y z1 (by omega) a3 z3 (Or.inr w)
