/-- what a run has so far: variables, seed, inputs drawn, outputs (the latest first) -/
abbrev RUS : Type := (Nat → Int32) × Int32 × Int32 × List Int32
/-- outputs told one by the other -/
def fldO : List Int32 → Int32
  | [] => 0
  | v :: l => 31 * fldO l + v
/-- the i-th from the oldest on -/
def oldO : List Int32 → Nat → Int32
  | [], _ => 0
  | v :: l, i => if i = l.length then v else oldO l i
/-- the output that is asked for -/
def wntO (a : Int32) : List Int32 → Int32
  | [] => 0
  | v :: l => if nI l.length = a then v else wntO a l
theorem oldO_s {v : Int32} {l : List Int32} : oldO (v :: l) l.length = v := if_pos rfl
theorem oldO_n {v : Int32} {l : List Int32} {i : Nat} (h : i < l.length) : oldO (v :: l) i = oldO l i := if_neg (by omega)
theorem wnt_old {a : Int32} : ∀ {l : List Int32}, l.length ≤ 8000 → 0 ≤ a.toInt → a.toInt < (l.length : Int) → wntO a l = oldO l a.toNatClampNeg
  | [], _, h0, h1 => absurd h1 (by simp only [List.length_nil]; omega)
  | v :: l, hl, h0, h1 => by
    have ca := clamp_I h0
    rw [List.length_cons] at hl h1
    have e : (nI l.length).toInt = (l.length : Int) := nI_toInt (by omega)
    show (if nI l.length = a then v else wntO a l) = if a.toNatClampNeg = l.length then v else oldO l a.toNatClampNeg
    by_cases c : a.toNatClampNeg = l.length
    · rw [if_pos c, if_pos (by rw [fa_eq, e]; omega)]
    · rw [if_neg c, if_neg (by rw [fa_eq, e]; omega)]
      exact wnt_old (by omega) h0 (by omega)
/-- the run's part of the class's store -/
def RXX (a : Int32) (R : RUS) (c : Sto) : Prop := (∀ i, i < 6 → c.1 78 i = R.1 i) ∧ c.1 82 0 = R.2.1 ∧ c.1 88 0 = R.2.2.1 ∧ c.1 89 0 = nI R.2.2.2.length ∧ c.1 90 0 = fldO R.2.2.2 ∧ c.1 91 0 = a ∧ c.1 92 0 = wntO a R.2.2.2
/-- the run's part of the reference's store -/
def RMM (R : RUS) (m : Sto) : Prop := (∀ i, i < 6 → m.1 69 i = R.1 i) ∧ m.1 76 0 = R.2.1 ∧ m.1 72 0 = R.2.2.1 ∧ (m.1 71 0).toInt = (R.2.2.2.length : Int) ∧ R.2.2.2.length ≤ 8000 ∧ ∀ i, i < R.2.2.2.length → m.1 70 i = oldO R.2.2.2 i
theorem RXX.cg {a : Int32} {R : RUS} {c d : Sto} (h : RXX a R c) (e : ∀ k, k = 78 ∨ k = 82 ∨ k = 88 ∨ k = 89 ∨ k = 90 ∨ k = 91 ∨ k = 92 → d.1 k = c.1 k) : RXX a R d := by
  unfold RXX at h ⊢
  rw [e 78 (by decide), e 82 (by decide), e 88 (by decide), e 89 (by decide), e 90 (by decide), e 91 (by decide), e 92 (by decide)]
  exact h
theorem RXX.fr {a : Int32} {R : RUS} {c d : Sto} {ms ml : List Nat} (h : RXX a R c) (f : FR ms ml c d) (hm : ([78, 82, 88, 89, 90, 91, 92] : List Nat).all (fun k => !ms.contains k) = true) : RXX a R d := h.cg (fun k hk => f.1 k (fun q => by
  have := List.all_eq_true.mp hm k (by simp; omega)
  simp at this
  exact this q))
theorem RMM.cg {R : RUS} {m d : Sto} (h : RMM R m) (e : ∀ k, k = 69 ∨ k = 76 ∨ k = 72 ∨ k = 71 ∨ k = 70 → d.1 k = m.1 k) : RMM R d := by
  unfold RMM at h ⊢
  rw [e 69 (by decide), e 76 (by decide), e 72 (by decide), e 71 (by decide), e 70 (by decide)]
  exact h
theorem RMM.fr {R : RUS} {m d : Sto} {ms ml : List Nat} (h : RMM R m) (f : FR ms ml m d) (hm : ([69, 70, 71, 72, 76] : List Nat).all (fun k => !ms.contains k) = true) : RMM R d := h.cg (fun k hk => f.1 k (fun q => by
  have := List.all_eq_true.mp hm k (by simp; omega)
  simp at this
  exact this q))
def drN (s : Int32) : Int32 := s * 1103515245 + 12345
def drO (z : Int32) : Int32 := ((z.toUInt32 >>> ((16 : Int32).toUInt32 &&& Int32.toUInt32 31)).toInt32 &&& 32767) - ((z.toUInt32 >>> ((16 : Int32).toUInt32 &&& Int32.toUInt32 31)).toInt32 &&& 32767) / 5 * 5
def rDraw (R : RUS) : RUS := (R.1, drN R.2.1, R.2.2.1 + 1, R.2.2.2)
def rOut (v : Int32) (R : RUS) : RUS := (R.1, R.2.1, R.2.2.1, v :: R.2.2.2)
def rSet (i : Nat) (v : Int32) (R : RUS) : RUS := (upT R.1 i v, R.2.1, R.2.2.1, R.2.2.2)
theorem t_draw {a : Int32} {R : RUS} {c : Sto} (h : RXX a R c) : PC (f_X5_draw c) (fun r => FR [82, 88] [] c r.2 ∧ RXX a (rDraw R) r.2 ∧ r.1 = drO (drN R.2.1)) := by
  obtain ⟨h1, h2, h3, h4, h5, h6, h7⟩ := h
  unfold f_X5_draw
  refine pc_lt fun s1 e1 => ?_
  refine pc_lt fun s2 e2 => ?_
  have a82 : s2.1 82 0 = drN R.2.1 := by rw [e2, sti_o (by decide), e1, sti_s, h2]; rfl
  have fr : FR [82, 88] [] c s2 := by rw [e2, e1]; exact FR.st (FR.st FR.rf (by decide)) (by decide)
  refine pc_ret ⟨fr, ⟨fun i hi => ?_, a82, ?_, ?_, ?_, ?_, ?_⟩, ?_⟩
  · (try dsimp only); rw [fr.1 78 (by decide)]; exact h1 i hi
  · (try dsimp only)
    rw [e2, sti_s, e1, sti_o (by decide), h3]; rfl
  · (try dsimp only); rw [fr.1 89 (by decide)]; exact h4
  · (try dsimp only); rw [fr.1 90 (by decide)]; exact h5
  · (try dsimp only); rw [fr.1 91 (by decide)]; exact h6
  · (try dsimp only); rw [fr.1 92 (by decide)]; exact h7
  · show drO (s2.1 82 0) = _
    rw [a82]
theorem m_input {R : RUS} {m : Sto} (h : RMM R m) : PC (f_X12_input m) (fun r => FR [72, 76] [] m r.2 ∧ RMM (rDraw R) r.2 ∧ r.1 = drO (drN R.2.1)) := by
  obtain ⟨h1, h2, h3, h4, h5, h6⟩ := h
  unfold f_X12_input
  refine pc_lt fun s1 e1 => ?_
  refine pc_lt fun s2 e2 => ?_
  have a76 : s2.1 76 0 = drN R.2.1 := by rw [e2, sti_o (by decide), e1, sti_s, h2]; rfl
  have fr : FR [72, 76] [] m s2 := by rw [e2, e1]; exact FR.st (FR.st FR.rf (by decide)) (by decide)
  refine pc_ret ⟨fr, ⟨fun i hi => ?_, a76, ?_, ?_, h5, fun i hi => ?_⟩, ?_⟩
  · (try dsimp only); rw [fr.1 69 (by decide)]; exact h1 i hi
  · (try dsimp only)
    rw [e2, sti_s, e1, sti_o (by decide), h3]; rfl
  · (try dsimp only); rw [fr.1 71 (by decide)]; exact h4
  · (try dsimp only); rw [fr.1 70 (by decide)]; exact h6 i hi
  · show drO (s2.1 76 0) = _
    rw [a76]
theorem nI_s1 (n : Nat) : nI n + 1 = nI (n + 1) := (Int32.ofNat_add n 1).symm
theorem t_tellOut {a v : Int32} {R : RUS} {c : Sto} (h : RXX a R c) : PC (f_X5_tellOut v c) (fun d => FR [89, 90, 92] [] c d ∧ RXX a (rOut v R) d) := by
  obtain ⟨h1, h2, h3, h4, h5, h6, h7⟩ := h
  unfold f_X5_tellOut
  refine pc_jnI1 (fun t => FR [92] [] c t ∧ t.1 92 0 = wntO a (v :: R.2.2.2)) (fun t ht => ?_) (fun k hk => ?_)
  · obtain ⟨f, w⟩ := ht
    refine pc_lt fun s2 e2 => ?_
    refine pc_lt fun s3 e3 => ?_
    have fr : FR [89, 90, 92] [] c s3 := by rw [e3, e2]; exact FR.st (FR.st (FR.cal FR.rf f rfl rfl) (by decide)) (by decide)
    refine pc_ret ⟨fr, fun i hi => ?_, ?_, ?_, ?_, ?_, ?_, ?_⟩
    · rw [fr.1 78 (by decide)]; exact h1 i hi
    · rw [fr.1 82 (by decide)]; exact h2
    · rw [fr.1 88 (by decide)]; exact h3
    · rw [e3, sti_o (by decide), e2, sti_s, f.1 89 (by decide), h4]; exact nI_s1 _
    · rw [e3, sti_s, e2, sti_o (by decide), f.1 90 (by decide), h5]; rfl
    · rw [fr.1 91 (by decide)]; exact h6
    · rw [e3, sti_o (by decide), e2, sti_o (by decide)]; exact w
  · refine pc_ite (fun e => ?_) (fun e => ?_)
    · rw [h4, h6] at e
      refine pc_lt fun s5 e5 => hk s5 ⟨by rw [e5]; exact FR.st FR.rf (by decide), ?_⟩
      rw [e5, sti_s]
      exact (if_pos e).symm
    · rw [h4, h6] at e
      refine hk c ⟨FR.rf, ?_⟩
      rw [h7]
      exact (if_neg e).symm
theorem m_outputs {v : Int32} {R : RUS} {m : Sto} (h : RMM R m) : PC (f_X12_outputs v m) (fun d => FR [70, 71] [] m d ∧ RMM (rOut v R) d) := by
  obtain ⟨h1, h2, h3, h4, h5, h6⟩ := h
  unfold f_X12_outputs
  refine pc_ix (fun g => ?_)
  refine pc_lt fun s1 e1 => ?_
  refine pc_lt fun s2 e2 => ?_
  have fr : FR [70, 71] [] m s2 := by rw [e2, e1]; exact FR.st (FR.st FR.rf (by decide)) (by decide)
  have n1 : (m.1 71 0).toNatClampNeg = R.2.2.2.length := by
    have := clamp_I g.1
    omega
  have ex : ((m.1 71 0) + 1).toInt = (m.1 71 0).toInt + 1 := i1 (by omega)
  refine pc_ret ⟨fr, fun i hi => ?_, ?_, ?_, ?_, ?_, fun i hi => ?_⟩
  · rw [fr.1 69 (by decide)]; exact h1 i hi
  · rw [fr.1 76 (by decide)]; exact h2
  · rw [fr.1 72 (by decide)]; exact h3
  · rw [e2, sti_s, e1, sti_o (by decide), ex, h4]
    show _ = ((v :: R.2.2.2).length : Int)
    rw [List.length_cons]; omega
  · show (v :: R.2.2.2).length ≤ 8000
    rw [List.length_cons]; omega
  · have hi2 : i < R.2.2.2.length + 1 := hi
    rw [e2, sti_o (by decide), e1, n1]
    show _ = if i = R.2.2.2.length then v else oldO R.2.2.2 i
    by_cases q : i = R.2.2.2.length
    · rw [if_pos q, q, sti_s]
    · rw [if_neg q, sti_j q]; exact h6 i (by omega)
theorem RXX.set {a v : Int32} {R : RUS} {c d : Sto} {i : Nat} (h : RXX a R c) (e : d = sti c 78 i v) : RXX a (rSet i v R) d := by
  obtain ⟨h1, h2, h3, h4, h5, h6, h7⟩ := h
  subst e
  refine ⟨fun j hj => ?_, by rw [sti_o (by decide)]; exact h2, by rw [sti_o (by decide)]; exact h3, by rw [sti_o (by decide)]; exact h4, by rw [sti_o (by decide)]; exact h5, by rw [sti_o (by decide)]; exact h6, by rw [sti_o (by decide)]; exact h7⟩
  show _ = if j = i then v else R.1 j
  by_cases q : j = i
  · rw [if_pos q, q, sti_s]
  · rw [if_neg q, sti_j q]; exact h1 j hj
theorem RMM.set {v : Int32} {R : RUS} {m d : Sto} {i : Nat} (h : RMM R m) (e : d = sti m 69 i v) : RMM (rSet i v R) d := by
  obtain ⟨h1, h2, h3, h4, h5, h6⟩ := h
  subst e
  refine ⟨fun j hj => ?_, by rw [sti_o (by decide)]; exact h2, by rw [sti_o (by decide)]; exact h3, by rw [sti_o (by decide)]; exact h4, h5, fun j hj => by rw [sti_o (by decide)]; exact h6 j hj⟩
  show _ = if j = i then v else R.1 j
  by_cases q : j = i
  · rw [if_pos q, q, sti_s]
  · rw [if_neg q, sti_j q]; exact h1 j hj
/-- what an operator of two gives; of / and % the divisor is not 0 -/
def opv (g : Int) (l u : Int32) : Int32 := if g = 42 then l * u else if g = 43 then l + u else if g = 45 then l - u else if g = 60 then (if u ≤ l then 0 else 1) else if g = 61 then (if l = u then 1 else 0) else if g = 47 then l / u else l - l / u * u
def dvz (g : Int) (u : Int32) : Prop := (g = 47 ∨ g = 37) ∧ u = 0
theorem t_dvz {x u : Int32} : PC (f_X11_dividesByZero x u) (fun v => (v = 1 ∧ dvz x.toInt u) ∨ (v = 0 ∧ ¬ dvz x.toInt u)) := by
  have k_47 : (47 : Int32).toInt = 47 := by decide +kernel
  have k_37 : (37 : Int32).toInt = 37 := by decide +kernel
  unfold f_X11_dividesByZero
  refine pc_jnI0 (¬ dvz x.toInt u) (fun z => pc_ret (Or.inr ⟨rfl, z⟩)) (fun k hk => ?_)
  refine pc_jnI0 (x.toInt = 47 ∨ x.toInt = 37) (fun z => ?_) (fun k2 hk2 => ?_)
  · exact pc_ite (fun c => pc_ret (Or.inl ⟨rfl, z, c⟩)) (fun c => hk (fun y => c y.2))
  · refine pc_ite (fun c => hk2 ?_) (fun c => ?_)
    · rw [fa_eq, k_47] at c; exact Or.inl c
    rw [fa_eq, k_47] at c
    refine pc_ite (fun c2 => hk2 ?_) (fun c2 => ?_)
    · rw [fa_eq, k_37] at c2; exact Or.inr c2
    rw [fa_eq, k_37] at c2
    exact hk (fun y => by rcases y.1 with z | z; exact c z; exact c2 z)
theorem t_outcome {x l u : Int32} : PC (f_X11_outcome x l u) (fun v => (x.toInt = 33 → v = if l = 0 then 1 else 0) ∧ (x.toInt = 110 → v = -l) ∧ (isBi x.toInt → ¬ dvz x.toInt u → v = opv x.toInt l u)) := by
  unfold f_X11_outcome opv dvz
  refine pc_ite (fun c => ?_) (fun c33 => ?_)
  · refine pc_ite (fun d => pc_ret ⟨fun _ => (if_pos d).symm, fun z => by omega, fun z => by omega⟩) (fun d => pc_ret ⟨fun _ => (if_neg d).symm, fun z => by omega, fun z => by omega⟩)
  refine pc_ite (fun c => ?_) (fun c37 => ?_)
  · rw [c]
    refine pc_ite (fun d => pc_ret ⟨fun z => absurd z (by decide), fun z => absurd z (by decide), fun _ z => absurd ⟨Or.inr rfl, d⟩ z⟩) (fun d => pc_nz (fun _ => pc_ret ⟨fun z => absurd z (by decide), fun z => absurd z (by decide), fun _ _ => rfl⟩))
  refine pc_ite (fun c => ?_) (fun c42 => ?_)
  · rw [c]
    exact pc_ret ⟨fun z => absurd z (by decide), fun z => absurd z (by decide), fun _ _ => rfl⟩
  refine pc_ite (fun c => ?_) (fun c43 => ?_)
  · rw [c]
    exact pc_ret ⟨fun z => absurd z (by decide), fun z => absurd z (by decide), fun _ _ => rfl⟩
  refine pc_ite (fun c => ?_) (fun c45 => ?_)
  · rw [c]
    exact pc_ret ⟨fun z => absurd z (by decide), fun z => absurd z (by decide), fun _ _ => rfl⟩
  refine pc_ite (fun c => ?_) (fun c47 => ?_)
  · rw [c]
    refine pc_ite (fun d => pc_ret ⟨fun z => absurd z (by decide), fun z => absurd z (by decide), fun _ z => absurd ⟨Or.inl rfl, d⟩ z⟩) (fun d => pc_nz (fun _ => pc_ret ⟨fun z => absurd z (by decide), fun z => absurd z (by decide), fun _ _ => rfl⟩))
  refine pc_ite (fun c => ?_) (fun c60 => ?_)
  · rw [c]
    refine pc_ite (fun d => pc_ret ⟨fun z => absurd z (by decide), fun z => absurd z (by decide), fun _ _ => (if_pos d).symm⟩) (fun d => pc_ret ⟨fun z => absurd z (by decide), fun z => absurd z (by decide), fun _ _ => (if_neg d).symm⟩)
  refine pc_ite (fun c => ?_) (fun c61 => ?_)
  · rw [c]
    refine pc_ite (fun d => pc_ret ⟨fun z => absurd z (by decide), fun z => absurd z (by decide), fun _ _ => (if_pos d).symm⟩) (fun d => pc_ret ⟨fun z => absurd z (by decide), fun z => absurd z (by decide), fun _ _ => (if_neg d).symm⟩)
  · exact pc_ret ⟨fun z => absurd z c33, fun _ => rfl, fun z => by omega⟩
theorem m_result {x l u : Int32} {m : Sto} (hx : isBi x.toInt) : PC (f_X12_result x l u m) (fun r => (¬ dvz x.toInt u ∧ r.2 = m ∧ r.1 = opv x.toInt l u) ∨ (dvz x.toInt u ∧ r.2.1 78 0 = 1 ∧ r.2.1 79 0 = 99 ∧ FR [78, 79] [] m r.2 ∧ r.1 = 0)) := by
  have k_47 : (47 : Int32).toInt = 47 := by decide +kernel
  have k_99 : (99 : Int32).toInt = 99 := by decide +kernel
  unfold f_X12_result
  refine pc_ite (fun c => pc_ret (Or.inl ⟨fun z => by unfold dvz at z; omega, rfl, by (try dsimp only); rw [c]; rfl⟩)) (fun c42 => ?_)
  refine pc_ite (fun c => pc_ret (Or.inl ⟨fun z => by unfold dvz at z; omega, rfl, by (try dsimp only); rw [c]; rfl⟩)) (fun c43 => ?_)
  refine pc_ite (fun c => pc_ret (Or.inl ⟨fun z => by unfold dvz at z; omega, rfl, by (try dsimp only); rw [c]; rfl⟩)) (fun c45 => ?_)
  refine pc_ite (fun c => ?_) (fun c60 => ?_)
  · exact pc_ite (fun d => pc_ret (Or.inl ⟨fun z => by unfold dvz at z; omega, rfl, by (try dsimp only); rw [c]; exact (if_pos d).symm⟩)) (fun d => pc_ret (Or.inl ⟨fun z => by unfold dvz at z; omega, rfl, by (try dsimp only); rw [c]; exact (if_neg d).symm⟩))
  refine pc_ite (fun c => ?_) (fun c61 => ?_)
  · exact pc_ite (fun d => pc_ret (Or.inl ⟨fun z => by unfold dvz at z; omega, rfl, by (try dsimp only); rw [c]; exact (if_pos d).symm⟩)) (fun d => pc_ret (Or.inl ⟨fun z => by unfold dvz at z; omega, rfl, by (try dsimp only); rw [c]; exact (if_neg d).symm⟩))
  have g : x.toInt = 47 ∨ x.toInt = 37 := by omega
  refine pc_jnI1 (fun t => (u ≠ 0 ∧ t = m) ∨ (u = 0 ∧ t.1 78 0 = 1 ∧ t.1 79 0 = 99 ∧ FR [78, 79] [] m t)) (fun t ht => ?_) (fun k hk => ?_)
  · refine pc_ite (fun d => pc_ret (Or.inr ?_)) (fun d => ?_)
    · rcases ht with z | z
      · exact absurd d z.1
      · exact ⟨⟨g, d⟩, z.2.1, z.2.2.1, z.2.2.2, rfl⟩
    · have e : t = m := by
        rcases ht with z | z
        · exact z.2
        · exact absurd z.1 d
      refine pc_ite (fun c => pc_nz (fun _ => pc_ret (Or.inl ⟨fun z => d z.2, e, ?_⟩))) (fun c => pc_nz (fun _ => pc_ret (Or.inl ⟨fun z => d z.2, e, ?_⟩)))
      · rw [fa_eq, k_47] at c
        (try dsimp only); rw [c]; rfl
      · rw [fa_eq, k_47] at c
        have c37 : x.toInt = 37 := by omega
        (try dsimp only); rw [c37]; rfl
  · refine pc_ite (fun d => ?_) (fun d => hk m (Or.inl ⟨d, rfl⟩))
    unfold f_X12_throwsIt
    refine pc_cals (Q := fun t => t.1 78 0 = 1 ∧ t.1 79 0 = 99 ∧ FR [78, 79] [] m t) ?_ (fun t q => hk t (Or.inr ⟨d, q⟩))
    refine pc_lt fun s1 e1 => ?_
    refine pc_lt fun s2 e2 => ?_
    exact pc_ret ⟨by rw [e2, sti_o (by decide), e1, sti_s], by rw [e2, sti_s], by rw [e2, e1]; exact FR.st (FR.st FR.rf (by decide)) (by decide)⟩
