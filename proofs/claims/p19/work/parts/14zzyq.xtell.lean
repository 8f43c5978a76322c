abbrev MSl : List Nat := [68, 69, 70, 71, 72, 77]
def kXl (τ : Sto) (i : Nat) : Int := (τ.1 69 i).toInt
/-- the class's rows say this line there -/
def LNE (τ : Sto) (i : Nat) (x : Ln) : Prop := (τ.1 69 i).toInt = x.1 ∧ (τ.1 70 i).toInt = x.2.1 ∧ (x.1 = 0 → (τ.1 72 i).toInt = x.2.2)
def DPX (n : Nat) (τ : Sto) : Prop := τ.1 77 0 = ntD (kXl τ) n ∧ ∀ i, i < n → τ.1 71 i = dpD (kXl τ) i
/-- lines are told behind those that stand -/
def TPX (n : Nat) (l : List Ln) (τ s : Sto) : Prop := FR MSl [] τ s ∧ (s.1 68 0).toInt = ((n + l.length : Nat) : Int) ∧ (∀ k i, 69 ≤ k → k ≤ 72 → i < n → s.1 k i = τ.1 k i) ∧ (∀ i x, l[i]? = some x → LNE s (n + i) x) ∧ (DPX n τ → DPX (n + l.length) s)
theorem TPX.nil {n : Nat} {τ : Sto} (h : (τ.1 68 0).toInt = (n : Int)) : TPX n [] τ τ := ⟨FR.rf, h, fun _ _ _ _ _ => rfl, fun i x hx => by simp at hx, fun d => d⟩
theorem TPX.to {n : Nat} {l m : List Ln} {τ s : Sto} (h : TPX n l τ s) (e : l = m) : TPX n m τ s := e ▸ h
theorem TPX.app {n : Nat} {l m : List Ln} {τ s t : Sto} (h : TPX n l τ s) (g : TPX (n + l.length) m s t) : TPX n (l ++ m) τ t := by
  obtain ⟨h1, h2, h3, h4, h5⟩ := h
  obtain ⟨g1, g2, g3, g4, g5⟩ := g
  have e : n + (l ++ m).length = n + l.length + m.length := by rw [List.length_append, Nat.add_assoc]
  refine ⟨FR.cal h1 g1 rfl rfl, by rw [e]; exact g2, fun k i k1 k2 hi => by rw [g3 k i k1 k2 (by omega)]; exact h3 k i k1 k2 hi, fun i x hx => ?_, fun d => by rw [e]; exact g5 (h5 d)⟩
  rw [List.getElem?_append] at hx
  by_cases z : i < l.length
  · rw [if_pos z] at hx
    have q := h4 i x hx
    have r : ∀ k, 69 ≤ k → k ≤ 72 → t.1 k (n + i) = s.1 k (n + i) := fun k k1 k2 => g3 k (n + i) k1 k2 (by omega)
    unfold LNE at q ⊢
    rw [r 69 (by omega) (by omega), r 70 (by omega) (by omega), r 72 (by omega) (by omega)]
    exact q
  · rw [if_neg z] at hx
    have q := g4 _ x hx
    rw [show n + l.length + (i - l.length) = n + i by omega] at q
    exact q
theorem DPX.nx {n : Nat} {τ s : Sto} {k : Int} (h : DPX n τ) (hk : ∀ i, i < n → s.1 69 i = τ.1 69 i ∧ s.1 71 i = τ.1 71 i) (hkk : kXl s n = k) (hd : s.1 71 n = dpk (τ.1 77 0) k) (h77 : s.1 77 0 = stp (τ.1 77 0) k) : DPX (n + 1) s := by
  have kk : ∀ i, i < n → kXl s i = kXl τ i := fun i hi => by unfold kXl; rw [(hk i hi).1]
  have e := ntD_cg (K := kXl τ) (K2 := kXl s) n kk
  refine ⟨?_, fun i hi => ?_⟩
  · rw [h77, h.1]
    show _ = stp (ntD (kXl s) n) (kXl s n)
    rw [hkk, e]
  · by_cases q : i = n
    · rw [q, hd, h.1]
      unfold dpD
      rw [hkk, e]
    · have il : i < n := by omega
      rw [(hk i il).2, h.2 i il]
      exact (dpD_cg (fun j hj => kk j (by omega))).symm
theorem t_addL {k b q : Int32} {τ : Sto} {n : Nat} (h : (τ.1 68 0).toInt = (n : Int)) (hn : n < 800) : PC (f_X2_add k b q τ) (fun s => FR [68, 69, 70, 71, 72] [] τ s ∧ (s.1 68 0).toInt = ((n + 1 : Nat) : Int) ∧ (∀ j i, 69 ≤ j → j ≤ 72 → i < n → s.1 j i = τ.1 j i) ∧ s.1 69 n = k ∧ s.1 70 n = b ∧ s.1 71 n = τ.1 77 0 ∧ s.1 72 n = q) := by
  have k_800 : (800 : Int32).toInt = 800 := by decide +kernel
  have c := clamp_I (x := τ.1 68 0) (by omega)
  have cn : (τ.1 68 0).toNatClampNeg = n := by omega
  unfold f_X2_add
  refine pc_ite (fun c1 => ?_) (fun c1 => ?_)
  · rw [fa_le, k_800, h] at c1
    exact absurd c1 (by omega)
  · refine pc_ix (fun _ => ?_)
    rw [cn]
    refine pc_lt fun s2 e2 => ?_
    have a2 : s2.1 68 = τ.1 68 := by rw [e2, sti_o (by decide)]
    rw [a2]
    refine pc_ix (fun _ => ?_)
    rw [cn]
    refine pc_lt fun s3 e3 => ?_
    have a3 : s3.1 68 = τ.1 68 := by rw [e3, sti_o (by decide), a2]
    rw [a3]
    refine pc_ix (fun _ => ?_)
    rw [cn]
    refine pc_lt fun s4 e4 => ?_
    have a4 : s4.1 68 = τ.1 68 := by rw [e4, sti_o (by decide), a3]
    rw [a4]
    refine pc_ix (fun _ => ?_)
    rw [cn]
    refine pc_lt fun s5 e5 => ?_
    have a5 : s5.1 68 = τ.1 68 := by rw [e5, sti_o (by decide), a4]
    rw [a5]
    refine pc_lt fun s6 e6 => ?_
    have r77 : s3.1 77 = τ.1 77 := by rw [e3, sti_o (by decide), e2, sti_o (by decide)]
    have r69 : ∀ j, s6.1 69 j = if j = n then k else τ.1 69 j := fun j => by
      rw [e6, sti_o (by decide), e5, sti_o (by decide), e4, sti_o (by decide), e3, sti_o (by decide), e2, sti_if]
    have r70 : ∀ j, s6.1 70 j = if j = n then b else τ.1 70 j := fun j => by
      rw [e6, sti_o (by decide), e5, sti_o (by decide), e4, sti_o (by decide), e3, sti_if, e2, sti_o (by decide)]
    have r71 : ∀ j, s6.1 71 j = if j = n then τ.1 77 0 else τ.1 71 j := fun j => by
      rw [e6, sti_o (by decide), e5, sti_o (by decide), e4, sti_if, r77, e3, sti_o (by decide), e2, sti_o (by decide)]
    have r72 : ∀ j, s6.1 72 j = if j = n then q else τ.1 72 j := fun j => by
      rw [e6, sti_o (by decide), e5, sti_if, e4, sti_o (by decide), e3, sti_o (by decide), e2, sti_o (by decide)]
    have F6 : FR [68, 69, 70, 71, 72] [] τ s6 := by
      rw [e6]; refine FR.st ?_ (by decide)
      rw [e5]; refine FR.st ?_ (by decide)
      rw [e4]; refine FR.st ?_ (by decide)
      rw [e3]; refine FR.st ?_ (by decide)
      rw [e2]; exact FR.st FR.rf (by decide)
    refine pc_ret ⟨F6, ?_, fun j i j1 j2 hi => ?_, by rw [r69, if_pos rfl], by rw [r70, if_pos rfl], by rw [r71, if_pos rfl], by rw [r72, if_pos rfl]⟩
    · rw [e6, sti_s, i1 (by omega)]
      omega
    · by_cases z1 : j = 69
      · subst z1; rw [r69, if_neg (by omega)]
      · by_cases z2 : j = 70
        · subst z2; rw [r70, if_neg (by omega)]
        · by_cases z3 : j = 71
          · subst z3; rw [r71, if_neg (by omega)]
          · have z4 : j = 72 := by omega
            subst z4; rw [r72, if_neg (by omega)]
section
variable {k b q : Int32} {τ t : Sto} {n : Nat} {w : Int}
/-- one line -/
theorem TPX.one {x : Ln} {s : Sto} (h1 : FR MSl [] τ s) (h2 : (s.1 68 0).toInt = ((n + 1 : Nat) : Int)) (h3 : ∀ j i, 69 ≤ j → j ≤ 72 → i < n → s.1 j i = τ.1 j i) (h4 : LNE s n x) (h5 : s.1 71 n = dpk (τ.1 77 0) x.1) (h6 : s.1 77 0 = stp (τ.1 77 0) x.1) : TPX n [x] τ s := by
  refine ⟨h1, h2, h3, fun i y hy => ?_, fun d => d.nx (fun i hi => ⟨h3 69 i (by omega) (by omega) hi, h3 71 i (by omega) (by omega) hi⟩) h4.1 h5 h6⟩
  cases i with
  | zero =>
    have e : x = y := by simpa using hy
    rw [← e]; exact h4
  | succ i => simp at hy
theorem u_add (h : (τ.1 68 0).toInt = (n : Int)) (hn : n < 800) (p : plK k.toInt) (hq : k.toInt = 0 → q.toInt = w) : PC (f_X2_add k b q τ) (TPX n [(k.toInt, b.toInt, w)] τ) := pc_imp (t_addL h hn) (fun s r => by
  obtain ⟨r1, r2, r3, r4, r5, r6, r7⟩ := r
  have r77 := r1.1 77 (by decide)
  exact TPX.one (FR.cal FR.rf r1 rfl rfl) r2 r3 ⟨by rw [r4], by rw [r5], fun z => by rw [r7]; exact hq z⟩ (by rw [r6]; exact (dpk_p p.2.2 p.2.1).symm) (by rw [r77]; exact (stp_p p.1 p.2.2).symm))
theorem u_open (h : (τ.1 68 0).toInt = (n : Int)) (hn : n < 800) (p : opK k.toInt) : PC (f_X2_openLine k b τ) (TPX n [(k.toInt, b.toInt, w)] τ) := by
  unfold f_X2_openLine
  refine pc_cals (t_addL h hn) (fun s r => ?_)
  obtain ⟨r1, r2, r3, r4, r5, r6, r7⟩ := r
  have r77 := r1.1 77 (by decide)
  refine pc_lt fun s2 e2 => ?_
  have o : ∀ {j : Nat}, j ≠ 77 → s2.1 j = s.1 j := fun {j} hj => by rw [e2, sti_o hj]
  have np : ¬ (clK k.toInt ∨ k.toInt = 4) := by unfold opK at p; unfold clK; omega
  have n0 : ¬ k.toInt = 0 := by unfold opK at p; omega
  refine pc_ret (TPX.one (by rw [e2]; exact FR.st (FR.cal FR.rf r1 rfl rfl) (by decide)) (by rw [o (by decide)]; exact r2) (fun j i j1 j2 hi => by rw [o (by omega)]; exact r3 j i j1 j2 hi) ⟨by rw [o (by decide), r4], by rw [o (by decide), r5], fun z => absurd z n0⟩ (by rw [o (by decide), r6]; exact (if_neg np).symm) ?_)
  rw [e2, sti_s, r77]
  exact (stp_o p).symm
theorem u_close (h : (τ.1 68 0).toInt = (n : Int)) (hn : n < 800) : PC (f_X2_closeLine b τ) (TPX n [(5, b.toInt, w)] τ) := by
  have k_5 : (5 : Int32).toInt = 5 := by decide +kernel
  unfold f_X2_closeLine
  refine pc_lt fun s1 e1 => ?_
  have o : ∀ {j : Nat}, j ≠ 77 → s1.1 j = τ.1 j := fun {j} hj => by rw [e1, sti_o hj]
  refine pc_cals (t_addL (τ := s1) (by rw [o (by decide)]; exact h) hn) (fun s r => ?_)
  obtain ⟨r1, r2, r3, r4, r5, r6, r7⟩ := r
  have r77 := r1.1 77 (by decide)
  have c5 : clK 5 := Or.inl rfl
  have f1 : FR MSl [] τ s1 := by rw [e1]; exact FR.st FR.rf (by decide)
  refine pc_ret (TPX.one (FR.cal f1 r1 rfl rfl) r2 (fun j i j1 j2 hi => by rw [r3 j i j1 j2 hi, o (by omega)]) ⟨by rw [r4]; exact k_5, by rw [r5], fun z => absurd (show (5 : Int) = 0 from z) (by decide)⟩ ?_ ?_)
  · rw [r6, e1, sti_s]
    exact (dpk_c (Or.inl c5)).symm
  · rw [r77, e1, sti_s]
    exact (stp_c c5).symm
theorem u_else (h : (τ.1 68 0).toInt = (n : Int)) (hn : n < 800) (e1 : t = sti τ 77 0 ((τ.1 77 0) - 1)) : PC (f_X2_openLine 4 b t) (TPX n [(4, b.toInt, w)] τ) := by
  have k_4 : (4 : Int32).toInt = 4 := by decide +kernel
  have o : ∀ {j : Nat}, j ≠ 77 → t.1 j = τ.1 j := fun {j} hj => by rw [e1, sti_o hj]
  unfold f_X2_openLine
  refine pc_cals (t_addL (τ := t) (by rw [o (by decide)]; exact h) hn) (fun s r => ?_)
  obtain ⟨r1, r2, r3, r4, r5, r6, r7⟩ := r
  have r77 := r1.1 77 (by decide)
  have f1 : FR MSl [] τ t := by rw [e1]; exact FR.st FR.rf (by decide)
  refine pc_lt fun s2 e2 => ?_
  have p : ∀ {j : Nat}, j ≠ 77 → s2.1 j = s.1 j := fun {j} hj => by rw [e2, sti_o hj]
  refine pc_ret (TPX.one (by rw [e2]; exact FR.st (FR.cal f1 r1 rfl rfl) (by decide)) (by rw [p (by decide)]; exact r2) (fun j i j1 j2 hi => by rw [p (by omega), r3 j i j1 j2 hi, o (by omega)]) ⟨by rw [p (by decide), r4]; exact k_4, by rw [p (by decide), r5], fun z => absurd (show (4 : Int) = 0 from z) (by decide)⟩ ?_ ?_)
  · rw [p (by decide), r6, e1, sti_s]
    exact (dpk_c (Or.inr rfl)).symm
  · rw [e2, sti_s, r77, e1, sti_s, i32_back]
    exact (stp_p (by unfold opK; show ¬ ((4 : Int) = 1 ∨ (4 : Int) = 2 ∨ (4 : Int) = 3 ∨ (4 : Int) = 9); decide) (by unfold clK; show ¬ ((4 : Int) = 5 ∨ (4 : Int) = 10); decide)).symm
theorem u_catch (h : (τ.1 68 0).toInt = (n : Int)) (hn : n < 800) (e1 : t = sti τ 77 0 ((τ.1 77 0) - 1)) : PC (f_X2_add 10 b q t) (TPX n [(10, b.toInt, w)] τ) := pc_imp (t_addL (τ := t) (by rw [e1, sti_o (by decide)]; exact h) hn) (fun s r => by
  have k_10 : (10 : Int32).toInt = 10 := by decide +kernel
  have o : ∀ {j : Nat}, j ≠ 77 → t.1 j = τ.1 j := fun {j} hj => by rw [e1, sti_o hj]
  obtain ⟨r1, r2, r3, r4, r5, r6, r7⟩ := r
  have r77 := r1.1 77 (by decide)
  have f1 : FR MSl [] τ t := by rw [e1]; exact FR.st FR.rf (by decide)
  have c10 : clK 10 := Or.inr rfl
  refine TPX.one (FR.cal f1 r1 rfl rfl) r2 (fun j i j1 j2 hi => by rw [r3 j i j1 j2 hi, o (by omega)]) ⟨by rw [r4]; exact k_10, by rw [r5], fun z => absurd (show (10 : Int) = 0 from z) (by decide)⟩ ?_ ?_
  · rw [r6, e1, sti_s]
    exact (dpk_c (Or.inl c10)).symm
  · rw [r77, e1, sti_s]
    exact (stp_c c10).symm)
end
/-- one that is told under a block -/
theorem t_isMU {m b : Int32} {τ : Sto} (h0 : 0 ≤ m.toInt) (h1 : m.toInt < 64) : PC (f_X2_isMergeUnder m b τ) (fun v => v = 0 ↔ ¬ (bL (τ.2 4 0) m.toNatClampNeg = true ∧ τ.1 41 m.toNatClampNeg = b)) := by
  have n1 : (1 : Int32) ≠ 0 := by decide
  unfold f_X2_isMergeUnder
  refine pc_calp (t_isInB h0 h1) (fun v h => ?_)
  refine pc_jnI0 (¬ (bL (τ.2 4 0) m.toNatClampNeg = true ∧ τ.1 41 m.toNatClampNeg = b)) (fun z => pc_ret ⟨fun _ => z, fun _ => rfl⟩) (fun k hk => ?_)
  refine pc_ite (fun c => hk (fun z => h.mp c z.1)) (fun c => ?_)
  have hb : bL (τ.2 4 0) m.toNatClampNeg = true := Classical.byContradiction fun z => c (h.mpr z)
  refine pc_ix (fun _ => ?_)
  refine pc_lt fun v4 e4 => ?_
  rw [e4]
  refine pc_ite (fun c2 => ?_) (fun c2 => hk (fun z => c2 z.2))
  exact pc_ret ⟨fun z => absurd z n1, fun z => absurd ⟨hb, c2⟩ z⟩
