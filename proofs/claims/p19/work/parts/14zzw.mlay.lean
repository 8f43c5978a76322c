theorem m_forked {σ : Sto} {x : Int32} : PC (f_X12_isForked x σ) (fun v => v = 0 ↔ ¬ ((σ.1 9 (σ.1 23 x.toNatClampNeg).toNatClampNeg).toInt = 122 ∧ σ.1 24 ((σ.1 23 x.toNatClampNeg).toNatClampNeg + 1) ≠ σ.1 24 (σ.1 10 (σ.1 23 x.toNatClampNeg).toNatClampNeg).toNatClampNeg)) := by
  have k_122 : (122 : Int32).toInt = 122 := by decide +kernel
  unfold f_X12_isForked
  refine pc_ix (fun _ => ?_)
  refine pc_lt fun v1 e1 => ?_
  subst e1
  refine pc_ix (fun g1 => ?_)
  refine pc_lt fun v2 e2 => ?_
  generalize (σ.1 23 x.toNatClampNeg) = l at *
  have cl := clamp_I g1.1
  refine pc_jnI0 (¬ ((σ.1 9 l.toNatClampNeg).toInt = 122 ∧ σ.1 24 (l.toNatClampNeg + 1) ≠ σ.1 24 (σ.1 10 l.toNatClampNeg).toNatClampNeg)) (fun z => pc_ret ⟨fun _ => z, fun _ => rfl⟩) (fun k hk => ?_)
  refine pc_ite (fun c => ?_) (fun c => ?_)
  · rw [fa_eq, k_122, e2] at c
    refine pc_ix (fun _ => ?_)
    refine pc_lt fun v5 e5 => ?_
    subst e5
    have el : (v5 + 1).toInt = v5.toInt + 1 := i1 (by omega)
    have cl1 : (v5 + 1).toNatClampNeg = v5.toNatClampNeg + 1 := by have := clamp_I (x := v5 + 1) (by omega); omega
    refine pc_ix (fun _ => ?_)
    rw [cl1]
    refine pc_lt fun v6 e6 => ?_
    refine pc_ix (fun _ => ?_)
    refine pc_lt fun v7 e7 => ?_
    subst e7
    refine pc_ix (fun _ => ?_)
    refine pc_lt fun v8 e8 => ?_
    subst e8
    refine pc_ix (fun _ => ?_)
    refine pc_lt fun v9 e9 => ?_
    refine pc_ite (fun c2 => hk (fun z => z.2 (by rw [← e6, ← e9]; exact c2))) (fun c2 => ?_)
    exact pc_ret ⟨fun q => absurd q (by decide), fun q => absurd ⟨c, fun z => c2 (by rw [e6, e9]; exact z)⟩ q⟩
  · rw [fa_eq, k_122, e2] at c
    exact hk (fun z => c z.1)
/-- goes one way or the other, as the reference asks -/
def fkM (σ : Sto) (i : Nat) : Bool := decide (σ.1 24 (i + 1) ≠ σ.1 24 (σ.1 10 i).toNatClampNeg)
theorem pStep_122f {n m g : Int32} {c : Bool} {P : PSt} (hg : g.toInt = 122) : pStep g n false P = pStep 112 m c P := by
  have k_112 : (112 : Int32).toInt = 112 := by decide +kernel
  rw [pStep_122 hg, pStep_112 k_112]
  rfl
theorem pStep_122t {n g : Int32} {P : PSt} (hg : g.toInt = 122) : pStep g n true P = pTst (some (pTop P)) (pPop P) := by
  rw [pStep_122 hg]
  rfl
abbrev MNW : List Nat := [38, 39, 40, 41, 42, 43, 44, 46, 47, 48, 49, 50, 51]
abbrev sgM (σ : Sto) : Nat → Int32 := σ.1 9
abbrev nvM (σ : Sto) : Nat → Int32 := σ.1 10
abbrev fiM (σ : Sto) (b : Nat) : Nat := (σ.1 22 b).toNatClampNeg
abbrev laM (σ : Sto) (b : Nat) : Nat := (σ.1 23 b).toNatClampNeg
abbrev dpM (σ : Sto) (i : Nat) : Int := (σ.1 20 i).toInt
abbrev nbM (σ : Sto) : Nat := (σ.1 26 0).toNatClampNeg
abbrev dbM (σ : Sto) (b : Nat) : Nat := (dpM σ (fiM σ b)).toNat
noncomputable abbrev pAllM (σ : Sto) (b : Nat) : PSt := pAll (sgM σ) (nvM σ) (fkM σ) (fiM σ) (laM σ) (dbM σ) b pZero
/-- what the reference lays of statements -/
def LFTM (nb : Nat) (A : Nat → PSt) (s : Sto) : Prop := ∃ n tr, PLM s n tr ∧ (s.1 47 0).toInt = (pNn (A nb) : Int) ∧ (s.1 48 0).toInt = (pFr (A nb) : Int) ∧ (∀ j, j < pNn (A nb) → STM s n tr j (pSm (A nb) j)) ∧ (∀ b, b ≤ nb → (s.1 45 b).toInt = (pNn (A b) : Int)) ∧ ∀ b, b < nb → EXV (s.1 46 b) n tr (pTs (A (b + 1)))
theorem m_lay {σ : Sto} (hp : ∀ i, 0 ≤ (σ.1 9 i).toInt ∧ (σ.1 9 i).toInt ≤ 255) (hb : BLS (nbM σ) (sgM σ) (nvM σ) (fiM σ) (laM σ) (dpM σ)) (h26 : 0 ≤ (σ.1 26 0).toInt) (hr : ∀ b, b < nbM σ → 0 ≤ (σ.1 22 b).toInt ∧ 0 ≤ (σ.1 23 b).toInt) (hz : ∀ b, b < nbM σ → ∀ i, fiM σ b ≤ i → i < laM σ b → (σ.1 9 i).toInt ≠ 122) : PC (f_X12_laysStatements σ) (fun s => FR FT_ [] σ s ∧ LFTM (nbM σ) (pAllM σ) s) := by
  have k_0 : (0 : Int32).toInt = 0 := by decide +kernel
  have k_2 : (2 : Int32).toInt = 2 := by decide +kernel
  have k_112 : (112 : Int32).toInt = 112 := by decide +kernel
  have k_122 : (122 : Int32).toInt = 122 := by decide +kernel
  have k_m1 : ((-1) : Int32).toInt = -1 := by decide +kernel
  have c26 : (nbM σ : Int) = (σ.1 26 0).toInt := clamp_I h26
  unfold f_X12_laysStatements
  refine pc_lt fun s1 e1 => ?_
  refine pc_lt fun s2 e2 => ?_
  refine pc_lt fun s3 e3 => ?_
  refine pc_lt fun s4 e4 => ?_
  have f4 : FR FT_ [] σ s4 := by rw [e4, e3, e2, e1]; exact FR.st (FR.st (FR.st (FR.st FR.rf (by decide)) (by decide)) (by decide)) (by decide)
  have z41 : (s4.1 41 0).toInt = 0 := by rw [e4, sti_o (by decide), e3, sti_s]; exact k_0
  have z48 : (s4.1 48 0).toInt = 0 := by rw [e4, sti_o (by decide), e3, sti_o (by decide), e2, sti_s]; exact k_0
  have z47 : (s4.1 47 0).toInt = 0 := by rw [e4, sti_o (by decide), e3, sti_o (by decide), e2, sti_o (by decide), e1, sti_s]; exact k_0
  refine pc_itr2 (fun x s => 0 ≤ x.toInt ∧ x.toInt ≤ (nbM σ : Int) ∧ FR FT_ [] σ s ∧ ∃ n tr, PLM s n tr ∧ (s.1 47 0).toInt = (pNn (pAllM σ x.toNatClampNeg) : Int) ∧ ((s.1 48 0).toInt = (pFr (pAllM σ x.toNatClampNeg) : Int) ∧ pFr (pAllM σ x.toNatClampNeg) ≤ pNn (pAllM σ x.toNatClampNeg)) ∧ (∀ j, j < pNn (pAllM σ x.toNatClampNeg) → STM s n tr j (pSm (pAllM σ x.toNatClampNeg) j)) ∧ (∀ c, c < x.toNatClampNeg → (s.1 45 c).toInt = (pNn (pAllM σ c) : Int) ∧ EXV (s.1 46 c) n tr (pTs (pAllM σ (c + 1))))) ?_ (by exact ⟨by omega, by omega, f4, 0, fun _ => .null, ⟨by rw [z41]; rfl, fun e he => absurd he (Nat.not_lt_zero _)⟩, z47, ⟨z48, Nat.le_refl _⟩, fun j hj => absurd hj (Nat.not_lt_zero _), fun c hc => absurd hc (Nat.not_lt_zero _)⟩)
  intro a22 x s I ih
  obtain ⟨x0, xb, fs, n, tr, i1_, i2, i3, i4, i5⟩ := I
  have cx := clamp_I x0
  have h26s : s.1 26 = σ.1 26 := fs.1 26 (by decide)
  refine pc_ite (fun c => ?_) (fun c => ?_)
  · rw [fa_le, h26s] at c
    have xe : x.toNatClampNeg = nbM σ := by omega
    rw [xe] at i2 i3 i4 i5
    refine pc_ix (fun _ => ?_)
    rw [h26s]
    refine pc_lt fun s6 e6 => ?_
    have o6 : ∀ {k : Nat}, k ≠ 45 → s6.1 k = s.1 k := fun {k} hk => by rw [e6, sti_o hk]
    refine pc_ret ⟨by rw [e6]; exact FR.st fs (by decide), n, tr, i1_.cg (fun k hk => o6 (by omega)), by rw [o6 (by decide)]; exact i2, by rw [o6 (by decide)]; exact i3.1, fun j hj => (i4 j hj).up EXT.rf (fun k hk => o6 (by omega)), fun b hb' => ?_, fun b hb' => by rw [o6 (by decide)]; exact (i5 b hb').2⟩
    rw [e6, sti_if]
    by_cases q : b = nbM σ
    · rw [if_pos q, q]; exact i2
    · rw [if_neg q]; exact (i5 b (by omega)).1
  · rw [fa_le, h26s] at c
    have xn : x.toNatClampNeg < nbM σ := by omega
    obtain ⟨hb40, hbs⟩ := hb
    obtain ⟨q1, q2, q3, q4, q5, q6⟩ := hbs _ xn
    have x40 : 0 ≤ x.toInt ∧ x.toInt < 40 := by omega
    have ex : (x + 1).toInt = x.toInt + 1 := i1 (by omega)
    have cx1 : (x + 1).toNatClampNeg = x.toNatClampNeg + 1 := by have := clamp_I (x := x + 1) (by omega); omega
    have stp : pAllM σ (x.toNatClampNeg + 1) = pBlk (sgM σ) (nvM σ) (fkM σ) (fiM σ x.toNatClampNeg) (laM σ x.toNatClampNeg) (dbM σ x.toNatClampNeg) (pAllM σ x.toNatClampNeg) := rfl
    have hd6 := (q3 _ (Nat.le_refl _) q1).2.2.1
    have hdd : ((dbM σ x.toNatClampNeg : Nat) : Int) = dpM σ (fiM σ x.toNatClampNeg) := by show ((dpM σ (fiM σ x.toNatClampNeg)).toNat : Int) = _; omega
    refine pc_ix (fun _ => ?_)
    refine pc_lt fun s8 e8 => ?_
    refine pc_ix (fun _ => ?_)
    refine pc_lt fun s9 e9 => ?_
    refine pc_lt fun s10 e10 => ?_
    have f10 : FR FT_ [] σ s10 := by rw [e10, e9, e8]; exact FR.st (FR.st (FR.st fs (by decide)) (by decide)) (by decide)
    have o10 : ∀ {k : Nat}, k ≠ 45 → k ≠ 46 → k ≠ 50 → s10.1 k = s.1 k := fun {k} h1 h2 h3 => by rw [e10, sti_o h3, e9, sti_o h2, e8, sti_o h1]
    have r45 : ∀ c, s10.1 45 c = if c = x.toNatClampNeg then s.1 47 0 else s.1 45 c := fun c => by rw [e10, sti_o (by decide), e9, sti_o (by decide), e8, sti_if]
    have r46 : ∀ c, s10.1 46 c = if c = x.toNatClampNeg then (-1) else s.1 46 c := fun c => by rw [e10, sti_o (by decide), e9, sti_if, e8, sti_o (by decide)]
    have r50 : (s10.1 50 0).toInt = 0 := by rw [e10, sti_s]; exact k_0
    have R10 : RLM (x.toNatClampNeg, s.1 46) s10 n tr (pBeg 0 (pAllM σ x.toNatClampNeg)) := ⟨i1_.cg (fun k hk => o10 (by omega) (by omega) (by omega)), r50, fun i hi => absurd hi (Nat.not_lt_zero _), by rw [o10 (by decide) (by decide) (by decide)]; exact i2, fun j hj => (i4 j hj).up EXT.rf (fun k hk => o10 (by omega) (by omega) (by omega)), by rw [o10 (by decide) (by decide) (by decide)]; exact i3, by show EXV (s10.1 46 x.toNatClampNeg) n tr none; rw [r46, if_pos rfl]; exact Or.inl ⟨rfl, k_m1⟩, fun c hc => by rw [r46, if_neg hc]⟩
    -- the block is lifted
    have next : ∀ t, RMA (x.toNatClampNeg, s.1 46) FT_ s10 n tr (pAllM σ (x.toNatClampNeg + 1)) t → t.1 45 = s10.1 45 → PC (lt (x + 1) fun x1_22 => a22 x1_22 t) (fun s => FR FT_ [] σ s ∧ LFTM (nbM σ) (pAllM σ) s) := by
      intro t J t2
      obtain ⟨t1, n2, tr2, t4, t3⟩ := J
      obtain ⟨u1, u2, u3, u4, u5, u6, u7, u8⟩ := t4
      refine pc_lt fun x22 e22 => ?_
      subst e22
      refine ih (x + 1) t ⟨by omega, by omega, FR.cal f10 t1 rfl rfl, n2, tr2, u1, by rw [cx1]; exact u4, by rw [cx1]; exact u6, by rw [cx1]; exact u5, fun c hc => ?_⟩
      rw [cx1] at hc
      rw [t2, r45]
      by_cases q : c = x.toNatClampNeg
      · rw [if_pos q, q]
        exact ⟨i2, u7⟩
      · rw [if_neg q]
        have i := i5 c (by omega)
        refine ⟨i.1, ?_⟩
        have e := u8 c q
        rw [e]
        exact i.2.up t3
    have rw_ : ∀ {t : Sto}, FR MNW [] s10 t → (t.1 9 = σ.1 9 ∧ t.1 10 = σ.1 10 ∧ t.1 20 = σ.1 20 ∧ t.1 22 = σ.1 22 ∧ t.1 23 = σ.1 23 ∧ t.1 24 = σ.1 24 ∧ t.1 45 = s10.1 45) := fun ft => ⟨(ft.1 9 (by decide)).trans (f10.1 9 (by decide)), (ft.1 10 (by decide)).trans (f10.1 10 (by decide)), (ft.1 20 (by decide)).trans (f10.1 20 (by decide)), (ft.1 22 (by decide)).trans (f10.1 22 (by decide)), (ft.1 23 (by decide)).trans (f10.1 23 (by decide)), (ft.1 24 (by decide)).trans (f10.1 24 (by decide)), ft.1 45 (by decide)⟩
    have wide : ∀ {t : Sto} {Q : PSt}, RMA (x.toNatClampNeg, s.1 46) MNW s10 n tr Q t → RMA (x.toNatClampNeg, s.1 46) FT_ s10 n tr Q t := fun J => RMA.cal FR.rf EXT.rf J rfl
    have x51 : ∀ {t : Sto} {Q : PSt} {v : Int32}, RMA (x.toNatClampNeg, s.1 46) MNW s10 n tr Q t → RMA (x.toNatClampNeg, s.1 46) MNW s10 n tr Q (sti t 51 0 v) := by
      intro t Q v J
      obtain ⟨t1, n2, tr2, t4, t3⟩ := J
      obtain ⟨u1, u2, u3, u4, u5, u6, u7⟩ := t4
      have o : ∀ {k : Nat}, k ≠ 51 → (sti t 51 0 v).1 k = t.1 k := fun {k} hk => sti_o hk
      exact ⟨FR.st t1 (by decide), n2, tr2, ⟨u1.cg (fun k hk => o (by omega)), by rw [o (by decide)]; exact u2, fun i hi => by rw [o (by decide)]; exact u3 i hi, by rw [o (by decide)]; exact u4, fun j hj => (u5 j hj).up EXT.rf (fun k hk => o (by omega)), by rw [o (by decide)]; exact u6, by rw [o (by decide)]; exact u7⟩, t3⟩
    -- T's
    refine pc_itr2 (fun k t => 0 ≤ k.toInt ∧ k.toInt ≤ dpM σ (fiM σ x.toNatClampNeg) ∧ RMA (x.toNatClampNeg, s.1 46) MNW s10 n tr (pBeg k.toNatClampNeg (pAllM σ x.toNatClampNeg)) t) ?_ (by exact ⟨by omega, by omega, FR.rf, n, tr, R10, EXT.rf⟩)
    intro a54 k t I1 ih1
    obtain ⟨k0, kd_, J⟩ := I1
    have ck := clamp_I k0
    have rws := rw_ J.1
    refine pc_ix (fun _ => ?_)
    (try rw [rws.2.2.2.1])
    refine pc_lt fun v12 e12 => ?_
    subst e12
    refine pc_ix (fun _ => ?_)
    (try rw [rws.2.2.1])
    refine pc_lt fun v13 e13 => ?_
    refine pc_ite (fun c2 => ?_) (fun c2 => ?_)
    · rw [fa_le, e13] at c2
      have c2' : dpM σ (fiM σ x.toNatClampNeg) ≤ k.toInt := c2
      have ke : k.toNatClampNeg = dbM σ x.toNatClampNeg := by omega
      rw [ke] at J
      refine pc_lt fun v15 e15 => ?_
      refine pc_lt fun s16 e16 => ?_
      have J16 : RMA (x.toNatClampNeg, s.1 46) MNW s10 n tr (pBeg (dbM σ x.toNatClampNeg) (pAllM σ x.toNatClampNeg)) s16 := by rw [e16]; exact x51 J
      refine pc_ix (fun _ => ?_)
      (try rw [(rw_ J16.1).2.2.2.1])
      refine pc_lt fun v17 e17 => ?_
      have c17 : v17.toInt = (fiM σ x.toNatClampNeg : Int) := by rw [e17]; exact (clamp_I (hr _ xn).1).symm
      have c23 : (σ.1 23 x.toNatClampNeg).toInt = (laM σ x.toNatClampNeg : Int) := (clamp_I (hr _ xn).2).symm
      have n17 : v17.toNatClampNeg - fiM σ x.toNatClampNeg = 0 := by
        have := clamp_I (x := v17) (by omega)
        omega
      have D0 : pRun (sgM σ) (nvM σ) (fkM σ) (fiM σ x.toNatClampNeg) 0 (pBeg (dbM σ x.toNatClampNeg) (pAllM σ x.toNatClampNeg)) = pBeg (dbM σ x.toNatClampNeg) (pAllM σ x.toNatClampNeg) := rfl
      -- instructions
      refine pc_itr2 (fun i t => (fiM σ x.toNatClampNeg : Int) ≤ i.toInt ∧ i.toInt ≤ (laM σ x.toNatClampNeg : Int) + 1 ∧ RMA (x.toNatClampNeg, s.1 46) MNW s10 n tr (pRun (sgM σ) (nvM σ) (fkM σ) (fiM σ x.toNatClampNeg) (i.toNatClampNeg - fiM σ x.toNatClampNeg) (pBeg (dbM σ x.toNatClampNeg) (pAllM σ x.toNatClampNeg))) t) ?_ (by exact ⟨by omega, by omega, by rw [n17, D0]; exact J16⟩)
      intro a108 i u I2 ih2
      obtain ⟨i0, il, Ju⟩ := I2
      have ci := clamp_I (x := i) (by omega)
      have rwu := rw_ Ju.1
      obtain ⟨j, ej⟩ : ∃ j, i.toNatClampNeg = fiM σ x.toNatClampNeg + j := ⟨i.toNatClampNeg - fiM σ x.toNatClampNeg, by omega⟩
      rw [show i.toNatClampNeg - fiM σ x.toNatClampNeg = j by omega] at Ju
      refine pc_ix (fun _ => ?_)
      (try rw [rwu.2.2.2.2.1])
      refine pc_lt fun v19 e19 => ?_
      refine pc_ite (fun c3 => ?_) (fun c3 => ?_)
      · rw [fa_lt, e19, c23] at c3
        have je : j = laM σ x.toNatClampNeg + 1 - fiM σ x.toNatClampNeg := by omega
        rw [je] at Ju
        refine pc_ix (fun _ => ?_)
        (try rw [rwu.2.2.2.2.1])
        refine pc_lt fun v21 e21 => ?_
        subst e21
        refine pc_ix (fun _ => ?_)
        (try rw [rwu.1])
        refine pc_lt fun v22 e22 => ?_
        have g9 := hp (laM σ x.toNatClampNeg)
        refine pc_calp (pc_ok (s_X12_isOneOf_s109 (x1 := v22) (by rw [e22]; exact g9))) (fun v23 h23 => ?_)
        rw [e22] at h23
        have h231 := h23.1
        have en : v23 = 0 ↔ ¬ enI (sgM σ (laM σ x.toNatClampNeg)).toInt := by
          rw [fa_eq, k_0]
          have h232 : v23.toInt = 1 ↔ ((sgM σ (laM σ x.toNatClampNeg)).toInt = 116 ∨ (sgM σ (laM σ x.toNatClampNeg)).toInt = 114) := h23.2
          constructor
          · intro z w
            have := h232.mpr w
            omega
          · intro z
            have : ¬ v23.toInt = 1 := fun w => z (h232.mp w)
            omega
        refine pc_jnI1 (fun w => RMA (x.toNatClampNeg, s.1 46) MNW s10 n tr (pAllM σ (x.toNatClampNeg + 1)) w) (fun w Jw => ?_) (fun kk hkk => ?_)
        · exact next w (wide Jw) (rw_ Jw.1).2.2.2.2.2.2
        · refine pc_ite (fun c4 => ?_) (fun c4 => ?_)
          · have st2 := stp.trans (pBlk_2 (en.mp c4))
            refine pc_lt fun v27 e27 => ?_
            refine pc_lt fun s28 e28 => ?_
            have J28 : RMA (x.toNatClampNeg, s.1 46) MNW s10 n tr (pRun (sgM σ) (nvM σ) (fkM σ) (fiM σ x.toNatClampNeg) (laM σ x.toNatClampNeg + 1 - fiM σ x.toNatClampNeg) (pBeg (dbM σ x.toNatClampNeg) (pAllM σ x.toNatClampNeg))) s28 := by rw [e28]; exact x51 Ju
            obtain ⟨g1, n3, tr3, g2, g3⟩ := J28
            refine pc_cals (m_ends x40 g2) (fun s29 w => ?_)
            refine hkk s29 ?_
            rw [st2]
            exact RMA.cal g1 g3 w rfl
          · have st2 := stp.trans (pBlk_1 (Classical.byContradiction fun z => c4 (en.mpr z)))
            refine hkk u ?_
            rw [st2]
            exact Ju
      · rw [fa_lt, e19, c23] at c3
        have hin := q5 (fiM σ x.toNatClampNeg + j) (by omega) (by omega)
        have ex1 : (i + 1).toInt = i.toInt + 1 := i1 (by omega)
        have cj : (i + 1).toNatClampNeg - fiM σ x.toNatClampNeg = j + 1 := by
          have := clamp_I (x := i + 1) (by omega)
          omega
        have vs := hin.vs
        have ind := hin
        unfold INS at ind
        have gp := hp (fiM σ x.toNatClampNeg + j)
        have st1 : pRun (sgM σ) (nvM σ) (fkM σ) (fiM σ x.toNatClampNeg) (j + 1) (pBeg (dbM σ x.toNatClampNeg) (pAllM σ x.toNatClampNeg)) = pStep (sgM σ (fiM σ x.toNatClampNeg + j)) (nvM σ (fiM σ x.toNatClampNeg + j)) (fkM σ (fiM σ x.toNatClampNeg + j)) (pRun (sgM σ) (nvM σ) (fkM σ) (fiM σ x.toNatClampNeg) j (pBeg (dbM σ x.toNatClampNeg) (pAllM σ x.toNatClampNeg))) := rfl
        obtain ⟨g1, n3, tr3, g2, g3⟩ := Ju
        refine pc_ix (fun _ => ?_)
        rw [rwu.1, ej]
        refine pc_lt fun v30 e30 => ?_
        have e30' : v30 = sgM σ (fiM σ x.toNatClampNeg + j) := e30
        refine pc_jnI1 (fun w => RMA (x.toNatClampNeg, s.1 46) MNW s10 n tr (pRun (sgM σ) (nvM σ) (fkM σ) (fiM σ x.toNatClampNeg) (j + 1) (pBeg (dbM σ x.toNatClampNeg) (pAllM σ x.toNatClampNeg))) w) (fun w Jw => ?_) (fun k182 hk182 => ?_)
        · refine pc_lt fun x32 e32 => ?_
          subst e32
          refine ih2 (i + 1) w ⟨by omega, by omega, ?_⟩
          rw [cj]
          exact Jw
        · -- lifted so
          have lift : ∀ g : Int32, VSg g.toInt → g.toInt ≠ 122 → (g.toInt = 115 ∨ g.toInt = 108 → 0 ≤ (nvM σ (fiM σ x.toNatClampNeg + j)).toInt) → (0 ≤ g.toInt ∧ g.toInt ≤ 255) → (∀ Q, pStep (sgM σ (fiM σ x.toNatClampNeg + j)) (nvM σ (fiM σ x.toNatClampNeg + j)) (fkM σ (fiM σ x.toNatClampNeg + j)) Q = pStep g (nvM σ (fiM σ x.toNatClampNeg + j)) (fkM σ (fiM σ x.toNatClampNeg + j)) Q) → PC (ix 40 i <| lt (u.1 10 (fiM σ x.toNatClampNeg + j)) fun v_36 => cals (f_X12_lifts g v_36 u) fun s_37 => k182 s_37) (fun s => FR FT_ [] σ s ∧ LFTM (nbM σ) (pAllM σ) s) := by
            intro g y1 y2 y3 y4 y5
            refine pc_ix (fun _ => ?_)
            (try rw [rwu.2.1])
            refine pc_lt fun v36 e36 => ?_
            have e36' : v36 = nvM σ (fiM σ x.toNatClampNeg + j) := e36
            subst e36'
            refine pc_cals (m_lifts (c := fkM σ (fiM σ x.toNatClampNeg + j)) g2 y1 y2 y3 y4) (fun s37 w => ?_)
            refine hk182 s37 ?_
            rw [st1, y5]
            exact RMA.cal g1 g3 w rfl
          refine pc_jnI0 ((sgM σ (fiM σ x.toNatClampNeg + j)).toInt = 122 → fkM σ (fiM σ x.toNatClampNeg + j) = false) (fun hf => ?_) (fun k150 hk150 => ?_)
          · refine pc_ix (fun _ => ?_)
            (try rw [rwu.1])
            refine pc_lt fun v34 e34 => ?_
            have e34' : v34 = sgM σ (fiM σ x.toNatClampNeg + j) := e34
            refine pc_jn ?_
            refine pc_ite (fun c4 => ?_) (fun c4 => ?_)
            · rw [fa_eq, k_122, e34'] at c4
              refine lift 112 (by rw [k_112]; exact Or.inl (by omega)) (by rw [k_112]; omega) (fun z => by rw [k_112] at z; omega) (by rw [k_112]; omega) (fun Q => ?_)
              rw [hf c4]
              exact pStep_122f c4
            · rw [fa_eq, k_122, e34'] at c4
              refine pc_ix (fun _ => ?_)
              refine pc_lt fun v39 e39 => ?_
              have e39' : v39 = sgM σ (fiM σ x.toNatClampNeg + j) := e39
              subst e39'
              exact lift _ vs c4 (fun z => by omega) gp (fun _ => rfl)
          · refine pc_ite (fun c4 => ?_) (fun c4 => ?_)
            · rw [fa_eq, k_122, e30'] at c4
              have jl : fiM σ x.toNatClampNeg + j = laM σ x.toNatClampNeg := by
                by_cases w : fiM σ x.toNatClampNeg + j < laM σ x.toNatClampNeg
                · exact absurd c4 (hz _ xn _ (by omega) w)
                · omega
              refine pc_calp m_forked (fun v41 h41 => ?_)
              rw [rwu.1, rwu.2.1, rwu.2.2.2.2.1, rwu.2.2.2.2.2.1] at h41
              have h41' : v41 = 0 ↔ ¬ ((sgM σ (laM σ x.toNatClampNeg)).toInt = 122 ∧ σ.1 24 (laM σ x.toNatClampNeg + 1) ≠ σ.1 24 (σ.1 10 (laM σ x.toNatClampNeg)).toNatClampNeg) := h41
              rw [← jl] at h41'
              refine pc_ite (fun c5 => hk150 (fun _ => ?_)) (fun c5 => ?_)
              · exact decide_eq_false (fun w => h41'.mp c5 ⟨c4, w⟩)
              · have ft : fkM σ (fiM σ x.toNatClampNeg + j) = true := decide_eq_true (fun w => c5 (h41'.mpr (fun y => y.2 w)))
                refine pc_calv (m_pop g2) (fun v43 s43 w => ?_)
                obtain ⟨w1, w2, w3, _⟩ := w
                (try dsimp only at w1 w2 w3)
                refine pc_ix (fun _ => ?_)
                refine pc_lt fun s44 e44 => ?_
                refine hk182 s44 ?_
                rw [st1, ft, pStep_122t c4, e44]
                exact ⟨FR.st (FR.cal g1 w1 rfl rfl) (by decide), n3, tr3, w2.tst w3, g3⟩
            · rw [fa_eq, k_122, e30'] at c4
              exact hk150 (fun w => absurd w c4)
    · rw [fa_le, e13] at c2
      have c2' : ¬ dpM σ (fiM σ x.toNatClampNeg) ≤ k.toInt := c2
      have ek : (k + 1).toInt = k.toInt + 1 := i1 (by omega)
      have ck1 : (k + 1).toNatClampNeg = k.toNatClampNeg + 1 := by have := clamp_I (x := k + 1) (by omega); omega
      obtain ⟨g1, n3, tr3, g2, g3⟩ := J
      refine pc_calv (m_makes g2.1 (Or.inr (Or.inl ⟨Or.inr (Or.inl k_2), k0⟩))) (fun v45 s45 q => ?_)
      obtain ⟨w1, tr4, w2, w3, w4⟩ := q
      (try dsimp only at w1 w2 w4)
      rw [mkM_2 k_2] at w4
      refine pc_cals (m_lays (g2.pool w1 w2 w3) w4) (fun s46 z => ?_)
      refine pc_lt fun x47 e47 => ?_
      subst e47
      have z2 := z.2
      rw [show pPush (Term.index k.toNatClampNeg) (pBeg k.toNatClampNeg (pAllM σ x.toNatClampNeg)) = pBeg (k.toNatClampNeg + 1) (pAllM σ x.toNatClampNeg) from pBeg_s] at z2
      exact ih1 (k + 1) s46 ⟨by omega, by omega, FR.cal (FR.cal g1 w1 rfl rfl) z.1 rfl rfl, _, tr4, by rw [ck1]; exact z2, g3.tr w3⟩
