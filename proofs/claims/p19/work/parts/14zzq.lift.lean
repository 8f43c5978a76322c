theorem t_endsX {σ : Sto} {x : Int32} : PC (f_X3_ends x σ) (fun v => v = 0 ↔ ¬ enI (σ.1 6 x.toNatClampNeg).toInt) := by
  have k_116 : (116 : Int32).toInt = 116 := by decide +kernel
  have k_114 : (114 : Int32).toInt = 114 := by decide +kernel
  unfold f_X3_ends
  refine pc_ix (fun _ => ?_)
  refine pc_lt fun v1 e1 => ?_
  refine pc_jnI0 (enI (σ.1 6 x.toNatClampNeg).toInt) (fun z => pc_ret ⟨fun q => absurd q (by decide), fun q => absurd z q⟩) (fun k hk => ?_)
  refine pc_ite (fun c => hk (Or.inl (by rw [fa_eq, k_116, e1] at c; exact c))) (fun c => ?_)
  refine pc_ix (fun _ => ?_)
  refine pc_lt fun v4 e4 => ?_
  refine pc_ite (fun c2 => hk (Or.inr (by rw [fa_eq, k_114, e4] at c2; exact c2))) (fun c2 => ?_)
  rw [fa_eq, k_116, e1] at c
  rw [fa_eq, k_114, e4] at c2
  exact pc_ret ⟨fun _ z => by unfold enI at z; omega, fun _ => rfl⟩
theorem t_within {σ : Sto} {x : Int32} : PC (f_X1_tellWithin x σ) (fun s => FR [59, 62] [] σ s) := by
  unfold f_X1_tellWithin
  refine pc_ix (fun _ => ?_)
  refine pc_lt fun v1 _ => ?_
  refine pc_calp (Q := fun _ => True) (fun _ _ => trivial) (fun v2 _ => ?_)
  refine pc_jnI1 (fun s => FR [59, 62] [] σ s) (fun s3 f3 => ?_) (fun k47 hk47 => ?_)
  · refine pc_ite (fun _ => pc_ret f3) (fun _ => ?_)
    refine pc_ix (fun _ => ?_)
    refine pc_lt fun v5 _ => ?_
    refine pc_ix (fun _ => ?_)
    refine pc_lt fun s6 e6 => ?_
    exact pc_ret (by rw [e6]; exact FR.st f3 (by decide))
  · refine pc_jnI0 True (fun _ => ?_) (fun k32 hk32 => ?_)
    · refine pc_ix (fun _ => ?_)
      refine pc_lt fun v8 _ => ?_
      refine pc_ix (fun _ => ?_)
      refine pc_lt fun s9 e9 => ?_
      exact hk47 s9 (by rw [e9]; exact FR.st FR.rf (by decide))
    · refine pc_ite (fun _ => ?_) (fun _ => hk32 trivial)
      refine pc_ix (fun _ => ?_)
      refine pc_lt fun v11 _ => ?_
      refine pc_calp (Q := fun _ => True) (fun _ _ => trivial) (fun v12 _ => ?_)
      exact pc_ite (fun _ => hk47 σ FR.rf) (fun _ => hk32 trivial)
theorem t_countFR {σ : Sto} : PC (f_X1_countUnlike σ) (fun s => FR [59, 62] [] σ s) := by
  unfold f_X1_countUnlike
  refine pc_itr2 (fun _ s => FR [59, 62] [] σ s) ?_ FR.rf
  intro a2 x1 s1 f1 ih1
  refine pc_ite (fun _ => ?_) (fun _ => ?_)
  · refine pc_itr2 (fun _ s => FR [59, 62] [] σ s) ?_ f1
    intro a28 x3 s3 f3 ih2
    refine pc_ite (fun _ => ?_) (fun _ => ?_)
    · refine pc_itr2 (fun _ s => FR [59, 62] [] σ s) ?_ f3
      intro a66 x5 s5 f5 ih3
      refine pc_ite (fun _ => ?_) (fun _ => ?_)
      · refine pc_lt fun s7 e7 => ?_
        refine pc_lt fun x8 _ => ?_
        refine pc_itr2 (fun _ s => FR [59, 62] [] σ s) ?_ (by rw [e7]; exact FR.st f5 (by decide))
        intro a120 x9 s9 f9 ih4
        refine pc_ite (fun _ => pc_ret f9) (fun _ => ?_)
        refine pc_ix (fun _ => ?_)
        refine pc_lt fun v11 _ => ?_
        refine pc_jnI1 (fun s => FR [59, 62] [] σ s) (fun s12 f12 => ?_) (fun k hk => ?_)
        · exact pc_lt fun x13 _ => ih4 x13 s12 f12
        · refine pc_ite (fun _ => hk s9 f9) (fun _ => ?_)
          refine pc_calp (Q := fun _ => True) (fun _ _ => trivial) (fun v15 _ => ?_)
          refine pc_ite (fun _ => ?_) (fun _ => hk s9 f9)
          refine pc_lt fun s17 e17 => ?_
          refine pc_cals t_within (fun s18 w => ?_)
          exact hk s18 (FR.cal (by rw [e17]; exact FR.st f9 (by decide)) w rfl rfl)
      · refine pc_ix (fun _ => ?_)
        refine pc_lt fun v19 _ => ?_
        refine pc_jnI1 (fun s => FR [59, 62] [] σ s) (fun s20 f20 => ?_) (fun k hk => ?_)
        · exact pc_lt fun x21 _ => ih3 x21 s20 f20
        · refine pc_ite (fun _ => hk s5 f5) (fun _ => ?_)
          refine pc_ix (fun _ => ?_)
          refine pc_lt fun v23 _ => ?_
          refine pc_ix (fun _ => ?_)
          refine pc_lt fun s24 e24 => ?_
          exact hk s24 (by rw [e24]; exact FR.st f5 (by decide))
    · refine pc_ix (fun _ => ?_)
      refine pc_lt fun v25 _ => ?_
      refine pc_jnI1 (fun s => FR [59, 62] [] σ s) (fun s26 f26 => ?_) (fun k hk => ?_)
      · exact pc_lt fun x27 _ => ih2 x27 s26 f26
      · refine pc_ite (fun _ => hk s3 f3) (fun _ => ?_)
        refine pc_ix (fun _ => ?_)
        refine pc_lt fun v29 _ => ?_
        refine pc_ix (fun _ => ?_)
        refine pc_lt fun s30 e30 => ?_
        exact hk s30 (by rw [e30]; exact FR.st f3 (by decide))
  · refine pc_ix (fun _ => ?_)
    refine pc_lt fun s31 e31 => ?_
    exact pc_lt fun x32 _ => ih1 x32 s31 (by rw [e31]; exact FR.st f1 (by decide))
/-- a listing's blocks, as the lifting wants them -/
def BLS (nb : Nat) (sg nv : Nat → Int32) (fi la : Nat → Nat) (dp : Nat → Int) : Prop := nb ≤ 40 ∧ ∀ b, b < nb → fi b ≤ la b ∧ la b < 40 ∧ HTS sg dp (fi b) (la b) ∧ 0 ≤ dp (fi b) ∧ (∀ i, fi b ≤ i → i ≤ la b → INS (sg i).toInt (nv i).toInt) ∧ (b + 1 < nb → la b + 1 ≤ fi (b + 1))
section
variable {sg nv : Nat → Int32} {fk : Nat → Bool} {f l d : Nat} {dp : Nat → Int} {P : PSt}
theorem pBlk_1 (h : enI (sg l).toInt) : pBlk sg nv fk f l d P = pRun sg nv fk f (l + 1 - f) (pBeg d P) := by unfold pBlk; rw [if_pos h]
theorem pBlk_2 (h : ¬ enI (sg l).toInt) : pBlk sg nv fk f l d P = pEnd (pRun sg nv fk f (l + 1 - f) (pBeg d P)) := by unfold pBlk; rw [if_neg h]
theorem pNn_V : pNn P ≤ pG 1 phV cc1 P := by unfold pG; omega
theorem pG_0 {φ : Nat → Term → Nat} {ψ : Term → Nat} : pG 0 φ ψ P = pSum φ P + pPs ψ P := by unfold pG; omega
/-- bounds within a block -/
theorem pRun_B (hT : HTS sg dp f l) (hd : (d : Int) = dp f) {j : Nat} (hj : f + j ≤ l + 1) : pNn (pRun sg nv fk f j (pBeg d P)) ≤ pNn P + 4 * j ∧ pNn (pEnd (pRun sg nv fk f j (pBeg d P))) ≤ pNn P + 4 * j ∧ pG 0 (fun _ => tSz) tSz (pRun sg nv fk f j (pBeg d P)) ≤ d + j ∧ pOm (pRun sg nv fk f j (pBeg d P)) ≤ j ∧ PLE P (pRun sg nv fk f j (pBeg d P)) := by
  have a := pRun_G (P := pBeg d P) (nv := nv) (fk := fk) gpV hT hd j hj
  have b := pRun_G (P := pBeg d P) (nv := nv) (fk := fk) gpS hT hd j hj
  have c := pRun_G (P := pBeg d P) (nv := nv) (fk := fk) gpO hT hd j hj
  have e := pBeg_G (P := P) (d := d)
  rw [e.1] at a
  rw [e.2.2] at b
  rw [e.2.1, pG_0] at c
  have v := pNn_V (P := pRun sg nv fk f j (pBeg d P))
  have w := pEnd_V (P := pRun sg nv fk f j (pBeg d P))
  have g : PLE P (pBeg d P) := ⟨Nat.le_refl _, Nat.le_refl _, fun h => h, fun _ _ => rfl⟩
  exact ⟨by omega, by omega, by omega, by show pSum (fun _ => tOp) _ + pPs tOp _ ≤ j; omega, g.tr (PLE.run j)⟩
theorem PLE.blk {P : PSt} {d : Nat} : PLE P (pBlk sg nv fk f l d P) := by
  have g : PLE P (pBeg d P) := ⟨Nat.le_refl _, Nat.le_refl _, fun h => h, fun _ _ => rfl⟩
  by_cases c : enI (sg l).toInt
  · rw [pBlk_1 c]; exact g.tr (PLE.run _)
  · rw [pBlk_2 c]; exact (g.tr (PLE.run _)).tr PLE.end_
theorem pBeg_s {k : Nat} : pPush (.index k) (pBeg k P) = pBeg (k + 1) P := by
  have e : upT (fun i => Term.index i) k (.index k) = fun i => .index i := funext fun i => by
    by_cases c : i = k
    · rw [c]; exact upT_s _ _ _
    · exact upT_n c
  show (upT (fun i => Term.index i) k (.index k), k + 1, pSm P, pNn P, pFr P, none) = _
  rw [e]
  rfl
end
abbrev MLF : List Nat := [46, 47, 48, 49, 50, 51, 52, 53, 54, 55, 56, 57, 58, 59, 60, 61, 62]
/-- nothing yet -/
def pZero : PSt := (fun _ => .null, 0, fun _ => (0, 0, none), 0, 0, none)
/-- what is lifted: the pool, statements, where each block's begin, tests -/
def LFTX (nb : Nat) (A : Nat → PSt) (s : Sto) : Prop := ∃ n tr, PLX s n tr ∧ (s.1 52 0).toInt = (pNn (A nb) : Int) ∧ (s.1 58 0).toInt = (pFr (A nb) : Int) ∧ (∀ j, j < pNn (A nb) → STX s n tr j (pSm (A nb) j)) ∧ (∀ b, b ≤ nb → (s.1 56 b).toInt = (pNn (A b) : Int)) ∧ (∀ b, b < nb → EXV (s.1 57 b) n tr (pTs (A (b + 1)))) ∧ pNn (A nb) ≤ 160 ∧ pFr (A nb) ≤ pNn (A nb)
abbrev sgX (σ : Sto) : Nat → Int32 := σ.1 6
abbrev nvX (σ : Sto) : Nat → Int32 := σ.1 7
abbrev fiX (σ : Sto) (b : Nat) : Nat := (σ.1 21 b).toNatClampNeg
abbrev laX (σ : Sto) (b : Nat) : Nat := (σ.1 22 b).toNatClampNeg
abbrev dpX (σ : Sto) (i : Nat) : Int := (σ.1 8 i).toInt
abbrev nbX (σ : Sto) : Nat := (σ.1 20 0).toNatClampNeg
abbrev dbX (σ : Sto) (b : Nat) : Nat := (dpX σ (fiX σ b)).toNat
noncomputable abbrev pAllX (σ : Sto) (b : Nat) : PSt := pAll (sgX σ) (nvX σ) (fkX σ) (fiX σ) (laX σ) (dbX σ) b pZero
theorem t_lift {σ : Sto} (hb : BLS (nbX σ) (sgX σ) (nvX σ) (fiX σ) (laX σ) (dpX σ)) (h20 : 0 ≤ (σ.1 20 0).toInt) (hr : ∀ b, b < nbX σ → 0 ≤ (σ.1 21 b).toInt ∧ 0 ≤ (σ.1 22 b).toInt) : PC (f_X1_lift σ) (fun s => FR MLF [] σ s ∧ LFTX (nbX σ) (pAllX σ) s) := by
  have k_0 : (0 : Int32).toInt = 0 := by decide +kernel
  have k_84 : (84 : Int32).toInt = 84 := by decide +kernel
  have k_m1 : ((-1) : Int32).toInt = -1 := by decide +kernel
  have c20 : (nbX σ : Int) = (σ.1 20 0).toInt := clamp_I h20
  unfold f_X1_lift
  refine pc_lt fun s1 e1 => ?_
  refine pc_lt fun s2 e2 => ?_
  refine pc_lt fun s3 e3 => ?_
  have f3 : FR MLF [] σ s3 := by rw [e3, e2, e1]; exact FR.st (FR.st (FR.st FR.rf (by decide)) (by decide)) (by decide)
  have z46 : (s3.1 46 0).toInt = 0 := by rw [e3, sti_s]; exact k_0
  have z58 : (s3.1 58 0).toInt = 0 := by rw [e3, sti_o (by decide), e2, sti_s]; exact k_0
  have z52 : (s3.1 52 0).toInt = 0 := by rw [e3, sti_o (by decide), e2, sti_o (by decide), e1, sti_s]; exact k_0
  refine pc_itr2 (fun x s => 0 ≤ x.toInt ∧ x.toInt ≤ (nbX σ : Int) ∧ FR MLF [] σ s ∧ ∃ n tr F, PLX s n tr ∧ (s.1 52 0).toInt = (pNn (pAllX σ x.toNatClampNeg) : Int) ∧ (s.1 58 0).toInt = (pFr (pAllX σ x.toNatClampNeg) : Int) ∧ (∀ j, j < pNn (pAllX σ x.toNatClampNeg) → STX s n tr j (pSm (pAllX σ x.toNatClampNeg) j)) ∧ (∀ c, c < x.toNatClampNeg → (s.1 56 c).toInt = (pNn (pAllX σ c) : Int) ∧ EXV (s.1 57 c) n tr (pTs (pAllX σ (c + 1)))) ∧ pNn (pAllX σ x.toNatClampNeg) ≤ 4 * F ∧ pFr (pAllX σ x.toNatClampNeg) ≤ pNn (pAllX σ x.toNatClampNeg) ∧ nzT n tr ≤ pFr (pAllX σ x.toNatClampNeg) + 7 * F ∧ F ≤ 40 ∧ (x.toNatClampNeg < nbX σ → F ≤ fiX σ x.toNatClampNeg)) ?_ (by exact ⟨by omega, by omega, f3, 0, fun _ => .null, 0, ⟨by rw [z46]; rfl, by omega, fun e he => absurd he (Nat.not_lt_zero _), fun d e hd => absurd hd (Nat.not_lt_zero _)⟩, z52, z58, fun j hj => absurd hj (Nat.not_lt_zero _), fun c hc => absurd hc (Nat.not_lt_zero _), Nat.le_refl _, Nat.le_refl _, Nat.le_refl _, by omega, fun _ => Nat.zero_le _⟩)
  intro a20 x s I ih
  obtain ⟨x0, xb, fs, n, tr, F, i1_, i2, i3, i4, i5, i6, i7, i8, i9, i10⟩ := I
  have cx := clamp_I x0
  have h20s : s.1 20 = σ.1 20 := fs.1 20 (by decide)
  refine pc_ite (fun c => ?_) (fun c => ?_)
  · rw [fa_le, h20s] at c
    have xe : x.toNatClampNeg = nbX σ := by omega
    rw [xe] at i2 i3 i4 i5 i6 i7 i8
    refine pc_ix (fun _ => ?_)
    rw [h20s]
    refine pc_lt fun s6 e6 => ?_
    have o6 : ∀ {k : Nat}, k ≠ 56 → s6.1 k = s.1 k := fun {k} hk => by rw [e6, sti_o hk]
    refine pc_cals t_countFR (fun s7 w => ?_)
    have o7 : ∀ {k : Nat}, k ≠ 56 → k ≠ 59 → k ≠ 62 → s7.1 k = s.1 k := fun {k} h1 h2 h3 => (w.1 k (by simp; omega)).trans (o6 h1)
    refine pc_ret ⟨FR.cal (by rw [e6]; exact FR.st fs (by decide)) w rfl rfl, n, tr, i1_.cg (fun k hk => o7 (by omega) (by omega) (by omega)), by rw [o7 (by decide) (by decide) (by decide)]; exact i2, by rw [o7 (by decide) (by decide) (by decide)]; exact i3, fun j hj => (i4 j hj).up EXT.rf (fun k hk => o7 (by omega) (by omega) (by omega)), fun b hb' => ?_, fun b hb' => by rw [o7 (by decide) (by decide) (by decide)]; exact (i5 b hb').2, by omega, i7⟩
    rw [w.1 56 (by decide), e6, sti_if]
    by_cases q : b = nbX σ
    · rw [if_pos q, q]; exact i2
    · rw [if_neg q]; exact (i5 b (by omega)).1
  · rw [fa_le, h20s] at c
    have xn : x.toNatClampNeg < nbX σ := by omega
    obtain ⟨hb40, hbs⟩ := hb
    obtain ⟨q1, q2, q3, q4, q5, q6⟩ := hbs _ xn
    have hF := i10 xn
    have x40 : 0 ≤ x.toInt ∧ x.toInt < 40 := by omega
    have ex : (x + 1).toInt = x.toInt + 1 := i1 (by omega)
    have cx1 : (x + 1).toNatClampNeg = x.toNatClampNeg + 1 := by have := clamp_I (x := x + 1) (by omega); omega
    have stp : pAllX σ (x.toNatClampNeg + 1) = pBlk (sgX σ) (nvX σ) (fkX σ) (fiX σ x.toNatClampNeg) (laX σ x.toNatClampNeg) (dbX σ x.toNatClampNeg) (pAllX σ x.toNatClampNeg) := rfl
    have hd6 := (q3 _ (Nat.le_refl _) q1).2.2.1
    have hdd : ((dbX σ x.toNatClampNeg : Nat) : Int) = dpX σ (fiX σ x.toNatClampNeg) := by show ((dpX σ (fiX σ x.toNatClampNeg)).toNat : Int) = _; omega
    have ra := fun (j : Nat) (hj : fiX σ x.toNatClampNeg + j ≤ laX σ x.toNatClampNeg + 1) => pRun_B (P := pAllX σ x.toNatClampNeg) (nv := nvX σ) (fk := fkX σ) (d := dbX σ x.toNatClampNeg) q3 hdd hj
    have hnx : x.toNatClampNeg + 1 < nbX σ → laX σ x.toNatClampNeg + 1 ≤ fiX σ (x.toNatClampNeg + 1) := q6
    refine pc_ix (fun _ => ?_)
    refine pc_lt fun s8 e8 => ?_
    refine pc_ix (fun _ => ?_)
    refine pc_lt fun s9 e9 => ?_
    refine pc_lt fun s10 e10 => ?_
    have f10 : FR MLF [] σ s10 := by rw [e10, e9, e8]; exact FR.st (FR.st (FR.st fs (by decide)) (by decide)) (by decide)
    have o10 : ∀ {k : Nat}, k ≠ 56 → k ≠ 57 → k ≠ 61 → s10.1 k = s.1 k := fun {k} h1 h2 h3 => by rw [e10, sti_o h3, e9, sti_o h2, e8, sti_o h1]
    have r56 : ∀ c, s10.1 56 c = if c = x.toNatClampNeg then s.1 52 0 else s.1 56 c := fun c => by rw [e10, sti_o (by decide), e9, sti_o (by decide), e8, sti_if]
    have r57 : ∀ c, s10.1 57 c = if c = x.toNatClampNeg then (-1) else s.1 57 c := fun c => by rw [e10, sti_o (by decide), e9, sti_if, e8, sti_o (by decide)]
    have r61 : (s10.1 61 0).toInt = 0 := by rw [e10, sti_s]; exact k_0
    have R10 : RLP (x.toNatClampNeg, s.1 57) s10 n tr (pBeg 0 (pAllX σ x.toNatClampNeg)) := ⟨i1_.cg (fun k hk => o10 (by omega) (by omega) (by omega)), r61, fun i hi => absurd hi (Nat.not_lt_zero _), by rw [o10 (by decide) (by decide) (by decide)]; exact i2, fun j hj => (i4 j hj).up EXT.rf (fun k hk => o10 (by omega) (by omega) (by omega)), by rw [o10 (by decide) (by decide) (by decide)]; exact i3, by show EXV (s10.1 57 x.toNatClampNeg) n tr none; rw [r57, if_pos rfl]; exact Or.inl ⟨rfl, k_m1⟩, fun c hc => by rw [r57, if_neg hc]⟩
    -- the block is lifted
    have next : ∀ t n2 tr2, FR MLF [] s10 t → t.1 56 = s10.1 56 → EXT n tr n2 tr2 → RLP (x.toNatClampNeg, s.1 57) t n2 tr2 (pAllX σ (x.toNatClampNeg + 1)) → pNn (pAllX σ (x.toNatClampNeg + 1)) ≤ pNn (pAllX σ x.toNatClampNeg) + 4 * (laX σ x.toNatClampNeg + 1 - fiX σ x.toNatClampNeg) → PLE (pAllX σ x.toNatClampNeg) (pAllX σ (x.toNatClampNeg + 1)) → nzT n2 tr2 + pFr (pAllX σ x.toNatClampNeg) ≤ nzT n tr + pFr (pAllX σ (x.toNatClampNeg + 1)) + 7 * (laX σ x.toNatClampNeg + 1 - fiX σ x.toNatClampNeg) → PC (lt (x + 1) fun x1_22 => a20 x1_22 t) (fun s => FR MLF [] σ s ∧ LFTX (nbX σ) (pAllX σ) s) := by
      intro t n2 tr2 t1 t2 t3 t4 t5 t6 t7
      obtain ⟨u1, u2, u3, u4, u5, u6, u7, u8⟩ := t4
      refine pc_lt fun x22 e22 => ?_
      subst e22
      refine ih (x + 1) t ⟨by omega, by omega, FR.cal f10 t1 rfl rfl, n2, tr2, laX σ x.toNatClampNeg + 1, u1, by rw [cx1]; exact u4, by rw [cx1]; exact u6, by rw [cx1]; exact u5, fun c hc => ?_, by rw [cx1]; omega, by rw [cx1]; exact t6.2.2.1 i7, by rw [cx1]; omega, by omega, fun z => by rw [cx1] at z ⊢; exact hnx z⟩
      rw [cx1] at hc
      rw [t2, r56]
      by_cases q : c = x.toNatClampNeg
      · rw [if_pos q, q]
        exact ⟨i2, u7⟩
      · rw [if_neg q]
        have i := i5 c (by omega)
        refine ⟨i.1, ?_⟩
        have e := u8 c q
        rw [e]
        exact i.2.up t3
    have rw_ : ∀ {t : Sto}, FR MST [] s10 t → (t.1 6 = σ.1 6 ∧ t.1 7 = σ.1 7 ∧ t.1 8 = σ.1 8 ∧ t.1 21 = σ.1 21 ∧ t.1 22 = σ.1 22 ∧ t.1 56 = s10.1 56) := fun ft => ⟨(ft.1 6 (by decide)).trans (f10.1 6 (by decide)), (ft.1 7 (by decide)).trans (f10.1 7 (by decide)), (ft.1 8 (by decide)).trans (f10.1 8 (by decide)), (ft.1 21 (by decide)).trans (f10.1 21 (by decide)), (ft.1 22 (by decide)).trans (f10.1 22 (by decide)), ft.1 56 (by decide)⟩
    -- T's
    refine pc_itr2 (fun k t => 0 ≤ k.toInt ∧ k.toInt ≤ dpX σ (fiX σ x.toNatClampNeg) ∧ FR MST [] s10 t ∧ ∃ n2 tr2, RLP (x.toNatClampNeg, s.1 57) t n2 tr2 (pBeg k.toNatClampNeg (pAllX σ x.toNatClampNeg)) ∧ EXT n tr n2 tr2 ∧ nzT n2 tr2 ≤ nzT n tr) ?_ (by exact ⟨by omega, by omega, FR.rf, n, tr, R10, EXT.rf, Nat.le_refl _⟩)
    intro a55 k t I1 ih1
    obtain ⟨k0, kd, ft, n2, tr2, r1, r2, r3⟩ := I1
    have ck := clamp_I k0
    have rws := rw_ ft
    refine pc_ix (fun _ => ?_)
    (try rw [rws.2.2.2.1])
    refine pc_lt fun v12 e12 => ?_
    subst e12
    refine pc_ix (fun _ => ?_)
    (try rw [rws.2.2.1])
    refine pc_lt fun v13 e13 => ?_
    refine pc_ite (fun c2 => ?_) (fun c2 => ?_)
    · rw [fa_le, e13] at c2
      have c2' : dpX σ (fiX σ x.toNatClampNeg) ≤ k.toInt := c2
      have ke : k.toNatClampNeg = dbX σ x.toNatClampNeg := by omega
      rw [ke] at r1
      refine pc_ix (fun g21 => ?_)
      (try rw [rws.2.2.2.1])
      refine pc_lt fun v15 e15 => ?_
      have c15 : v15.toInt = (fiX σ x.toNatClampNeg : Int) := by rw [e15]; exact (clamp_I (hr _ xn).1).symm
      have c22 : (σ.1 22 x.toNatClampNeg).toInt = (laX σ x.toNatClampNeg : Int) := (clamp_I (hr _ xn).2).symm
      have D0 : pRun (sgX σ) (nvX σ) (fkX σ) (fiX σ x.toNatClampNeg) 0 (pBeg (dbX σ x.toNatClampNeg) (pAllX σ x.toNatClampNeg)) = pBeg (dbX σ x.toNatClampNeg) (pAllX σ x.toNatClampNeg) := rfl
      have n15 : v15.toNatClampNeg - fiX σ x.toNatClampNeg = 0 := by
        have := clamp_I (x := v15) (by omega)
        omega
      -- instructions
      refine pc_itr2 (fun i t => (fiX σ x.toNatClampNeg : Int) ≤ i.toInt ∧ i.toInt ≤ (laX σ x.toNatClampNeg : Int) + 1 ∧ FR MST [] s10 t ∧ ∃ n3 tr3, RLP (x.toNatClampNeg, s.1 57) t n3 tr3 (pRun (sgX σ) (nvX σ) (fkX σ) (fiX σ x.toNatClampNeg) (i.toNatClampNeg - fiX σ x.toNatClampNeg) (pBeg (dbX σ x.toNatClampNeg) (pAllX σ x.toNatClampNeg))) ∧ EXT n tr n3 tr3 ∧ nzT n3 tr3 + pFr (pAllX σ x.toNatClampNeg) ≤ nzT n tr + pFr (pRun (sgX σ) (nvX σ) (fkX σ) (fiX σ x.toNatClampNeg) (i.toNatClampNeg - fiX σ x.toNatClampNeg) (pBeg (dbX σ x.toNatClampNeg) (pAllX σ x.toNatClampNeg))) + (i.toNatClampNeg - fiX σ x.toNatClampNeg)) ?_ (by exact ⟨by omega, by omega, ft, n2, tr2, by rw [n15, D0]; exact r1, r2, by rw [n15, D0]; show nzT n2 tr2 + pFr (pAllX σ x.toNatClampNeg) ≤ nzT n tr + pFr (pAllX σ x.toNatClampNeg) + 0; omega⟩)
      intro a107 i u I2 ih2
      obtain ⟨i0, il, fu, n3, tr3, p1, p2, p3⟩ := I2
      have ci := clamp_I (x := i) (by omega)
      have rwu := rw_ fu
      obtain ⟨j, ej⟩ : ∃ j, i.toNatClampNeg = fiX σ x.toNatClampNeg + j := ⟨i.toNatClampNeg - fiX σ x.toNatClampNeg, by omega⟩
      rw [show i.toNatClampNeg - fiX σ x.toNatClampNeg = j by omega] at p1 p3
      obtain ⟨g1, g2, g3, g4, g5⟩ := ra j (by omega)
      have g6 := g5.2.2.1 i7
      refine pc_ix (fun _ => ?_)
      (try rw [rwu.2.2.2.2.1])
      refine pc_lt fun v17 e17 => ?_
      refine pc_ite (fun c3 => ?_) (fun c3 => ?_)
      · rw [fa_lt, e17, c22] at c3
        have je : j = laX σ x.toNatClampNeg + 1 - fiX σ x.toNatClampNeg := by omega
        refine pc_ix (fun _ => ?_)
        (try rw [rwu.2.2.2.2.1])
        refine pc_lt fun v19 e19 => ?_
        subst e19
        refine pc_calp t_endsX (fun v20 h20_ => ?_)
        rw [rwu.1] at h20_
        have en : v20 = 0 ↔ ¬ enI (sgX σ (laX σ x.toNatClampNeg)).toInt := h20_
        refine pc_jnI1 (fun w => FR MST [] s10 w ∧ ∃ n2 tr2, EXT n tr n2 tr2 ∧ RLP (x.toNatClampNeg, s.1 57) w n2 tr2 (pAllX σ (x.toNatClampNeg + 1)) ∧ pNn (pAllX σ (x.toNatClampNeg + 1)) ≤ pNn (pAllX σ x.toNatClampNeg) + 4 * (laX σ x.toNatClampNeg + 1 - fiX σ x.toNatClampNeg) ∧ PLE (pAllX σ x.toNatClampNeg) (pAllX σ (x.toNatClampNeg + 1)) ∧ nzT n2 tr2 + pFr (pAllX σ x.toNatClampNeg) ≤ nzT n tr + pFr (pAllX σ (x.toNatClampNeg + 1)) + 7 * (laX σ x.toNatClampNeg + 1 - fiX σ x.toNatClampNeg)) (fun w J => ?_) (fun kk hkk => ?_)
        · obtain ⟨j1, n4, tr4, j2, j3, j4, j5, j6⟩ := J
          exact next w n4 tr4 (FR.cal FR.rf j1 rfl rfl) (rw_ j1).2.2.2.2.2 j2 j3 j4 j5 j6
        · rw [je] at p1 p3 g1 g2 g3 g4 g5 g6
          have hh := pRun_hl (P := pBeg (dbX σ x.toNatClampNeg) (pAllX σ x.toNatClampNeg)) (nv := nvX σ) (fk := fkX σ) q3 hdd q1
          refine pc_ite (fun c4 => ?_) (fun c4 => ?_)
          · have st2 := stp.trans (pBlk_2 (en.mp c4))
            have l1 := PLE.end_ (P := pRun (sgX σ) (nvX σ) (fkX σ) (fiX σ x.toNatClampNeg) (laX σ x.toNatClampNeg + 1 - fiX σ x.toNatClampNeg) (pBeg (dbX σ x.toNatClampNeg) (pAllX σ x.toNatClampNeg)))
            have l2 := l1.2.2.1 g6
            refine pc_cals (t_handOver (om := laX σ x.toNatClampNeg + 1 - fiX σ x.toNatClampNeg) x40 p1 hh (by omega) g4 ⟨by omega, by omega, by omega⟩) (fun s24 w => ?_)
            obtain ⟨w1, n4, tr4, w2, w3, w4⟩ := w
            refine hkk s24 ⟨FR.cal fu w1 rfl rfl, n4, tr4, p2.tr w3, by rw [st2]; exact w2, by rw [st2]; exact g2, by rw [st2]; exact g5.tr l1, by rw [st2]; omega⟩
          · have st2 := stp.trans (pBlk_1 (Classical.byContradiction fun z => c4 (en.mpr z)))
            refine hkk u ⟨fu, n3, tr3, p2, by rw [st2]; exact p1, by rw [st2]; exact g1, by rw [st2]; exact g5, by rw [st2]; omega⟩
      · rw [fa_lt, e17, c22] at c3
        have hh := pRun_h (P := pBeg (dbX σ x.toNatClampNeg) (pAllX σ x.toNatClampNeg)) (nv := nvX σ) (fk := fkX σ) q3 hdd j (by omega)
        obtain ⟨v1, v2, v3, v4⟩ := q3 (fiX σ x.toNatClampNeg + j) (by omega) (by omega)
        have hin := q5 (fiX σ x.toNatClampNeg + j) (by omega) (by omega)
        obtain ⟨m1, m2, m3, m4, m5⟩ := ra (j + 1) (by omega)
        have m6 := m5.2.2.1 i7
        have fke : fkX u = fkX σ := by unfold fkX; rw [rwu.2.1]
        have ex1 : (i + 1).toInt = i.toInt + 1 := i1 (by omega)
        have st1 : pRun (sgX σ) (nvX σ) (fkX σ) (fiX σ x.toNatClampNeg) (j + 1) (pBeg (dbX σ x.toNatClampNeg) (pAllX σ x.toNatClampNeg)) = pStep (sgX σ (fiX σ x.toNatClampNeg + j)) (nvX σ (fiX σ x.toNatClampNeg + j)) (fkX σ (fiX σ x.toNatClampNeg + j)) (pRun (sgX σ) (nvX σ) (fkX σ) (fiX σ x.toNatClampNeg) j (pBeg (dbX σ x.toNatClampNeg) (pAllX σ x.toNatClampNeg))) := rfl
        have T := t_step (x := x) (i := i) p1 x40 ⟨by omega, by omega⟩ (by rw [rwu.1, rwu.2.1, ej]; exact hin) (by rw [rwu.1, ej, hh]; exact v2) (by omega) (by omega) (by
          rw [rwu.1, rwu.2.1, fke, ej, ← st1]
          exact ⟨by omega, by omega, by omega⟩)
        rw [rwu.1, rwu.2.1, fke, ej, ← st1] at T
        refine pc_cals T (fun s25 w => ?_)
        obtain ⟨w1, n4, tr4, w2, w3, w4⟩ := w
        refine pc_lt fun x26 e26 => ?_
        subst e26
        have cj : (i + 1).toNatClampNeg - fiX σ x.toNatClampNeg = j + 1 := by
          have := clamp_I (x := i + 1) (by omega)
          omega
        refine ih2 (i + 1) s25 ⟨by omega, by omega, FR.cal fu w1 rfl rfl, n4, tr4, by rw [cj]; exact w2, p2.tr w3, by rw [cj]; omega⟩
    · rw [fa_le, e13] at c2
      have c2' : ¬ dpX σ (fiX σ x.toNatClampNeg) ≤ k.toInt := c2
      have ek : (k + 1).toInt = k.toInt + 1 := i1 (by omega)
      have ck1 : (k + 1).toNatClampNeg = k.toNatClampNeg + 1 := by have := clamp_I (x := k + 1) (by omega); omega
      have mkT : mkX 84 k 0 tr2 = .index k.toNatClampNeg := mkX_t k_84
      have nz2 := r1.1.nz_
      refine pc_calv (t_make (sg := 84) (lf := k) (rt := 0) r1.1 (Or.inr (Or.inr (Or.inl ⟨k_84, k0, by omega, rfl⟩))) (by omega) (by rw [mkT]; show 1 ≤ 60; omega)) (fun v27 s27 w => ?_)
      rw [mkT] at w
      obtain ⟨n3, tr3, u1, u2, u3, u4, u5⟩ := r1.make w
      (try dsimp only at u1 u4 u5)
      rw [oneT_T] at u3
      refine pc_cals (t_push u1 u4 (by show k.toNatClampNeg < 8; omega)) (fun s28 z => ?_)
      refine pc_lt fun x29 e29 => ?_
      subst e29
      have z2 := z.2
      rw [show pPush (Term.index k.toNatClampNeg) (pBeg k.toNatClampNeg (pAllX σ x.toNatClampNeg)) = pBeg (k.toNatClampNeg + 1) (pAllX σ x.toNatClampNeg) from pBeg_s] at z2
      exact ih1 (k + 1) s28 ⟨by omega, by omega, FR.cal (FR.cal ft u5 rfl rfl) z.1 rfl rfl, n3, tr3, by rw [ck1]; exact z2, r2.tr u2, by omega⟩
