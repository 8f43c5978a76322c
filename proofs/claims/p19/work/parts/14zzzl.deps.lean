/-- statements of both, with what they are told of -/
theorem JT4.stx {σ s : Sto} (h : JT4 σ s) (hl : (σ.1 0 0).toInt ≠ 0) : LFTX (nB s) (pAllX σ) σ ∧ LFTM (nB s) (pAllX σ) s := by
  obtain ⟨AD, LY, D, K, hl2⟩ := h.laid hl
  obtain ⟨B, Q, KM, E⟩ := D.p
  obtain ⟨nx, nm, blx, blm, hr, hA⟩ := h.bal hl
  obtain ⟨s3, s4, x1, x2, x3, x4, x5⟩ := AD.lft
  obtain ⟨t6, t7, y1, y2, y4, y5⟩ := LY.lft
  have rx : s3.1 6 = σ.1 6 ∧ s3.1 7 = σ.1 7 ∧ s3.1 8 = σ.1 8 ∧ s3.1 20 = σ.1 20 ∧ s3.1 21 = σ.1 21 ∧ s3.1 22 = σ.1 22 := ⟨(x4 6 (by omega) (by omega) (by omega)).symm, (x4 7 (by omega) (by omega) (by omega)).symm, (x4 8 (by omega) (by omega) (by omega)).symm, (x4 20 (by omega) (by omega) (by omega)).symm, (x4 21 (by omega) (by omega) (by omega)).symm, (x4 22 (by omega) (by omega) (by omega)).symm⟩
  have ry : t6.1 9 = s.1 9 ∧ t6.1 10 = s.1 10 ∧ t6.1 20 = s.1 20 ∧ t6.1 22 = s.1 22 ∧ t6.1 23 = s.1 23 ∧ t6.1 24 = s.1 24 ∧ t6.1 26 = s.1 26 := ⟨(y4 9 (by omega) (by omega) (by omega)).symm, (y4 10 (by omega) (by omega) (by omega)).symm, (y4 20 (by omega) (by omega) (by omega)).symm, (y4 22 (by omega) (by omega) (by omega)).symm, (y4 23 (by omega) (by omega) (by omega)).symm, (y4 24 (by omega) (by omega) (by omega)).symm, (y4 26 (by omega) (by omega) (by omega)).symm⟩
  obtain ⟨r6, r7, r8, r20, r21, r22⟩ := rx
  obtain ⟨w9, w10, w20, w22, w23, w24, w26⟩ := ry
  have px : pAllX s3 = pAllX σ := by unfold pAllX sgX nvX fiX laX dbX dpX fkX fiX; rw [r6, r7, r8, r21, r22]
  have pm : pAllM t6 = pAllM s := by unfold pAllM sgM nvM fiM laM dbM dpM fkM fiM; rw [w9, w10, w20, w22, w23, w24]
  have g20 := gX_20 x2 0
  have g26 := gM_26 y2 0
  have n3 : nbX s3 = nB s := by rw [← nx]; unfold nbX; rw [r20]
  have n6 : nbM t6 = nB s := by rw [← nm]; unfold nbM; rw [w26]
  have X := t_lift (σ := s3) (by rw [n3]; unfold sgX nvX fiX laX dpX at blx ⊢; rw [r6, r7, r8, r21, r22]; exact blx) (by omega) (by rw [n3, r21, r22]; exact fun b hb => (hr b hb).1) _ x1
  have M := m_lay (σ := t6) (fun i => gM_9 y2 i) (by rw [n6]; unfold sgM nvM fiM laM dpM at blm ⊢; rw [w9, w10, w20, w22, w23]; exact blm) (by omega) (by rw [n6, w22, w23]; exact fun b hb => (hr b hb).2.1) (by rw [n6]; unfold fiM laM; rw [w9, w22, w23]; exact fun b hb => (hr b hb).2.2) _ y1
  rw [n3, px] at X
  rw [n6, pm] at M
  obtain ⟨_, n, tr, q1, q2, q3, q4, q5, q6, q7, q8⟩ := X
  obtain ⟨_, n', tr', p1, p2, p3, p4, p5, p6⟩ := M
  refine ⟨⟨n, tr, q1.cg (fun k hk => x5 k (by omega) (by omega)), by rw [x5 52 (by omega) (by omega)]; exact q2, by rw [x5 58 (by omega) (by omega)]; exact q3, fun j hj => (q4 j hj).up EXT.rf (fun k hk => x5 k (by omega) (by omega)), fun b hb => by rw [x5 56 (by omega) (by omega)]; exact q5 b hb, fun b hb => by rw [x5 57 (by omega) (by omega)]; exact q6 b hb, q7, q8⟩, ⟨n', tr', p1.cg (fun k hk => y5 k (by omega) (by omega)), ?_, ?_, fun j hj => ?_, fun b hb => ?_, fun b hb => ?_⟩⟩
  · rw [y5 47 (by omega) (by omega), hA _ (Nat.le_refl _)]; exact p2
  · rw [y5 48 (by omega) (by omega), hA _ (Nat.le_refl _)]; exact p3
  · rw [hA _ (Nat.le_refl _)] at hj ⊢
    exact (p4 j hj).up EXT.rf (fun k hk => y5 k (by omega) (by omega))
  · rw [y5 45 (by omega) (by omega), hA b hb]; exact p5 b hb
  · rw [y5 46 (by omega) (by omega), hA (b + 1) (by omega)]; exact p6 b hb
/-- with how many a block begins -/
def DEP (s : Sto) (c : Nat) : Nat := (dP s (fiR s c)).toNat
/-- how many lie at a block's end -/
def DEE (s : Sto) (b : Nat) : Int := dP s (laR s b) - ndI (sG s (laR s b)) + gvI (sG s (laR s b))
theorem bg_at {s : Sto} (hB : BM s) (hQ : QL s) (hK : BK s) {i : Nat} (hi : i < nC s) (bg : bgP (dP s) (cT s) i = true) : ∃ c : Nat, c < nB s ∧ (s.1 24 i).toInt = (c : Int) ∧ fiR s c = i := by
  have hd := (bgP_t.mp bg).1
  obtain ⟨c, c1, c2, c3, c4⟩ := of_bg hB hQ hK hi hd
  refine ⟨c, c1, c2, ?_⟩
  have := c4.mp bg
  unfold fiR
  omega
/-- with how many one comes to the next blocks -/
def DSU (s : Sto) (b : Nat) : Prop := (gOnI (sG s (laR s b)) → ∃ c : Nat, c < nB s ∧ fallT s b = (c : Int) ∧ (DEP s c : Int) = DEE s b) ∧ (gElI (sG s (laR s b)) → ∃ c : Nat, c < nB s ∧ jmpT s b = (c : Int) ∧ (DEP s c : Int) = DEE s b) ∧ ((s.1 25 b).toInt ≠ -1 → ∃ c : Nat, c < nB s ∧ (s.1 25 b).toInt = (c : Int) ∧ DEP s c = 1)
theorem DSU.of {s : Sto} (hB : BM s) (hQ : QL s) (hK : BK s) (hE : EDM s) {b : Nat} (hb : b < nB s) : DSU s b := by
  obtain ⟨k1, k2, k3, k4, k5, k6, k7, k8, k9⟩ := hK.at_ hB hQ hb
  have dl := (k8 _ k3 (Nat.le_refl _)).1
  obtain ⟨o1, o2, o3, o4, o5⟩ := hQ.ok hB k4 dl
  have gv := gv_0 (sG s (laR s b))
  refine ⟨fun g => ?_, fun g => ?_, fun g => ?_⟩
  · obtain ⟨z1, z2⟩ := o3 g
    have d1 : dP s (laR s b + 1) ≠ -1 := by rw [z2]; omega
    obtain ⟨c, c1, c2, c3⟩ := bg_at hB hQ hK z1 (k9 z1 d1)
    refine ⟨c, c1, c2, ?_⟩
    unfold DEP DEE
    rw [c3, z2]
    omega
  · have lt := hQ.2.2.1.1 _ k4 g
    have g10 := gM_10 hB (laR s b)
    have n0 : 0 ≤ nM s (laR s b) := g10.1
    have z2 := o4 g
    have tN : (nM s (laR s b)).toNat < nC s := by omega
    have d1 : dP s (nM s (laR s b)).toNat ≠ -1 := by rw [z2]; omega
    have bt : bgP (dP s) (cT s) (nM s (laR s b)).toNat = true := bgP_t.mpr ⟨d1, Or.inl (Or.inl ⟨laR s b, k4, dl, Or.inl ⟨g, Or.inl rfl⟩⟩)⟩
    obtain ⟨c, c1, c2, c3⟩ := bg_at hB hQ hK tN bt
    refine ⟨c, c1, c2, ?_⟩
    unfold DEP DEE
    rw [c3, z2]
    omega
  · rcases hE.2 b hb with ⟨z, _⟩ | ⟨i, i1, i2, ⟨i3, i4⟩, i5⟩
    · exact absurd z g
    · have di := (k8 i i1 i2).1
      have iN : i < nC s := by omega
      obtain ⟨_, _, _, _, p5⟩ := hQ.ok hB iN di
      have y := p5 i3 i4
      have lg := hQ.2.2.1.2 _ i4
      have g11 := gM_11 hB (3 * hoP (nH s) (fR s) (uP s) i + 2)
      have g0 : 0 ≤ gO s (hoP (nH s) (fR s) (uP s) i) := g11.1
      have tN : (gO s (hoP (nH s) (fR s) (uP s) i)).toNat < nC s := by omega
      have bt : bgP (dP s) (cT s) (gO s (hoP (nH s) (fR s) (uP s) i)).toNat = true := bgP_t.mpr ⟨by rw [y]; decide, Or.inl (Or.inr ⟨_, i4, Or.inr (Or.inr rfl)⟩)⟩
      obtain ⟨c, c1, c2, c3⟩ := bg_at hB hQ hK tN bt
      refine ⟨c, c1, by rw [i5]; exact c2, ?_⟩
      unfold DEP
      rw [c3, y]
      rfl
/-- a z's expression has no effects -/
theorem pBlk_T {sg nv : Nat → Int32} {fk : Nat → Bool} {f l d : Nat} {P : PSt} {t : Term} (hn : ¬ enI (sg l).toInt) (h : pTs (pBlk sg nv fk f l d P) = some t) : tEff t = false := by
  rw [pBlk_2 hn] at h
  unfold pEnd at h
  generalize pEnd1 (pHt (pRun sg nv fk f (l + 1 - f) (pBeg d P))) (pRun sg nv fk f (l + 1 - f) (pBeg d P)) = Q at h
  cases ht : pTs Q with
  | none =>
    rw [pEnd2_0 ht, ht] at h
    simp at h
  | some u =>
    by_cases c : tEff u = true
    · rw [pEnd2_1 ht c] at h
      have h : some (tX (pFr Q)) = some t := h
      rw [← Option.some.inj h]
      rfl
    · rw [pEnd2_2 ht c, ht] at h
      rw [← Option.some.inj h]
      exact Bool.eq_false_iff.mpr c
theorem evT_ne (T X : Nat → Int32) : ∀ t, tEff t = false → ∀ R, (evT T X t R).2 = (R, false) :=
  tAll (fun t h g R => h g R) (fun t h g R => h g R) (fun op l r hl hr g R => by
    have g : (decide (op = 47) || decide (op = 37) || tEff l || tEff r) = false := g
    simp only [Bool.or_eq_false_iff, decide_eq_false_iff_not] at g
    obtain ⟨⟨⟨g1, g2⟩, g3⟩, g4⟩ := g
    have k_47 : (47 : Int32).toInt = 47 := by decide +kernel
    have k_37 : (37 : Int32).toInt = 37 := by decide +kernel
    have e1 := hl g3 R
    have e2 := hr g4 R
    have a1 : (evT T X l R).2.1 = R := by rw [e1]
    have a2 : ¬ (evT T X l R).2.2 = true := by rw [e1]; exact Bool.false_ne_true
    have a3 : ¬ (evT T X r R).2.2 = true := by rw [e2]; exact Bool.false_ne_true
    have a4 : (evT T X r R).2.1 = R := by rw [e2]
    rw [evT_b, if_neg a2, a1, if_neg a3, if_neg (fun z => by
      rw [fa_eq, k_47] at g1
      rw [fa_eq, k_37] at g2
      rcases z.1 with w | w
      · exact g1 w
      · exact g2 w), a4]) (fun t h g R => by
    cases t with
    | null => exact absurd g (by decide)
    | length t => exact absurd h (by simp [kdl])
    | sum t => exact absurd h (by simp [kdl])
    | add a b =>
      cases a with
      | int op =>
        cases b with
        | sub l r => exact absurd h (by simp [kdl])
        | _ => rfl
      | _ => rfl
    | _ => rfl)
/-- all that is known of the names of both -/
def NMA (s : Sto) (A : Nat → PSt) : Prop := NMB A (nB s) (DEP s) (DEE s) (fun b => enI (sG s (laR s b))) ∧ ∀ b t, b < nB s → ¬ enI (sG s (laR s b)) → pTs (A (b + 1)) = some t → tEff t = false
theorem JT4.nma {σ s : Sto} (h : JT4 σ s) (hl : (σ.1 0 0).toInt ≠ 0) : NMA s (pAllX σ) := by
  obtain ⟨AD, LY, D, K, hl2⟩ := h.laid hl
  obtain ⟨B, Q, KM, E⟩ := D.p
  obtain ⟨nx, nm, blx, blm, hr, hA⟩ := h.bal hl
  have dm : ∀ i, i < nC s → dpM s i = dP s i := fun i hi => (dP_lt hi).symm
  have fi_ : ∀ b, b < nB s → fiM s b < nC s ∧ laM s b < nC s := fun b hb => by
    obtain ⟨k1, k2, k3, k4, _⟩ := KM.at_ B Q hb
    exact ⟨Nat.lt_of_le_of_lt k3 k4, k4⟩
  have N := pAll_N (sg := sgM s) (nv := nvM s) (fk := fkM s) (fi := fiM s) (la := laM s) (dp := dbM s) (dq := dpM s) (P := pZero) (nb := nB s) (fun b hb => by
    obtain ⟨b1, b2, b3, b4, _⟩ := blm.2 b hb
    refine ⟨b3, b1, ?_⟩
    show ((dpM s (fiM s b)).toNat : Int) = dpM s (fiM s b)
    omega)
  refine ⟨fun b hb => ?_, fun b t hb hn ht => ?_⟩
  · obtain ⟨n1, n2, n3, n4, n5⟩ := N b hb
    have e0 : pAllX σ b = pAllM s b := hA b (by omega)
    have e1 : pAllX σ (b + 1) = pAllM s (b + 1) := hA (b + 1) (by omega)
    have e2 : pAllX σ (nB s) = pAllM s (nB s) := hA (nB s) (Nat.le_refl _)
    have ed : dbM s b = DEP s b := by
      show (dpM s (fiM s b)).toNat = (dP s (fiR s b)).toNat
      rw [dm _ (fi_ b hb).1]
      rfl
    have ee : dpM s (laM s b) - ndI (sgM s (laM s b)).toInt + gvI (sgM s (laM s b)).toInt = DEE s b := by
      rw [dm _ (fi_ b hb).2]
      rfl
    rw [e0, e1, e2, ← ed]
    exact ⟨n1, n2, n3, n4, fun z k hk => n5 z k (by (try dsimp only); rw [ee]; exact hk)⟩
  · rw [hA (b + 1) (by omega)] at ht
    exact pBlk_T (sg := sgM s) (nv := nvM s) (fk := fkM s) (f := fiM s b) (l := laM s b) (d := dbM s b) (P := pAllM s b) hn ht
