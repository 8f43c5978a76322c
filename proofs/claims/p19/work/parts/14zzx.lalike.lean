/-- what the class lifted, and rows that stand then -/
theorem AD4.lft {σ : Sto} (h : AD4 σ) : ∃ s3 s4, f_X1_lift s3 = some s4 ∧ BX s3 ∧ BX s4 ∧ (∀ k, 4 ≤ k → k < 34 → (k < 12 ∨ 20 ≤ k) → σ.1 k = s3.1 k) ∧ ∀ k, 46 ≤ k → k ≤ 62 → σ.1 k = s4.1 k := by
  obtain ⟨s5, a, g, ⟨s1, s2, s3, s4, s5', s6, s7, s8, ⟨a0, a1, a2, a3, a4, a5⟩, ⟨b0, b1, b2, b3, b4, b5, b6, b7, b8, b9, b10, b11⟩, ⟨c0, c1, c2, c3⟩, ⟨d0, d1, d2, d3⟩, ⟨e0, e1, e2⟩, ⟨f0, f1, f2⟩, ⟨g0, g1⟩, ⟨h0, h1⟩, i0⟩, q⟩ := h.tr
  refine ⟨s3, s4, d0, c1, d1, fun k k1 k2 k3 => ?_, fun k k1 k2 => ?_⟩
  · rw [q.1 k (by simp only [kx4, Bool.or_eq_true, Bool.and_eq_true, decide_eq_true_eq, beq_iff_eq]; omega), i0, sti_o (by omega), h1.bl (c := 34) rfl k2, g0, sti_o (by omega), f2.bl (c := 34) rfl k2, e2.bl (c := 34) rfl k2, d2.bl (c := 34) rfl k2]
  · rw [q.1 k (by simp only [kx4, Bool.or_eq_true, Bool.and_eq_true, decide_eq_true_eq, beq_iff_eq]; omega), i0, sti_o (by omega), h1.bl (c := 63) rfl (by omega), g0, sti_o (by omega), f2.bl (c := 63) rfl (by omega), e2.bl (c := 63) rfl (by omega)]
theorem LY4.lft {s : Sto} (h : LY4 s) : ∃ s6 s7, f_X12_laysStatements s6 = some s7 ∧ BM s6 ∧ (∀ k, 9 ≤ k → k < 38 → (k < 12 ∨ 20 ≤ k) → s.1 k = s6.1 k) ∧ ∀ k, 38 ≤ k → k ≤ 51 → s.1 k = s7.1 k := by
  obtain ⟨t7, bb, ⟨s1, s2, s3, s4, s5, s6, s7, s8, s9, ⟨a0, a1, a2, _⟩, ⟨b0, b1, b2, _⟩, ⟨c0, c1, c2, _⟩, ⟨d0, d1, d2, _⟩, ⟨e0, e1, e2, _⟩, ⟨f0, f1, f2, _⟩, ⟨g0, g1, g2, _⟩, ⟨h0, h1, h2⟩, ⟨i0, i1, i2⟩, ⟨j0, j1, j2⟩⟩, q⟩ := h.tr
  refine ⟨s6, s7, g0, f1, fun k k1 k2 k3 => ?_, fun k k1 k2 => ?_⟩
  · rw [q.1 k (by simp only [km4, Bool.or_eq_true, Bool.and_eq_true, decide_eq_true_eq, beq_iff_eq]; omega), j2.bl (c := 38) rfl k2, i2.bl (c := 38) rfl k2, h2.bl (c := 38) rfl k2, g2.bl (c := 38) rfl k2]
  · rw [q.1 k (by simp only [km4, Bool.or_eq_true, Bool.and_eq_true, decide_eq_true_eq, beq_iff_eq]; omega), j2.bl (c := 52) rfl (by omega), i2.bl (c := 52) rfl (by omega), h2.bl (c := 52) rfl (by omega)]
section
variable {sg nv sg2 nv2 : Nat → Int32} {fk fk2 : Nat → Bool} {fi la fi2 la2 db db2 : Nat → Nat}
theorem pStep_cg {g n : Int32} {c d : Bool} {P : PSt} (h : g.toInt = 122 → c = d) : pStep g n c P = pStep g n d P := by
  by_cases q : g.toInt = 122
  · rw [h q]
  · unfold pStep
    rw [if_neg q, if_neg q]
theorem pRun_cg {f : Nat} {P : PSt} : ∀ j, (∀ i, f ≤ i → i < f + j → sg i = sg2 i ∧ nv i = nv2 i ∧ ((sg i).toInt = 122 → fk i = fk2 i)) → pRun sg nv fk f j P = pRun sg2 nv2 fk2 f j P
  | 0, _ => rfl
  | j + 1, h => by
    have q := h (f + j) (by omega) (by omega)
    show pStep (sg (f + j)) (nv (f + j)) (fk (f + j)) (pRun sg nv fk f j P) = pStep (sg2 (f + j)) (nv2 (f + j)) (fk2 (f + j)) (pRun sg2 nv2 fk2 f j P)
    rw [← q.1, ← q.2.1, pRun_cg j (fun i h1 h2 => h i h1 (by omega)), pStep_cg q.2.2]
theorem pBlk_cg {f l d : Nat} {P : PSt} (hl : f ≤ l) (h : ∀ i, f ≤ i → i ≤ l → sg i = sg2 i ∧ nv i = nv2 i ∧ ((sg i).toInt = 122 → fk i = fk2 i)) : pBlk sg nv fk f l d P = pBlk sg2 nv2 fk2 f l d P := by
  have e := pRun_cg (P := pBeg d P) (f := f) (fk := fk) (fk2 := fk2) (l + 1 - f) (fun i h1 h2 => h i h1 (by omega))
  have q := (h l hl (Nat.le_refl _)).1
  by_cases c : enI (sg l).toInt
  · rw [pBlk_1 c, pBlk_1 (by rw [← q]; exact c), e]
  · rw [pBlk_2 c, pBlk_2 (by rw [← q]; exact c), e]
theorem pAll_cg {P : PSt} : ∀ b, (∀ c, c < b → fi c ≤ la c ∧ fi2 c = fi c ∧ la2 c = la c ∧ db2 c = db c ∧ ∀ i, fi c ≤ i → i ≤ la c → sg i = sg2 i ∧ nv i = nv2 i ∧ ((sg i).toInt = 122 → fk i = fk2 i)) → pAll sg nv fk fi la db b P = pAll sg2 nv2 fk2 fi2 la2 db2 b P
  | 0, _ => rfl
  | b + 1, h => by
    obtain ⟨q1, q2, q3, q4, q5⟩ := h b (by omega)
    show pBlk sg nv fk (fi b) (la b) (db b) (pAll sg nv fk fi la db b P) = pBlk sg2 nv2 fk2 (fi2 b) (la2 b) (db2 b) (pAll sg2 nv2 fk2 fi2 la2 db2 b P)
    rw [q2, q3, q4, pAll_cg b (fun c hc => h c (by omega)), pBlk_cg q1 q5]
end
/-- both sides' listings and blocks -/
def BAL (σ s : Sto) : Prop := nbX σ = nB s ∧ nbM s = nB s ∧ BLS (nB s) (sgX σ) (nvX σ) (fiX σ) (laX σ) (dpX σ) ∧ BLS (nB s) (sgM s) (nvM s) (fiM s) (laM s) (dpM s) ∧ (∀ b, b < nB s → (0 ≤ (σ.1 21 b).toInt ∧ 0 ≤ (σ.1 22 b).toInt) ∧ (0 ≤ (s.1 22 b).toInt ∧ 0 ≤ (s.1 23 b).toInt) ∧ ∀ i, fiM s b ≤ i → i < laM s b → (s.1 9 i).toInt ≠ 122) ∧ ∀ b, b ≤ nB s → pAllX σ b = pAllM s b
theorem JT4.bal {σ s : Sto} (h : JT4 σ s) (hl : (σ.1 0 0).toInt ≠ 0) : BAL σ s := by
  obtain ⟨A, L, D, K, hl2⟩ := h.laid hl
  obtain ⟨B, Q, KM, E⟩ := D.p
  obtain ⟨en, eb, eo, ee⟩ := h.eqe hl
  rcases h.1.2 with ⟨z, _⟩ | ⟨z1, z2, z3, z4, z5, z6, z7, z8⟩
  · exact absurd z hl
  have inl := z8.2
  have hC := nC_le B
  have hN := nB_le B
  have nn : (σ.1 4 0).toInt.toNat = nC s := by rw [z3]
  have g20 := gX_20 h.1.1.1.1 0
  have hd6 := Q.2.2.2.2.2.2.1
  have nx : nbX σ = nB s := en
  have dx : ∀ i, i < nC s → dpX σ i = dP s i := fun i hi => by
    have q := congrFun z7 i
    rw [mk_lt hi, mk_lt hi] at q
    rw [dP_lt hi]
    exact q
  have dm : ∀ i, i < nC s → dpM s i = dP s i := fun i hi => (dP_lt hi).symm
  have sx : ∀ i, i < nC s → sgX σ i = sgM s i ∧ nvX σ i = nvM s i := fun i hi => z5 i hi
  have fx : ∀ b, b < nB s → fiX σ b = fiR s b ∧ laX σ b = laR s b := fun b hb => by
    have q := eb b hb
    exact ⟨by show (σ.1 21 b).toInt.toNat = (s.1 22 b).toInt.toNat; rw [q.1], by show (σ.1 22 b).toInt.toNat = (s.1 23 b).toInt.toNat; rw [q.2.1]⟩
  have ins : ∀ i, i < nC s → INS (sgX σ i).toInt (nvX σ i).toInt := fun i hi => inl i (by rw [nn]; exact hi)
  have hts : ∀ b, b < nB s → HTS (sgM s) (dpM s) (fiR s b) (laR s b) ∧ HTS (sgX σ) (dpX σ) (fiR s b) (laR s b) ∧ 0 ≤ dP s (fiR s b) := fun b hb => by
    obtain ⟨k1, k2, k3, k4, k5, k6, k7, k8, k9⟩ := KM.at_ B Q hb
    have key : ∀ i, fiR s b ≤ i → i ≤ laR s b → VSg (sG s i) ∧ ndI (sG s i) ≤ dP s i ∧ dP s i ≤ 6 ∧ (i < laR s b → dP s (i + 1) = dP s i - ndI (sG s i) + gvI (sG s i)) ∧ dP s i - ndI (sG s i) + gvI (sG s i) ≤ 6 := fun i h1 h2 => by
      have iN : i < nC s := by omega
      obtain ⟨d1, d2⟩ := k8 i h1 h2
      have o := Q.ok B iN d1
      have n := ins i iN
      have e := (sx i iN).1
      rw [e] at n
      exact ⟨n.vs, o.1, (hd6 i).2, fun z => (d2 z).1.2.2, o.2.1⟩
    refine ⟨fun i h1 h2 => ?_, fun i h1 h2 => ?_, ?_⟩
    · have q := key i h1 h2
      rw [dm i (by omega)]
      refine ⟨q.1, q.2.1, q.2.2.1, fun z => ?_, q.2.2.2.2⟩
      rw [dm (i + 1) (by omega)]
      exact q.2.2.2.1 z
    · have q := key i h1 h2
      rw [dx i (by omega), (sx i (by omega)).1]
      refine ⟨q.1, q.2.1, q.2.2.1, fun z => ?_, q.2.2.2.2⟩
      rw [dx (i + 1) (by omega)]
      exact q.2.2.2.1 z
    · have := (k8 _ (Nat.le_refl _) k3).1
      have := (hd6 (fiR s b)).1
      omega
  have blm : BLS (nB s) (sgM s) (nvM s) (fiM s) (laM s) (dpM s) := ⟨hN.1, fun b hb => by
    obtain ⟨k1, k2, k3, k4, k5, k6, k7, k8, k9⟩ := KM.at_ B Q hb
    have t := hts b hb
    refine ⟨k3, by show laR s b < 40; omega, t.1, ?_, fun i h1 h2 => ?_, fun z => KM.nx_ B Q z⟩
    · show 0 ≤ dpM s (fiR s b)
      rw [dm _ (by omega)]; exact t.2.2
    · have h2' : i ≤ laR s b := h2
      have iN : i < nC s := by omega
      rw [← (sx i iN).1, ← (sx i iN).2]
      exact ins i iN⟩
  have blx : BLS (nB s) (sgX σ) (nvX σ) (fiX σ) (laX σ) (dpX σ) := ⟨hN.1, fun b hb => by
    obtain ⟨k1, k2, k3, k4, k5, k6, k7, k8, k9⟩ := KM.at_ B Q hb
    have t := hts b hb
    rw [(fx b hb).1, (fx b hb).2]
    refine ⟨k3, by omega, t.2.1, ?_, fun i h1 h2 => ins i (by omega), fun z => ?_⟩
    · rw [dx _ (by omega)]; exact t.2.2
    · rw [(fx (b + 1) z).1]; exact KM.nx_ B Q z⟩
  have no122 : ∀ b, b < nB s → ∀ i, fiR s b ≤ i → i < laR s b → sG s i ≠ 122 := fun b hb i h1 h2 => by
    obtain ⟨k1, k2, k3, k4, k5, k6, k7, k8, k9⟩ := KM.at_ B Q hb
    have q := ((k8 i h1 (by omega)).2 h2).1.2.1
    exact fun z => q (Or.inr z)
  refine ⟨nx, rfl, blx, blm, fun b hb => ?_, fun b hb => ?_⟩
  · obtain ⟨k1, k2, k3, k4, k5, k6, k7, k8, k9⟩ := KM.at_ B Q hb
    have q := eb b hb
    exact ⟨⟨by omega, by omega⟩, ⟨by omega, by omega⟩, no122 b hb⟩
  · refine pAll_cg b (fun c hc => ?_)
    have hc' : c < nB s := by omega
    obtain ⟨k1, k2, k3, k4, k5, k6, k7, k8, k9⟩ := KM.at_ B Q hc'
    have f1 := (fx c hc').1
    have f2 := (fx c hc').2
    rw [f1, f2]
    refine ⟨k3, rfl, rfl, ?_, fun i h1 h2 => ?_⟩
    · show (dpM s (fiR s c)).toNat = (dpX σ (fiX σ c)).toNat
      rw [f1, dm _ (by omega), dx _ (by omega)]
    · have iN : i < nC s := by omega
      obtain ⟨e1, e2⟩ := sx i iN
      refine ⟨e1, e2, fun z => ?_⟩
      have z' : sG s i = 122 := by
        have : (sgX σ i).toInt = sG s i := by rw [e1]; rfl
        omega
      have il : i = laR s c := by
        by_cases w : i < laR s c
        · exact absurd z' (no122 c hc' i h1 w)
        · omega
      subst il
      have dl := (k8 _ k3 (Nat.le_refl _)).1
      have o := Q.ok B k4 dl
      have l1 : laR s c + 1 < nC s := (o.2.2.1 ⟨by omega, by omega, by omega⟩).1
      have d1 : dP s (laR s c + 1) ≠ -1 := by
        have a := (o.2.2.1 ⟨by omega, by omega, by omega⟩).2
        have b1 := o.1
        have b2 := gv_0 (sG s (laR s c))
        omega
      have b1 := k9 l1 d1
      have nl := Q.2.2.1.1 _ k4 (Or.inr z')
      have hn := ins _ k4
      have en0 : 0 ≤ nM s (laR s c) := by
        have e3 : nM s (laR s c) = (nvX σ (laR s c)).toInt := by rw [e2]; rfl
        unfold INS at hn
        unfold bareI at hn
        have e4 : (sgX σ (laR s c)).toInt = 122 := z
        omega
      have tN : (nM s (laR s c)).toNat < nC s := by omega
      have dt : dP s (nM s (laR s c)).toNat ≠ -1 := by
        have a := o.2.2.2.1 (Or.inr z')
        have b1 := o.1
        have b2 := gv_0 (sG s (laR s c))
        omega
      have bt : bgP (dP s) (cT s) (nM s (laR s c)).toNat = true := bgP_t.mpr ⟨dt, Or.inl (Or.inl ⟨laR s c, k4, dl, Or.inl ⟨Or.inr z', Or.inl rfl⟩⟩)⟩
      have o1 : (s.1 24 (laR s c + 1)).toInt = (cbP (dP s) (cT s) (laR s c + 1 + 1) : Int) - 1 := by
        have q := KM.2.2.1 (laR s c + 1) l1
        rw [if_pos d1] at q
        exact q
      have o2 : (s.1 24 (nM s (laR s c)).toNat).toInt = (cbP (dP s) (cT s) ((nM s (laR s c)).toNat + 1) : Int) - 1 := by
        have q := KM.2.2.1 (nM s (laR s c)).toNat tN
        rw [if_pos dt] at q
        exact q
      rw [cbP_t b1] at o1
      rw [cbP_t bt] at o2
      have same : s.1 24 (laR s c + 1) = s.1 24 (nM s (laR s c)).toNat ↔ nM s (laR s c) = (laR s c : Int) + 1 := by
        constructor
        · intro q
          rw [q] at o1
          have q2 : cbP (dP s) (cT s) (laR s c + 1) = cbP (dP s) (cT s) (nM s (laR s c)).toNat := by omega
          have q3 := fb_ct_kth_one b1 bt q2
          omega
        · intro q
          rw [q]
          congr 1
      show decide ((σ.1 7 (laR s c)).toInt ≠ ((laR s c : Nat) : Int) + 1) = decide (s.1 24 (laR s c + 1) ≠ s.1 24 (s.1 10 (laR s c)).toNatClampNeg)
      refine decide_eq_decide.mpr (not_congr ?_)
      have e5 : (σ.1 7 (laR s c)).toInt = nM s (laR s c) := by
        have : σ.1 7 (laR s c) = s.1 10 (laR s c) := e2
        rw [this]; rfl
      rw [e5]
      exact same.symm
/-- statements of both -/
theorem JT4.sts {σ s : Sto} (h : JT4 σ s) (hl : (σ.1 0 0).toInt ≠ 0) : ∃ A : Nat → PSt, LFTX (nB s) A σ ∧ LFTM (nB s) A s ∧ nbX σ = nB s ∧ ∀ b c, b ≤ c → pNn (A b) ≤ pNn (A c) := by
  obtain ⟨AD, LY, D, K, hl2⟩ := h.laid hl
  obtain ⟨B, Q, KM, E⟩ := D.p
  obtain ⟨nx, nm, blx, blm, hr, hA⟩ := h.bal hl
  obtain ⟨s3, s4, x1, x2, x3, x4, x5⟩ := AD.lft
  obtain ⟨t6, t7, y1, y2, y4, y5⟩ := LY.lft
  have rx : s3.1 6 = σ.1 6 ∧ s3.1 7 = σ.1 7 ∧ s3.1 8 = σ.1 8 ∧ s3.1 20 = σ.1 20 ∧ s3.1 21 = σ.1 21 ∧ s3.1 22 = σ.1 22 := ⟨(x4 6 (by omega) (by omega) (by omega)).symm, (x4 7 (by omega) (by omega) (by omega)).symm, (x4 8 (by omega) (by omega) (by omega)).symm, (x4 20 (by omega) (by omega) (by omega)).symm, (x4 21 (by omega) (by omega) (by omega)).symm, (x4 22 (by omega) (by omega) (by omega)).symm⟩
  have ry : t6.1 9 = s.1 9 ∧ t6.1 10 = s.1 10 ∧ t6.1 20 = s.1 20 ∧ t6.1 22 = s.1 22 ∧ t6.1 23 = s.1 23 ∧ t6.1 24 = s.1 24 ∧ t6.1 26 = s.1 26 := ⟨(y4 9 (by omega) (by omega) (by omega)).symm, (y4 10 (by omega) (by omega) (by omega)).symm, (y4 20 (by omega) (by omega) (by omega)).symm, (y4 22 (by omega) (by omega) (by omega)).symm, (y4 23 (by omega) (by omega) (by omega)).symm, (y4 24 (by omega) (by omega) (by omega)).symm, (y4 26 (by omega) (by omega) (by omega)).symm⟩
  obtain ⟨r6, r7, r8, r20, r21, r22⟩ := rx
  obtain ⟨w9, w10, w20, w22, w23, w24, w26⟩ := ry
  have px : pAllX s3 = pAllX σ := by unfold pAllX sgX nvX fiX laX dbX dpX fkX fiX; rw [r6, r7, r8, r21, r22]
  have pm : pAllM t6 = pAllM s := by unfold pAllM sgM nvM fiM laM dbM dpM fkM fiM; rw [w9, w10, w20, w22, w23, w24]
  have g20 := gX_20 x2 0
  have g26 := gM_26 y2 0
  have n3 : nbX s3 = nB s := by rw [← nx]; unfold nbX; rw [r20]
  have n6 : nbM t6 = nB s := by rw [← nm]; unfold nbM; rw [w26]
  have X := t_lift (σ := s3) (by rw [n3]; unfold sgX nvX fiX laX dpX at blx ⊢; rw [r6, r7, r8, r21, r22]; exact blx) (by omega) (by rw [n3, r21, r22]; exact fun b hb => (hr b hb).1) _ x1
  have M := m_lay (σ := t6) (fun i => gM_9 y2 i) (by rw [n6]; unfold sgM nvM fiM laM dpM at blm ⊢; rw [w9, w10, w20, w22, w23]; exact blm) (by omega) (by rw [n6, w22, w23]; exact fun b hb => (hr b hb).2.1) (by rw [n6]; unfold fiM laM; rw [w9, w22, w23]; exact fun b hb => (hr b hb).2.2) _ y1
  rw [n3, px] at X
  rw [n6, pm] at M
  obtain ⟨_, n, tr, q1, q2, q3, q4, q5, q6, q7, q8⟩ := X
  obtain ⟨_, n', tr', p1, p2, p3, p4, p5, p6⟩ := M
  refine ⟨pAllX σ, ⟨n, tr, q1.cg (fun k hk => x5 k (by omega) (by omega)), by rw [x5 52 (by omega) (by omega)]; exact q2, by rw [x5 58 (by omega) (by omega)]; exact q3, fun j hj => (q4 j hj).up EXT.rf (fun k hk => x5 k (by omega) (by omega)), fun b hb => by rw [x5 56 (by omega) (by omega)]; exact q5 b hb, fun b hb => by rw [x5 57 (by omega) (by omega)]; exact q6 b hb, q7, q8⟩, ⟨n', tr', p1.cg (fun k hk => y5 k (by omega) (by omega)), ?_, ?_, fun j hj => ?_, fun b hb => ?_, fun b hb => ?_⟩, nx, fun b c hb => ?_⟩
  · rw [y5 47 (by omega) (by omega), hA _ (Nat.le_refl _)]; exact p2
  · rw [y5 48 (by omega) (by omega), hA _ (Nat.le_refl _)]; exact p3
  · rw [hA _ (Nat.le_refl _)] at hj ⊢
    exact (p4 j hj).up EXT.rf (fun k hk => y5 k (by omega) (by omega))
  · rw [y5 45 (by omega) (by omega), hA b hb]; exact p5 b hb
  · rw [y5 46 (by omega) (by omega), hA (b + 1) (by omega)]; exact p6 b hb
  · have st : ∀ d, PLE (pAllX σ b) (pAllX σ (b + d)) := fun d => by
      induction d with
      | zero => exact PLE.rf
      | succ d ih => exact ih.tr (PLE.blk)
    have q := (st (c - b)).1
    rw [show b + (c - b) = c by omega] at q
    exact q
