/-- the reference's text, patched and laid -/
def LNM (σ : Sto) (a b c : Int32) (s : Sto) (d : Nat → Int) : Prop := (s.1 21 0).toInt ≠ 0 ∧ (s.1 15 0).toInt = (σ.1 15 0).toInt ∧ (s.1 16 0).toInt = (σ.1 16 0).toInt ∧ (∀ i, i < (σ.1 15 0).toInt.toNat → s.1 9 i = ptI (σ.1 9) a b i ∧ s.1 10 i = ptI (σ.1 10) a c i) ∧ (∀ h, h < (σ.1 16 0).toInt.toNat → h3 (s.1 11) 0 h = h3 (σ.1 11) 0 h ∧ h3 (s.1 11) 1 h = h3 (σ.1 11) 1 h ∧ h3 (s.1 11) 2 h = h3 (σ.1 11) 2 h) ∧ mk (σ.1 15 0).toInt.toNat (s.1 20) = d ∧ BM s
theorem t_putM {σ τ : Sto} {a b c : Int32} (h : GR τ σ) (hl : (σ.1 21 0).toInt ≠ 0) (ha : 0 ≤ a.toInt) (ha2 : a.toInt < (σ.1 15 0).toInt) (hi : INS b.toInt c.toInt) : OK (f_X12_put a b c σ) (fun r => PVR (σ.1 15 0).toInt.toNat (σ.1 16 0).toInt.toNat (ri (ptI (σ.1 9) a b)) (ri (ptI (σ.1 10) a c)) (ri (h3 (σ.1 11) 0)) (ri (h3 (σ.1 11) 1)) (ri (h3 (σ.1 11) 2)) r.1.toInt (∀ k, k ∈ LSM → r.2.1 k = σ.1 k) (LNM σ a b c r.2)) := by
  have k_0 : (0 : Int32).toInt = 0 := by decide +kernel
  have n1 : (nI 1) = (1 : Int32) := by decide +kernel
  unfold f_X12_put
  refine ok_lt fun s1 e1 => ?_
  have B1 : BM s1 := by rw [e1]; exact pM_0 h.1 (by omega)
  have f1 : FR [0, 3, 4, 5, 6, 7, 8, 12, 13, 14, 17, 18, 19] [] σ s1 := by rw [e1]; exact FR.st FR.rf (by decide)
  have G1 : GR τ s1 := h.fr B1 f1 rfl rfl
  have p21 : s1.1 21 0 = σ.1 21 0 := by rw [f1.1 21 (by decide)]
  have p15 : s1.1 15 0 = σ.1 15 0 := by rw [f1.1 15 (by decide)]
  have p16 : s1.1 16 0 = σ.1 16 0 := by rw [f1.1 16 (by decide)]
  refine ok_ite (fun e => absurd (by rw [← p21, e]; exact k_0) hl) (fun c1 => ?_)
  rw [fa_eq, k_0] at c1
  have L1 := G1.2.1.resolve_left c1
  have Q1 := L1.2.1
  have g15 := gM_15 B1 0
  have g16 := gM_16 B1 0
  have em := i_sub (x := s1.1 15 0) (k := 1) (by decide) (by omega)
  rw [n1] at em
  refine ok_calp s_isIn (fun v3 q => ?_)
  rw [Int32.toInt_toInt64, Int32.toInt_toInt64, i64_0, em] at q
  have v3n := q.2.mpr ⟨ha, by rw [p15]; omega⟩
  refine ok_ite (fun e => by rw [fa_eq, k_0] at e; exact absurd e v3n) (fun c2 => ?_)
  rw [fa_eq, k_0] at c2
  have xb := q.2.mp c2
  clear em
  refine ok_calp (ok_and (s_isCode (x := b) (y := c)) (t_isCode (x := b) (y := c))) (fun v5 r => ?_)
  have v5n := r.2.2.mpr hi
  refine ok_ite (fun e => by rw [fa_eq, k_0] at e; exact absurd e v5n) (fun c3 => ?_)
  rw [fa_eq, k_0] at c3
  obtain ⟨y1, y2, y3⟩ := r.1.2 c3
  have cx := clamp_I xb.1
  refine ok_cals (s_triesP (x3 := s1.1 15 0) (x5 := s1.1 16 0) B1 (by omega) (by omega)) (fun s7 t => ?_)
  obtain ⟨t1, t2, t3, t4, t5, t6⟩ := t
  have f7 : FR [0, 3, 4, 5, 6, 7, 8, 12, 13, 14, 17, 18, 19] [] σ s7 := FR.cal f1 t2 rfl rfl
  have ix_ : 0 ≤ a.toInt ∧ a.toInt < 40 := by omega
  refine ok_ix ix_ ?_
  refine ok_lt fun s8 e8 => ?_
  refine ok_ix ix_ ?_
  refine ok_lt fun s9 e9 => ?_
  have b8 : BM s8 := by rw [e8]; exact pM_12 t1 y1
  have b9 : BM s9 := by rw [e9]; exact pM_13 b8 y2
  have f9 : FR [0, 3, 4, 5, 6, 7, 8, 12, 13, 14, 17, 18, 19] [] σ s9 := by
    rw [e9]; refine FR.st ?_ (by decide)
    rw [e8]; exact FR.st f7 (by decide)
  have r12 : ∀ j, s9.1 12 j = if j = a.toNatClampNeg then b else s7.1 12 j := fun j => by
    rw [e9, sti_o (by decide), e8, sti_if]
  have r13 : ∀ j, s9.1 13 j = if j = a.toNatClampNeg then c else s7.1 13 j := fun j => by
    rw [e9, sti_if, e8, sti_o (by decide)]
  have r17 : s9.1 17 0 = s1.1 15 0 := by rw [e9, sti_o (by decide), e8, sti_o (by decide), t3]
  have r18 : s9.1 18 0 = s1.1 16 0 := by rw [e9, sti_o (by decide), e8, sti_o (by decide), t4]
  have r14 : ∀ i, i < 9 → s9.1 14 i = σ.1 11 i := fun i hi => by rw [e9, sti_o (by decide), e8, sti_o (by decide), t6 i hi, f1.1 11 (by decide)]
  have q12 : ∀ i, i < 40 → s9.1 12 i = ptI (σ.1 9) a b i := fun i hi => by
    rw [r12]
    show _ = if i = a.toNatClampNeg then b else σ.1 9 i
    rw [(t5 i hi).1, f1.1 9 (by decide)]
  have q13 : ∀ i, i < 40 → s9.1 13 i = ptI (σ.1 10) a c i := fun i hi => by
    rw [r13]
    show _ = if i = a.toNatClampNeg then c else σ.1 10 i
    rw [(t5 i hi).2, f1.1 10 (by decide)]
  have q15 := Q1.1
  refine ok_calv (ok_and (s_wrongQ b9 (by rw [r17]; exact q15) (fun i hi => ?_)) (s_X12_wrong b9 (by rw [r17]; exact q15))) (fun v10 s10 u => ?_)
  · rw [r17] at hi
    unfold ri
    rw [r12, r13]
    by_cases z : i = a.toNatClampNeg
    · rw [if_pos z, if_pos z]; exact y3
    · rw [if_neg z, if_neg z, (t5 i (by omega)).1, (t5 i (by omega)).2]
      exact Q1.2.1 i hi
  · obtain ⟨⟨u1, u2, u3, u4⟩, _, _, _, u5, u6⟩ := u
    (try dsimp only at u1 u2 u3 u4 u5 u6)
    have zz : (s9.1 17 0).toInt.toNat = (σ.1 15 0).toInt.toNat := by rw [r17, p15]
    have ww : (s9.1 18 0).toInt.toNat = (σ.1 16 0).toInt.toNat := by rw [r18, p16]
    rw [p15] at g15
    rw [p16] at g16
    rw [zz, ww] at u5 u6
    have f10 : FR [0, 3, 4, 5, 6, 7, 8, 12, 13, 14, 17, 18, 19] [] σ s10 := FR.cal f9 u3 rfl rfl
    have pa : ∀ i, i < (σ.1 15 0).toInt.toNat → ri (ptI (σ.1 9) a b) i = ri (s9.1 12) i ∧ ri (ptI (σ.1 10) a c) i = ri (s9.1 13) i := fun i hi => by
      unfold ri; rw [q12 i (by omega), q13 i (by omega)]; exact ⟨rfl, rfl⟩
    have pb : ∀ h, h < (σ.1 16 0).toInt.toNat → ri (h3 (σ.1 11) 0) h = ri (h3 (s9.1 14) 0) h ∧ ri (h3 (σ.1 11) 1) h = ri (h3 (s9.1 14) 1) h ∧ ri (h3 (σ.1 11) 2) h = ri (h3 (s9.1 14) 2) h := fun i hi => by
      unfold ri h3; rw [r14 _ (by omega), r14 _ (by omega), r14 _ (by omega)]; exact ⟨rfl, rfl, rfl⟩
    have pa2 : ∀ i, i < (σ.1 15 0).toInt.toNat → ri (s9.1 12) i = ri (ptI (σ.1 9) a b) i ∧ ri (s9.1 13) i = ri (ptI (σ.1 10) a c) i := fun i hi => ⟨(pa i hi).1.symm, (pa i hi).2.symm⟩
    have pb2 : ∀ h, h < (σ.1 16 0).toInt.toNat → ri (h3 (s9.1 14) 0) h = ri (h3 (σ.1 11) 0) h ∧ ri (h3 (s9.1 14) 1) h = ri (h3 (σ.1 11) 1) h ∧ ri (h3 (s9.1 14) 2) h = ri (h3 (σ.1 11) 2) h := fun i hi => ⟨(pb i hi).1.symm, (pb i hi).2.1.symm, (pb i hi).2.2.symm⟩
    rw [JUP_cp pa2 pb2] at u5
    have ld : LDP (σ.1 15 0).toInt.toNat (σ.1 16 0).toInt.toNat (ri (ptI (σ.1 9) a b)) (ri (ptI (σ.1 10) a c)) (ri (h3 (σ.1 11) 0)) (ri (h3 (σ.1 11) 1)) (ri (h3 (σ.1 11) 2)) ↔ LDP (σ.1 15 0).toInt.toNat (σ.1 16 0).toInt.toNat (ri (s9.1 12)) (ri (s9.1 13)) (ri (h3 (s9.1 14) 0)) (ri (h3 (s9.1 14) 1)) (ri (h3 (s9.1 14) 2)) := ⟨fun L => LDP.cp pa2 pb2 L, fun L => LDP.cp pa pb L⟩
    rw [← ld] at u5 u6
    refine ok_ite (fun c4 => ?_) (fun c4 => ?_)
    · rw [fa_le, k_0] at c4
      have L : LDP (σ.1 15 0).toInt.toNat (σ.1 16 0).toInt.toNat (ri (ptI (σ.1 9) a b)) (ri (ptI (σ.1 10) a c)) (ri (h3 (σ.1 11) 0)) (ri (h3 (σ.1 11) 1)) (ri (h3 (σ.1 11) 2)) := Classical.byContradiction fun q => by have := u6 q; omega
      refine ok_calv (t_takes u2 (u4 c4)) (fun v12 s12 w => ?_)
      obtain ⟨w1, w2, w3, w4, w5⟩ := w
      (try dsimp only at w1 w2 w3 w4 w5)
      obtain ⟨d1, d2, d3, d4⟩ := w5
      rw [u3.1 17 (by decide), r17, p15] at d1
      rw [u3.1 18 (by decide), r18, p16] at d2
      rw [u3.1 12 (by decide), u3.1 13 (by decide)] at d3
      rw [u3.1 14 (by decide)] at d4
      have hn : nC s12 = (σ.1 15 0).toInt.toNat := by show (s12.1 15 0).toInt.toNat = _; rw [d1]
      have hh : nH s12 = (σ.1 16 0).toInt.toNat := by show (s12.1 16 0).toInt.toNat = _; rw [d2]
      have hd : mk (σ.1 15 0).toInt.toNat (s12.1 20) = mk (σ.1 15 0).toInt.toNat (s10.1 19) := mk_cp (fun i hi => (d3 i (by omega)).2.2)
      have ea : ∀ i, i < (σ.1 15 0).toInt.toNat → sG s12 i = ri (ptI (σ.1 9) a b) i ∧ nM s12 i = ri (ptI (σ.1 10) a c) i := fun i hi => by
        unfold sG nM ri
        rw [(d3 i (by omega)).1, (d3 i (by omega)).2.1, q12 i (by omega), q13 i (by omega)]
        exact ⟨rfl, rfl⟩
      have eb : ∀ h, h < (σ.1 16 0).toInt.toNat → fR s12 h = ri (h3 (σ.1 11) 0) h ∧ uP s12 h = ri (h3 (σ.1 11) 1) h ∧ gO s12 h = ri (h3 (σ.1 11) 2) h := fun i hi => by
        unfold fR uP gO ri h3
        rw [d4 _ (by omega), d4 _ (by omega), d4 _ (by omega), r14 _ (by omega), r14 _ (by omega), r14 _ (by omega)]
        exact ⟨rfl, rfl, rfl⟩
      have nb : nB s12 = cbP (mk (nC s12) (s12.1 20)) (CUTC (nC s12) (nH s12) (sG s12) (nM s12) (fR s12) (uP s12) (gO s12) (mk (nC s12) (s12.1 20))) (nC s12) := w2.2.2.1.1
      rw [hn, hh, hd, cbP_cg (fun i _ => rfl) (fun i _ => CUTC.cp ea eb)] at nb
      refine ok_ret ⟨fun q => absurd L q, fun _ q hq2 => ?_⟩
      rw [← u5 L] at hq2
      subst hq2
      refine ⟨fun q => absurd (show v10.toInt = 0 by omega) q, fun _ => ⟨?_, ?_, ?_, ?_, fun i hi => ?_, fun i hi => ?_, hd, w2.1⟩⟩
      · show v12.toInt = _
        rw [w3, nb]
      · show (s12.1 21 0).toInt ≠ 0
        omega
      · show (s12.1 15 0).toInt = _
        rw [d1]
      · show (s12.1 16 0).toInt = _
        rw [d2]
      · exact ⟨(d3 i (by omega)).1.trans (q12 i (by omega)), (d3 i (by omega)).2.1.trans (q13 i (by omega))⟩
      · unfold h3
        exact ⟨(d4 _ (by omega)).trans (r14 _ (by omega)), (d4 _ (by omega)).trans (r14 _ (by omega)), (d4 _ (by omega)).trans (r14 _ (by omega))⟩
    · rw [fa_le, k_0] at c4
      have same : ∀ k, k ∈ LSM → s10.1 k = σ.1 k := fun k hk => f10.1 k (no_in rfl hk)
      refine ok_ret ⟨fun q => ⟨u6 q, same⟩, fun L q hq2 => ?_⟩
      rw [← u5 L] at hq2
      subst hq2
      exact ⟨fun _ => ⟨rfl, same⟩, fun q => absurd q (by omega)⟩
