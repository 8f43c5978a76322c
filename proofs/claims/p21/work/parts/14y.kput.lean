/-- what a judged text answers; as it was, or laid with these depths -/
def PVR (z w : Nat) (sg nm fr up go : Nat → Int) (v : Int) (same : Prop) (new : (Nat → Int) → Prop) : Prop := (¬ LDP z w sg nm fr up go → v = -2 ∧ same) ∧ (LDP z w sg nm fr up go → ∀ q, q = JUP z w sg nm fr up go → (q.1 ≠ 0 → v = q.1 ∧ same) ∧ (q.1 = 0 → v = (cbP q.2 (CUTC z w sg nm fr up go q.2) z : Int) ∧ new q.2))
abbrev ptI (r : Nat → Int32) (a v : Int32) : Nat → Int32 := fun i => if i = a.toNatClampNeg then v else r i
/-- the class's listing, patched and laid -/
def LNX (σ : Sto) (a b c : Int32) (s : Sto) (d : Nat → Int) : Prop := (s.1 0 0).toInt ≠ 0 ∧ (s.1 4 0).toInt = (σ.1 4 0).toInt ∧ (s.1 5 0).toInt = (σ.1 5 0).toInt ∧ (∀ i, i < (σ.1 4 0).toInt.toNat → s.1 6 i = ptI (σ.1 6) a b i ∧ s.1 7 i = ptI (σ.1 7) a c i) ∧ (∀ h, h < (σ.1 5 0).toInt.toNat → s.1 9 h = σ.1 9 h ∧ s.1 10 h = σ.1 10 h ∧ s.1 11 h = σ.1 11 h) ∧ mk (σ.1 4 0).toInt.toNat (s.1 8) = d ∧ BKX s ∧ BX s
theorem t_putX {σ : Sto} {a b c : Int32} (h : JI σ) (hl : (σ.1 0 0).toInt ≠ 0) (ha : 0 ≤ a.toInt) (ha2 : a.toInt < (σ.1 4 0).toInt) (hi : INS b.toInt c.toInt) : OK (f_X11_put a b c σ) (fun r => PVR (σ.1 4 0).toInt.toNat (σ.1 5 0).toInt.toNat (ri (ptI (σ.1 6) a b)) (ri (ptI (σ.1 7) a c)) (ri (σ.1 9)) (ri (σ.1 10)) (ri (σ.1 11)) r.1.toInt (∀ k, k ∈ LSX → r.2.1 k = σ.1 k) (LNX σ a b c r.2)) := by
  obtain ⟨hB, h1, h2, h3, h4, h5, h6, h7, h8, h9, h10, h11⟩ := h
  have k_0 : (0 : Int32).toInt = 0 := by decide +kernel
  have k_1 : (1 : Int32).toInt = 1 := by decide +kernel
  have g4 := gX_4 hB 0
  have g5 := gX_5 hB 0
  have ca := clamp_I ha
  unfold f_X11_put
  refine ok_ite (fun e => absurd (by rw [e]; exact k_0) hl) (fun _ => ?_)
  refine ok_ite (fun e => by rw [fa_lt, k_0] at e; omega) (fun _ => ?_)
  refine ok_ite (fun e => by rw [fa_le] at e; omega) (fun _ => ?_)
  refine ok_calp (ok_and s_X11_isInstruction (t_isInstruction (a := b) (b := c))) (fun v4 x => ?_)
  have v1 := x.2.2.mpr hi
  have hVI := x.1.2 v1
  have hVI2 := hVI.2
  refine ok_ite (fun e => by rw [fa_eq, k_0] at e; omega) (fun _ => ?_)
  have hq := h4 hl
  refine ok_cals (s_X3_copy_draft_listing (σ := σ) hB) (fun s6 y => ?_)
  obtain ⟨B6, F6, y1, y2, y3, y4⟩ := y
  have hDS6 : DS s6 := fun i hi => by have hi4 : (i : Int) < (σ.1 4 0).toInt := (by omega); have q := y3 i (by omega); rw [q.1, q.2.1]; exact (hq.2.1 i hi4).1
  refine ok_ix ⟨by omega, by omega⟩ ?_
  refine ok_lt fun s7 e7 => ?_
  have B7 : BX s7 := by rw [e7]; exact pX_14 B6 (by omega)
  refine ok_ix ⟨by omega, by omega⟩ ?_
  refine ok_lt fun s8 e8 => ?_
  have B8 : BX s8 := by rw [e8]; exact pX_15 B7 (by omega)
  have z8 : (s8.1 12 0).toInt = (σ.1 4 0).toInt := by rw [e8, e7]; exact y1
  have w8 : (s8.1 13 0).toInt = (σ.1 5 0).toInt := by rw [e8, e7]; exact y2
  have r14 : ∀ i, i < 40 → s8.1 14 i = ptI (σ.1 6) a b i := fun i hi => by
    rw [e8, sti_o (by decide), e7, sti_if]
    show _ = if i = a.toNatClampNeg then b else σ.1 6 i
    by_cases q : i = a.toNatClampNeg
    · rw [if_pos q, if_pos q]
    · rw [if_neg q, if_neg q, (y3 i hi).1]
  have r15 : ∀ i, i < 40 → s8.1 15 i = ptI (σ.1 7) a c i := fun i hi => by
    rw [e8, sti_if, e7, sti_o (by decide)]
    show _ = if i = a.toNatClampNeg then c else σ.1 7 i
    by_cases q : i = a.toNatClampNeg
    · rw [if_pos q, if_pos q]
    · rw [if_neg q, if_neg q, (y3 i hi).2.1]
  have r17 : ∀ h, h < 3 → s8.1 17 h = σ.1 9 h ∧ s8.1 18 h = σ.1 10 h ∧ s8.1 19 h = σ.1 11 h := fun i hi => by
    rw [e8, sti_o (by decide), sti_o (by decide), sti_o (by decide), e7, sti_o (by decide), sti_o (by decide), sti_o (by decide)]
    exact y4 i hi
  have hDS8 : DS s8 := fun i hi => by have hi6 : (i : Int) < (s6.1 12 0).toInt := (by omega); rw [show s8.1 14 = s7.1 14 by rw [e8]; rfl, show s8.1 15 = (sti s7 15 a.toNatClampNeg c).1 15 by rw [e8], e7, sti_if, sti_if]; by_cases q : i = a.toNatClampNeg; (rw [if_pos q, if_pos q]; exact hVI.1); (rw [if_neg q, if_neg q]; exact hDS6 i hi6)
  have F8 : FR [12, 13, 14, 15, 16, 17, 18, 19] [] σ s8 := by
    rw [e8]; refine FR.st ?_ (by decide)
    rw [e7]; exact FR.st F6 (by decide)
  refine ok_calv (s_X3_judge_draft (σ := s8) B8 (by omega)) (fun v9 s9 u => ?_)
  obtain ⟨u1, B9, F9, u2, u3⟩ := u
  (try dsimp only at u1 u2 u3)
  have pa : ∀ i, i < (σ.1 4 0).toInt.toNat → ri (ptI (σ.1 6) a b) i = ri (s8.1 14) i ∧ ri (ptI (σ.1 7) a c) i = ri (s8.1 15) i := fun i hi => by
    unfold ri; rw [r14 i (by omega), r15 i (by omega)]; exact ⟨rfl, rfl⟩
  have pb : ∀ h, h < (σ.1 5 0).toInt.toNat → ri (σ.1 9) h = ri (s8.1 17) h ∧ ri (σ.1 10) h = ri (s8.1 18) h ∧ ri (σ.1 11) h = ri (s8.1 19) h := fun i hi => by
    have := r17 i (by omega)
    unfold ri; rw [this.1, this.2.1, this.2.2]; exact ⟨rfl, rfl, rfl⟩
  have pa2 : ∀ i, i < (σ.1 4 0).toInt.toNat → ri (s8.1 14) i = ri (ptI (σ.1 6) a b) i ∧ ri (s8.1 15) i = ri (ptI (σ.1 7) a c) i := fun i hi => ⟨(pa i hi).1.symm, (pa i hi).2.symm⟩
  have pb2 : ∀ h, h < (σ.1 5 0).toInt.toNat → ri (s8.1 17) h = ri (σ.1 9) h ∧ ri (s8.1 18) h = ri (σ.1 10) h ∧ ri (s8.1 19) h = ri (σ.1 11) h := fun i hi => ⟨(pb i hi).1.symm, (pb i hi).2.1.symm, (pb i hi).2.2.symm⟩
  have DJ : DV s9 ∨ v9.toInt ≠ 0 := by
    by_cases q : v9.toInt = 0
    · exact Or.inl (DV.of (σ := s8) (v := v9.toInt) (by omega) hDS8 B8 q ⟨u2, u3⟩ (fun k h1 h2 h3 => F9.1 k (by simp; omega)))
    · exact Or.inr q
  rw [z8, w8] at u2 u3
  rw [JUP_cp pa2 pb2] at u2
  have ld : LDP (σ.1 4 0).toInt.toNat (σ.1 5 0).toInt.toNat (ri (ptI (σ.1 6) a b)) (ri (ptI (σ.1 7) a c)) (ri (σ.1 9)) (ri (σ.1 10)) (ri (σ.1 11)) ↔ LDP (σ.1 4 0).toInt.toNat (σ.1 5 0).toInt.toNat (ri (s8.1 14)) (ri (s8.1 15)) (ri (s8.1 17)) (ri (s8.1 18)) (ri (s8.1 19)) := ⟨fun L => LDP.cp pa2 pb2 L, fun L => LDP.cp pa pb L⟩
  rw [← ld] at u2 u3
  have F9' : FR [12, 13, 14, 15, 16, 17, 18, 19] [] σ s9 := FR.cal F8 F9 rfl rfl
  refine ok_ite (fun c2 => ?_) (fun c2 => ?_)
  · rw [fa_eq, k_0] at c2
    have L : LDP (σ.1 4 0).toInt.toNat (σ.1 5 0).toInt.toNat (ri (ptI (σ.1 6) a b)) (ri (ptI (σ.1 7) a c)) (ri (σ.1 9)) (ri (σ.1 10)) (ri (σ.1 11)) := Classical.byContradiction fun q => by have := u3 q; omega
    have AD := t_X11_adoptDraft (σ := s9) B9 (DJ.resolve_right (fun q => q c2)) (PI.fr F9' (by decide) h1) (SI.fr F9' (by decide) h2) (LI.fr F9' (by decide) h3) (FE.fr F9' (by decide) h5) (BV.fr F9' (by decide) h6)
    refine ok_cals (ok_and AD (ok_pc AD (Q := fun s => s.1 0 0 = 1) (fun a e => ad_1 e))) (fun s11 u => ?_)
    obtain ⟨⟨B11, _, _, _, _, _, _, _, _, _, _, _, _, ub, uc⟩, u0⟩ := u
    obtain ⟨d1, d2, d3, d4⟩ := uc
    rw [F9.1 12 (by decide), z8] at d1
    rw [F9.1 13 (by decide), w8] at d2
    rw [F9.1 14 (by decide), F9.1 15 (by decide)] at d3
    rw [F9.1 17 (by decide), F9.1 18 (by decide), F9.1 19 (by decide)] at d4
    have hd : mk (σ.1 4 0).toInt.toNat (s11.1 8) = mk (σ.1 4 0).toInt.toNat (s9.1 16) := mk_cp (fun i hi => (d3 i (by omega)).2.2)
    have nb := ub.1
    have ea : ∀ i, i < (σ.1 4 0).toInt.toNat → ri (s11.1 6) i = ri (ptI (σ.1 6) a b) i ∧ ri (s11.1 7) i = ri (ptI (σ.1 7) a c) i := fun i hi => by
      unfold ri; rw [(d3 i (by omega)).1, (d3 i (by omega)).2.1, r14 i (by omega), r15 i (by omega)]; exact ⟨rfl, rfl⟩
    have eb : ∀ h, h < (σ.1 5 0).toInt.toNat → ri (s11.1 9) h = ri (σ.1 9) h ∧ ri (s11.1 10) h = ri (σ.1 10) h ∧ ri (s11.1 11) h = ri (σ.1 11) h := fun i hi => by
      have q := d4 i (by omega)
      have r := r17 i (by omega)
      unfold ri; rw [q.1, q.2.1, q.2.2, r.1, r.2.1, r.2.2]; exact ⟨rfl, rfl, rfl⟩
    rw [d1, d2, hd, cbP_cg (fun i _ => rfl) (fun i _ => CUTC.cp ea eb)] at nb
    have g20 := gX_20 B11 0
    refine ok_ret ⟨fun q => absurd L q, fun _ q hq2 => ?_⟩
    rw [← u2 L] at hq2
    subst hq2
    refine ⟨fun q => absurd c2 q, fun _ => ⟨?_, ?_, d1, d2, fun i hi => ?_, fun i hi => ?_, hd, ub, B11⟩⟩
    · have e9 : (s11.1 20 0).toInt = ((s11.1 20 0).toInt.toNat : Int) := by
        have g : 0 ≤ (s11.1 20 0).toInt := g20.1
        omega
      exact e9.trans (congrArg (fun q : Nat => (q : Int)) nb)
    · show (s11.1 0 0).toInt ≠ 0
      rw [u0, k_1]; decide
    · exact ⟨(d3 i (by omega)).1.trans (r14 i (by omega)), (d3 i (by omega)).2.1.trans (r15 i (by omega))⟩
    · have q := d4 i (by omega)
      have r := r17 i (by omega)
      exact ⟨q.1.trans r.1, q.2.1.trans r.2.1, q.2.2.trans r.2.2⟩
  · rw [fa_eq, k_0] at c2
    have same : ∀ k, k ∈ LSX → s9.1 k = σ.1 k := fun k hk => F9'.1 k (no_in rfl hk)
    refine ok_ret ⟨fun q => ⟨u3 q, same⟩, fun L q hq2 => ?_⟩
    rw [← u2 L] at hq2
    subst hq2
    exact ⟨fun _ => ⟨rfl, same⟩, fun q => absurd q c2⟩
