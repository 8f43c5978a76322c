section
variable {n : Nat} {d : Nat → Int} {ct : Nat → Prop} {Q : Nat → Prop} {fi la ob fi2 la2 ob2 : Nat → Int} {nb nb2 : Nat}
/-- blocks are told by what they are cut of -/
theorem BKI.uq (h : BKI d ct n fi la ob nb) (g : BKI d ct n fi2 la2 ob2 nb2) (hx : NXP n d ct Q) : nb = nb2 ∧ (∀ b, b < nb → fi b = fi2 b ∧ la b = la2 b) ∧ ∀ i, i < n → ob i = ob2 i := by
  have e : nb = nb2 := h.1.trans g.1.symm
  subst e
  refine ⟨rfl, fun b hb => ?_, fun i hi => by rw [h.2.2.1 i hi, g.2.2.1 i hi]⟩
  obtain ⟨f, l, r1, r2, r3, r4, r5, r6, r7, r8, r9⟩ := h.blk hx hb
  obtain ⟨f2, l2, q1, q2, q3, q4, q5, q6, q7, q8, q9⟩ := g.blk hx hb
  have a := h.2.1 f (by omega) r5
  have b2 := g.2.1 f (by omega) r5
  rw [r6] at a b2
  refine ⟨a.trans b2.symm, ?_⟩
  obtain ⟨j, j1, j2, j3, j4, j5⟩ := h.2.2.2 b hb
  obtain ⟨k, k1, k2, k3, k4, k5⟩ := g.2.2.2 b hb
  have u1 : ¬ j < k := fun z => j5 k z k2 k3 k4
  have u2 : ¬ k < j := fun z => k5 j z j2 j3 j4
  rw [j1, k1, show j = k by omega]
end
theorem CAT.cp {n hs : Nat} {sg fr up go ob sg2 fr2 up2 go2 ob2 : Nat → Int} {f l : Nat} {v : Int} (a : ∀ i, i ≤ l → sg2 i = sg i) (b : ∀ h, h < hs → fr2 h = fr h ∧ up2 h = up h ∧ go2 h = go h) (c : ∀ i, i < n → ob2 i = ob i) (hl : ∀ h, h < hs → 0 ≤ go h ∧ go h < n) (h : CAT hs sg fr up go ob f l v) : CAT hs sg2 fr2 up2 go2 ob2 f l v := by
  have e : ∀ i, hoP hs fr2 up2 i = hoP hs fr up i := fun i => hoP_cp b
  rcases h with ⟨h1, h2⟩ | ⟨i, i1, i2, i3, i4⟩
  · refine Or.inl ⟨h1, fun i p q z => h2 i p q ?_⟩
    rw [a i q, e] at z
    exact z
  · refine Or.inr ⟨i, i1, i2, by rw [a i i2, e]; exact i3, ?_⟩
    have q := hl _ i3.2
    rw [i4, e, (b _ i3.2).2.2, c _ (by omega)]
/-- the reference's edges, told of its rows -/
def EDM (s : Sto) : Prop := (∃ V : EVt, V.1 = 0 ∧ EVw s 32 27 28 29 = edP (sG s) (nM s) (obR s) (laR s) (ri (s.1 25)) (nB s) V) ∧ ∀ b, b < nB s → caR s b (s.1 25 b).toInt
theorem EDM.cg {σ s : Sto} (h : EDM σ) (e : ∀ k, k ∈ ([9, 10, 11, 15, 16, 22, 23, 24, 25, 26, 27, 28, 29, 32] : List Nat) → s.1 k = σ.1 k) : EDM s := by
  obtain ⟨⟨V, h1, h2⟩, h3⟩ := h
  have n : nB s = nB σ := by unfold nB; rw [e 26 (by decide)]
  have l : laR s = laR σ := funext fun b => by unfold laR; rw [e 23 (by decide)]
  refine ⟨⟨V, h1, ?_⟩, fun b hb => ?_⟩
  · rw [EVw.cg (e 32 (by decide)) (e 27 (by decide)) (e 28 (by decide)) (e 29 (by decide)), h2, n, l]
    unfold sG nM obR
    rw [e 9 (by decide), e 10 (by decide), e 24 (by decide), e 25 (by decide)]
  · rw [n] at hb
    have q := h3 b hb
    unfold caR nH sG fR uP gO obR fiR laR at q ⊢
    rw [e 9 (by decide), e 11 (by decide), e 16 (by decide), e 22 (by decide), e 23 (by decide), e 24 (by decide), e 25 (by decide)]
    exact q
theorem LY4.low {σ : Sto} (h : LY4 σ) : ∃ s1 s2, f_X12_laysEdges s1 = some s2 ∧ (BM s1 ∧ QL s1 ∧ BK s1) ∧ (BM s2 ∧ ED s2) ∧ FR FE_ [] s1 s2 ∧ ∀ k, (9 ≤ k ∧ k ≤ 11) ∨ k = 15 ∨ k = 16 ∨ (20 ≤ k ∧ k ≤ 29) ∨ k = 32 → σ.1 k = s2.1 k := by
  obtain ⟨s7, b, ⟨s1, s2, s3, s4, s5, s6, t7, s8, s9, ⟨a0, a1, a2, a3, a4, a5⟩, ⟨b0, b1, b2, b3⟩, ⟨c0, c1, c2, c3⟩, ⟨d0, d1, d2, d3⟩, ⟨e0, e1, e2, e3⟩, ⟨f0, f1, f2, f3⟩, ⟨g0, g1, g2, g3⟩, ⟨h0, h1, h2⟩, ⟨i0, i1, i2⟩, ⟨j0, j1, j2⟩⟩, q⟩ := h.tr
  have nf : ∀ k, (9 ≤ k ∧ k ≤ 11) ∨ k = 15 ∨ k = 16 ∨ (20 ≤ k ∧ k ≤ 29) ∨ k = 32 → k ∉ FJ_ ∧ k ∉ ([33, 35] : List Nat) ∧ k ∉ ([34] : List Nat) := fun k hk => ⟨fun z => by simp [FJ_] at z; omega, fun z => by simp at z; omega, fun z => by simp at z; omega⟩
  have nl : ∀ k, (9 ≤ k ∧ k ≤ 11) ∨ k = 15 ∨ k = 16 ∨ (20 ≤ k ∧ k ≤ 29) ∨ k = 32 → k < 38 := fun k hk => by omega
  refine ⟨s1, s2, b0, ⟨a1, a3, a4⟩, ⟨b1, b3⟩, b2, fun k hk => ?_⟩
  rw [q.1 k (by simp only [km4, Bool.or_eq_true, Bool.and_eq_true, decide_eq_true_eq, beq_iff_eq]; omega), j2.bl (c := 38) rfl (nl k hk), i2.bl (c := 38) rfl (nl k hk), h2.bl (c := 38) rfl (nl k hk), g2.bl (c := 38) rfl (nl k hk), f2.1 k List.not_mem_nil, e2.1 k (nf k hk).2.2, d2.1 k (nf k hk).2.1, c2.1 k (nf k hk).1]
theorem LY4.edm {σ : Sto} (h : LY4 σ) : EDM σ := by
  obtain ⟨s1, s2, x, ⟨B1, Q1, K1⟩, _, f, r⟩ := h.low
  obtain ⟨⟨V, v1, v2⟩, v3⟩ := t_laysEdges B1 Q1 K1 _ x
  have e : ∀ k, k = 9 ∨ k = 10 ∨ k = 11 ∨ k = 15 ∨ k = 16 ∨ k = 22 ∨ k = 23 ∨ k = 24 ∨ k = 26 → s2.1 k = s1.1 k := fun k hk => f.1 k (fun z => by simp [FE_] at z; omega)
  have m : EDM s2 := by
    have n : nB s2 = nB s1 := by unfold nB; rw [e 26 (by decide)]
    have l : laR s2 = laR s1 := funext fun b => by unfold laR; rw [e 23 (by decide)]
    refine ⟨⟨V, v1, ?_⟩, fun b hb => ?_⟩
    · rw [v2, n, l]
      unfold sG nM obR
      rw [e 9 (by decide), e 10 (by decide), e 24 (by decide)]
    · rw [n] at hb
      have q := v3 b hb
      unfold caR nH sG fR uP gO obR fiR laR at q ⊢
      rw [e 9 (by decide), e 11 (by decide), e 16 (by decide), e 22 (by decide), e 23 (by decide), e 24 (by decide)]
      exact q
  exact m.cg (fun k hk => r k (by revert hk; revert k; decide))
/-- blocks and edges of both alike -/
def EQE (σ s : Sto) : Prop := (σ.1 20 0).toInt.toNat = nB s ∧ (∀ b, b < nB s → (σ.1 21 b).toInt = (s.1 22 b).toInt ∧ (σ.1 22 b).toInt = (s.1 23 b).toInt ∧ (σ.1 26 b).toInt = (s.1 25 b).toInt) ∧ (∀ i, i < nC s → (σ.1 23 i).toInt = (s.1 24 i).toInt) ∧ AGV (EVw σ 27 29 30 31) (EVw s 32 27 28 29)
theorem JT4.laid {σ s : Sto} (h : JT4 σ s) (hl : (σ.1 0 0).toInt ≠ 0) : AD4 σ ∧ LY4 s ∧ LAID s ∧ BKX σ ∧ (s.1 21 0).toInt ≠ 0 := by
  have q := h.2.resolve_left hl
  rcases h.1.2 with ⟨z, _⟩ | ⟨z1, z2, z3, z4, z5, z6, z7, z8⟩
  · exact absurd z hl
  · exact ⟨q.1, q.2, h.1.1.2.1.2.1.resolve_left z2, z8, z2⟩
theorem LAID.p {s : Sto} (h : LAID s) : BM s ∧ QL s ∧ BK s ∧ ED s := ⟨h.1, h.2.1, h.2.2.1, h.2.2.2.1⟩
theorem JT4.eqe {σ s : Sto} (h : JT4 σ s) (hl : (σ.1 0 0).toInt ≠ 0) : EQE σ s := by
  obtain ⟨A, L, D, K, hl2⟩ := h.laid hl
  obtain ⟨B, Q, KM, E⟩ := D.p
  rcases h.1.2 with ⟨z, _⟩ | ⟨z1, z2, z3, z4, z5, z6, z7, z8⟩
  · exact absurd z hl
  have nn : (σ.1 4 0).toInt.toNat = nC s := by rw [z3]
  have nh : (σ.1 5 0).toInt.toNat = nH s := by rw [z4]
  have ea : ∀ i, i < nC s → ri (σ.1 6) i = sG s i ∧ ri (σ.1 7) i = nM s i := fun i hi => by
    have q := z5 i hi
    unfold sG nM ri
    rw [q.1, q.2]
    exact ⟨rfl, rfl⟩
  have eh : ∀ i, i < nH s → ri (σ.1 9) i = fR s i ∧ ri (σ.1 10) i = uP s i ∧ ri (σ.1 11) i = gO s i := fun i hi => by
    have q := z6 i hi
    unfold fR uP gO ri
    rw [q.1, q.2.1, q.2.2]
    exact ⟨rfl, rfl, rfl⟩
  have dd : mk (nC s) (σ.1 8) = dP s := z7
  have ct : CUTC (nC s) (nH s) (ri (σ.1 6)) (ri (σ.1 7)) (ri (σ.1 9)) (ri (σ.1 10)) (ri (σ.1 11)) (dP s) = cT s := funext fun i => propext (CUTC.cp ea eh)
  have K2 : BKI (dP s) (cT s) (nC s) (ri (σ.1 21)) (ri (σ.1 22)) (ri (σ.1 23)) (σ.1 20 0).toInt.toNat := by
    have q := z8
    unfold BKX at q
    rw [nn, nh, dd, ct] at q
    exact q
  have R := Q.2.2.2
  have LD := Q.2.2.1
  obtain ⟨u1, u2, u3⟩ := K2.uq KM R.nx
  have fu : ∀ b, b < nB s → (σ.1 21 b).toInt = (s.1 22 b).toInt ∧ (σ.1 22 b).toInt = (s.1 23 b).toInt := fun b hb => u2 b (by rw [u1]; exact hb)
  have X := A.edx
  have M := L.edm
  obtain ⟨⟨V, v1, v2⟩, x3⟩ := X
  obtain ⟨⟨W, w1, w2⟩, m3⟩ := M
  rw [u1] at v2
  have cu : ∀ b, b < nB s → (σ.1 26 b).toInt = (s.1 25 b).toInt := fun b hb => by
    obtain ⟨k1, k2, k3, k4, k5, k6, k7, k8, k9⟩ := KM.at_ B Q hb
    have c1 := (v2.2.2.2.2.2 b hb).1
    have c2 := m3 b hb
    have fe : fiN σ b = fiR s b := by have := (fu b hb).1; show (σ.1 21 b).toInt.toNat = (s.1 22 b).toInt.toNat; rw [this]
    have le : laN σ b = laR s b := by have := (fu b hb).2; show (σ.1 22 b).toInt.toNat = (s.1 23 b).toInt.toNat; rw [this]
    unfold caX at c1
    rw [nh, fe, le] at c1
    have c3 : CAT (nH s) (sG s) (fR s) (uP s) (gO s) (obR s) (fiR s b) (laR s b) (σ.1 26 b).toInt := c1.cp (n := nC s) (fun i hi => (ea i (by omega)).1.symm) (fun h hh => ⟨(eh h hh).1.symm, (eh h hh).2.1.symm, (eh h hh).2.2.symm⟩) (fun i hi => (u3 i hi).symm) (fun h hh => by
      have q := LD.2 h hh
      have g11 := gM_11 B (3 * h + 2)
      have g : gO s h = (s.1 11 (3 * h + 2)).toInt := rfl
      rw [(eh h hh).2.2]
      omega)
    refine c3.uq c2 (hoP_blk (n := nC s) (sg := sG s) (nm := nM s) (go := gO s) (d := dP s) (fun h hh => ?_) (fun i h1 h2 z => ?_))
    · have ga := gM_11 B (3 * h + 0)
      have gb := gM_11 B (3 * h + 1)
      have g1 : fR s h = (s.1 11 (3 * h + 0)).toInt := rfl
      have g2 : uP s h = (s.1 11 (3 * h + 1)).toInt := rfl
      omega
    · have q := ((k8 i h1 (by omega)).2 h2).2
      exact bgP_f.mp q ⟨(k8 (i + 1) (by omega) (by omega)).1, Or.inl z⟩
  refine ⟨u1, fun b hb => ⟨(fu b hb).1, (fu b hb).2, cu b hb⟩, u3, ?_⟩
  rw [v2.1, w2]
  refine AGV.ed ⟨by rw [v1, w1], fun e he => by rw [v1] at he; exact absurd he (Nat.not_lt_zero _)⟩ (nB s) (fun b hb => ?_)
  obtain ⟨k1, k2, k3, k4, k5, k6, k7, k8, k9⟩ := KM.at_ B Q hb
  have le : laN σ b = laR s b := by have := (fu b hb).2; show (σ.1 22 b).toInt.toNat = (s.1 23 b).toInt.toNat; rw [this]
  have hd := (k8 (laR s b) k3 (Nat.le_refl _)).1
  have ok := Q.ok B k4 hd
  have e1 := ea (laR s b) k4
  unfold EQb
  rw [le]
  refine ⟨rfl, e1.1.symm, e1.2.symm, fun z => ?_, fun z => ?_, (cu b hb).symm⟩
  · rw [e1.1] at z
    exact (u3 _ (ok.2.2.1 z).1).symm
  · rw [e1.1] at z
    have ld := LD.1 _ k4 z
    rw [e1.2]
    exact (u3 _ (by omega)).symm
