theorem AG.cgj {V : EVt} {J J2 : Nat → Bool} {b : Nat} (h : AG V J b) (e : ∀ i, i < V.1 → J i = false → J2 i = false) : AG V J2 b := fun P p1 p2 => h P p1 (fun i hi ha => p2 i ⟨hi.1, e i hi.1 hi.2⟩ ha)
/-- all are come to, whatever was taken out -/
theorem JRS.ag {V : EVt} {nb : Nat} {J : Nat → Bool} {k : Int} (h : JRS V nb J k) (h0 : ∀ b, b < nb → AG V J0f b) : ∀ b, b < nb → AG V J b := by
  rcases h with ⟨h1, h2, h3⟩ | ⟨_, a, h1, h2, h3, h4, h5, h6⟩ | ⟨_, h0b, a, b, h1, h2, h3, h4, h5, h6, h7, h8, h9⟩ | ⟨_, h1, h2, h3, h4⟩
  · exact fun c hc => (h0 c hc).cgj (fun i hi _ => h3 i hi)
  · exact fun c hc => (h4.1 c hc).cgj (fun i hi z => by rw [h6 i hi]; exact z)
  · exact fun c hc => (h6.1 c hc).cgj (fun i hi z => by rw [h9 i hi]; exact z)
  · exact fun c hc => (h0 c hc).cgj (fun i hi _ => h4 i hi)
/-- the reference's order, and the ones above -/
theorem LY4.oab {s : Sto} (h : LY4 s) {V : EVt} {J : Nat → Bool} {n : Nat} {fE : Nat → Nat} (hE : PFE V n fE) (hg : EGM s V J n) (hn : 0 < n) (h26 : (s.1 26 0).toInt = (n : Int)) (hA : ∀ b, b < n → AG V J b) (hD : ∀ b, b < n → ∀ d, d < n → (bL (s.2 0 b) d = true ↔ DG V J d b)) : (∃ k S L R, dgo V J fE n k (dbeg fE) = ([], S, L, R) ∧ ∀ b r, R b = some r → (s.1 33 b).toInt = (r : Int)) ∧ ∀ b, b < n → ABP V J n b (s.1 34 b) := by
  obtain ⟨s7, bb, ⟨s1, s2, s3, s4, s5, s6, s7', t, s9, ⟨z1, B1, f1, Q1, K1, N1⟩, ⟨z2, B2, f2, E2⟩, ⟨z3, B3, f3, E3, J3, t3, G3⟩, ⟨z4, B4, f4, O4⟩, ⟨z5, B5, f5, A5⟩, ⟨z6, B6, f6, L6⟩, ⟨z7, B7, f7, S7⟩, ⟨z8, B8, f8⟩, ⟨z9, B9, f9⟩, ⟨z10, B10, f10⟩⟩, q⟩ := h.tr
  have f5b : FR [38, 39, 40, 41, 42, 43, 44, 45, 46, 47, 48, 49, 50, 51, 52, 53, 54, 55, 56, 57, 58, 59, 60, 61, 62, 63, 64] [1] s5 bb := FR.cal (FR.cal (FR.cal (FR.cal (FR.cal FR.rf f6 rfl rfl) f7 rfl rfl) f8 rfl rfl) f9 rfl rfl) f10 rfl rfl
  have q1 : ∀ k, 20 ≤ k → k < 38 → s.1 k = s5.1 k := fun k k1 k2 => by
    rw [q.1 k (by simp only [km4, Bool.or_eq_true, Bool.and_eq_true, decide_eq_true_eq, beq_iff_eq]; omega), f5b.1 k (by simp; omega)]
  have r4 : ∀ k, 20 ≤ k → k < 34 → s.1 k = s4.1 k := fun k k1 k2 => by rw [q1 k k1 (by omega), f5.1 k (by simp; omega)]
  have r3 : ∀ k, 20 ≤ k → k < 33 → s.1 k = s3.1 k := fun k k1 k2 => by rw [r4 k k1 (by omega), f4.1 k (by simp; omega)]
  have l4 : s.2 0 = s4.2 0 := by rw [q.2 0 (by decide), f5b.2 0 (by decide), f5.2 0 (by decide)]
  obtain ⟨g1, g2, g3⟩ := hg
  have O := m_order (σ := s3) hE ⟨by rw [← r3 32 (by omega) (by omega)]; exact g1, g2, fun e he => by rw [← r3 27 (by omega) (by omega), ← r3 28 (by omega) (by omega), ← r3 30 (by omega) (by omega)]; exact g3 e he⟩ hn (by rw [← r3 26 (by omega) (by omega)]; exact h26) _ z4
  have A := m_above_ (σ := s4) g2 (by rw [← r4 26 (by omega) (by omega)]; exact h26) hA (by rw [← l4]; exact hD) _ z5
  obtain ⟨_, k, S, L, R, o1, o2⟩ := O
  refine ⟨⟨k, S, L, R, o1, fun b r hb => by rw [r4 33 (by omega) (by omega)]; exact o2 b r hb⟩, fun b hb => by rw [q1 34 (by omega) (by omega)]; exact A.2 b hb⟩
/-- the class's -/
theorem AD4.abv {σ : Sto} (h : AD4 σ) (hr : ∀ e, e < (EVx σ).1 → gA (EVx σ) e < nX σ ∧ gB (EVx σ) e < nX σ) (hn : 0 < nX σ) (hn4 : nX σ ≤ 40) (hg : BX σ) (hA : ∀ b, b < nX σ → AG (EVx σ) J0f b) : (∀ b, b < nX σ → ABP (EVx σ) (Jx σ) (nX σ) b (σ.1 41 b)) ∧ ∀ i, bL (σ.2 4 0) i = true ↔ MGP (EVx σ) (Jx σ) (fun e => decide ((σ.1 38 e).toInt ≠ 0)) i := by
  have X := h.shx hr hn hA
  have ag := X.1.ag hA
  obtain ⟨s2, s3, ⟨b1, eV, eN⟩, r1, r2, r3, s8, s9, s11, s12, ⟨p1, p2, p3, p4⟩, ⟨q1, q2, q3⟩, ⟨w1, w2, w3⟩, ⟨u1, u2, u3⟩, ⟨o1, o2, o3⟩⟩ := h.frm hr hn hA
  have e12 : ∀ k, s3.1 k = s12.1 k := fun k => o3.1 k List.not_mem_nil
  have e11 : ∀ k, s12.1 k = s11.1 k := fun k => u3.1 k List.not_mem_nil
  have c12 : ∀ k, 20 ≤ k → k < 46 → s12.1 k = σ.1 k := fun k k1 k2 => by
    rw [← e12 k]
    by_cases z : k < 34
    · exact r2 k k1 z
    · exact (r1 k (by omega) k2).symm
  have g20 := gX_20 hg 0
  have g27 := gX_27 hg 0
  have hN : (nX σ : Int) = (σ.1 20 0).toInt := Int.toNat_of_nonneg g20.1
  have hV : ((EVx σ).1 : Int) = (σ.1 27 0).toInt := Int.toNat_of_nonneg g27.1
  have l9 : s9.2 1 = σ.2 1 := by rw [r3 1 (by decide), o3.2 1 (by decide), u3.2 1 (by decide), w3.2 1 (by decide)]
  have T := t_above (σ := s9) (V := EVx σ) (J := Jx σ) (n := nX σ) hn4 (by
    have e : s9.1 20 = σ.1 20 := by rw [← c12 20 (by omega) (by omega), e11, w3.1 20 (by decide)]
    rw [e]; exact hN.symm) ag (fun b hb i => by rw [l9]; exact X.2.1.2.2 b hb i) _ w1
  have M := t_merges (σ := s12) (V := EVx σ) (J := Jx σ) (Bk := fun e => decide ((σ.1 38 e).toInt ≠ 0)) (n := nX σ) hn4 (by rw [c12 27 (by omega) (by omega)]; exact hV.symm) (fun e he => by
    rw [c12 30 (by omega) (by omega)]
    exact ⟨(Int.toNat_of_nonneg (gX_30 hg e).1).symm, (hr e he).2⟩) (fun e he => by
    rw [c12 31 (by omega) (by omega)]
    show decide ((σ.1 31 e).toInt ≠ 0) = false ↔ _
    rw [decide_eq_false_iff_not]
    exact ⟨fun z => Classical.byContradiction z, fun z y => y z⟩) (fun e he => by rw [c12 37 (by omega) (by omega)]; exact Jx_f) (fun e he => by
    rw [c12 38 (by omega) (by omega)]
    show decide ((σ.1 38 e).toInt ≠ 0) = false ↔ _
    rw [decide_eq_false_iff_not]
    exact ⟨fun z => Classical.byContradiction z, fun z y => y z⟩) _ o1
  refine ⟨fun b hb => ?_, fun i => ?_⟩
  · rw [r1 41 (by omega) (by omega), e12, e11]
    exact T.2 b hb
  · rw [r3 4 (by decide)]
    exact M.2 i
/-- order, the one above, merges of both -/
def TRE (σ s : Sto) : Prop := (∀ b, b < nB s → (σ.1 40 b).toInt = (s.1 33 b).toInt ∧ σ.1 41 b = s.1 34 b) ∧ PRM (EVx σ) (Jx σ) (nB s) (ri (σ.1 39)) (ri (σ.1 40)) ∧ (∀ i, bL (σ.2 4 0) i = true ↔ MGP (EVx σ) (Jx σ) (fun e => decide ((σ.1 38 e).toInt ≠ 0)) i) ∧ (∀ b, b < nB s → ABP (EVx σ) (Jx σ) (nB s) b (σ.1 41 b)) ∧ (∀ e, e < nE s → gA (EVx σ) e < nB s ∧ gB (EVx σ) e < nB s) ∧ (∀ b, b < nB s → AG (EVx σ) (Jx σ) b) ∧ ∀ b, b < nB s → ∀ i, bL (σ.2 3 b) i = true → i < nB s
theorem JT4.tree {σ s : Sto} (h : JT4 σ s) (hl : (σ.1 0 0).toInt ≠ 0) : TRE σ s := by
  obtain ⟨A, L, D, K, hl2⟩ := h.laid hl
  obtain ⟨B, Q, KM, E⟩ := D.p
  obtain ⟨n, q2, q3, q4⟩ := h.eqe hl
  have hn : nX σ = nB s := n
  have hn1 : 1 ≤ nB s := D.2.2.2.2.2.2.2.2.2.2.1
  have hB := h.1.1.1.1
  have nB' := nB_le B
  have ab : ∀ e, e < (EVx σ).1 → gA (EVx σ) e = gA (EVm s) e ∧ gB (EVx σ) e = gB (EVm s) e := fun e he => by
    have q := q4.2 e he
    exact ⟨by show ((EVx σ).2.1 e).toNat = ((EVm s).2.1 e).toNat; rw [q.1], by show ((EVx σ).2.2.1 e).toNat = ((EVm s).2.2.1 e).toNat; rw [q.2.1]⟩
  have rows : ∀ e, e < nE s → (s.1 27 e).toInt = (gA (EVm s) e : Int) ∧ (s.1 28 e).toInt = (gB (EVm s) e : Int) ∧ gA (EVm s) e < nB s ∧ gB (EVm s) e < nB s := fun e he => by
    have x := E.1 e he
    have x1 : (s.1 27 e).toInt = eF s e := rfl
    have x2 : (s.1 28 e).toInt = eT s e := rfl
    have y1 : gA (EVm s) e = (s.1 27 e).toInt.toNat := rfl
    have y2 : gB (EVm s) e = (s.1 28 e).toInt.toNat := rfl
    have z1 := x.1
    have z2 := x.2.1
    omega
  have hrm : ∀ e, e < (EVm s).1 → gA (EVm s) e < nB s ∧ gB (EVm s) e < nB s := fun e he => (rows e he).2.2
  have hr : ∀ e, e < (EVx σ).1 → gA (EVx σ) e < nX σ ∧ gB (EVx σ) e < nX σ := fun e he => by
    rw [(ab e he).1, (ab e he).2, hn]
    exact hrm e (by rw [← q4.1]; exact he)
  have M := L.edm
  have hA : ∀ b, b < nX σ → AG (EVx σ) J0f b := fun b hb => (AG.all B Q KM E M b (by rw [← hn]; exact hb)).cgV q4.sy
  obtain ⟨S1, S2, S3, S4, X, R⟩ := h.shape hl
  have ag := X.1.ag hA
  have P := X.2.1.1
  obtain ⟨fE, k, S, L', R', o1, o2, o3⟩ := P.2.2.1.2
  have AB := A.abv hr (by omega) (by rw [hn]; exact nB'.1) hB hA
  have g32 := gM_32 B 0
  have e32 : (s.1 32 0).toInt = ((EVx σ).1 : Int) := by
    rw [q4.1]
    exact (Int.toNat_of_nonneg g32.1).symm
  have G : EGM s (EVx σ) (Jx σ) (nX σ) := ⟨e32, by rw [hn]; exact nB'.1, fun e he => by
    have he2 : e < nE s := by rw [q4.1] at he; exact he
    have r := rows e he2
    rw [(ab e he).1, (ab e he).2]
    refine ⟨r.1, r.2.1, ?_⟩
    rw [S2 e he2]
    exact Jm_f⟩
  have OA := L.oab o1 G (by omega) (by rw [hn]; exact nB'.2.symm) ag (fun b hb d hd => by
    rw [hn] at hb hd
    rw [← S4 b hb d hd]
    have dm := X.2.1.2.2 b (by rw [hn]; exact hb) d
    rw [dm, hn]
    exact ⟨fun z => z.2, fun z => ⟨hd, z⟩⟩)
  obtain ⟨⟨k2, T, L2, R2, x1, x2⟩, x3⟩ := OA
  have uq := dgo_uq o2 x1
  have uR : R' = R2 := (Prod.mk.inj (Prod.mk.inj uq).2).2
  refine ⟨fun b hb => ⟨?_, ?_⟩, by rw [hn] at P; exact P, AB.2, by rw [hn] at AB; exact AB.1, fun e he => by
    have he2 : e < (EVx σ).1 := by rw [q4.1]; exact he
    have := hr e he2
    rw [hn] at this
    exact this, by rw [hn] at ag; exact ag, fun b hb i z => by
    obtain ⟨e, k1, _, _, k4⟩ := ((A.lpx hr (by omega) hA).2 b (by rw [hn]; exact hb) i).mp z
    rw [← hn]
    exact k4 (fun x => x < nX σ) (by rw [hn]; exact hb) (hr e k1.1).1 (fun d hd _ _ => (hr d hd.1).1)⟩
  · obtain ⟨r, r1, r2⟩ := o3 b (by rw [hn]; exact hb)
    have z := x2 b r (by rw [← uR]; exact r1)
    have r2' : (σ.1 40 b).toInt = (r : Int) := r2
    rw [r2', z]
  · exact ABP.uq ag (AB.1 b (by rw [hn]; exact hb)) (x3 b (by rw [hn]; exact hb))
