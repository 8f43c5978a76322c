theorem JRS.cg {V W : EVt} {nb : Nat} {J : Nat → Bool} {k : Int} (hV : AGV V W) (h : JRS V nb J k) : JRS W nb J k := by
  have t : ∀ e, e < V.1 → V.2.2.2 e = W.2.2.2 e := fun e he => (hV.2 e he).2.2
  have g : ∀ J : Nat → Bool, GG V J nb ↔ GG W J nb := fun J => GG.cg hV (fun _ _ => rfl)
  unfold JRS at h ⊢
  rw [← hV.1]
  simp only [g] at h
  rcases h with ⟨h1, h2, h3⟩ | ⟨h0, a, h1, h2, h3, h4, h5, h6⟩ | ⟨h0, h0b, a, b, h1, h2, h3, h4, h5, h6, h7, h8, h9⟩ | ⟨h0, h1, h2, h3, h4⟩
  · exact Or.inl ⟨h1, h2, h3⟩
  · exact Or.inr (Or.inl ⟨h0, a, h1, h2, by rw [← t a h2]; exact h3, h4, fun e he ht => h5 e he (by rw [t e (by omega)]; exact ht), h6⟩)
  · exact Or.inr (Or.inr (Or.inl ⟨h0, fun e he ht => h0b e he (by rw [t e he]; exact ht), a, b, h1, h2, h3, by rw [← t a (by omega)]; exact h4, by rw [← t b h3]; exact h5, h6, fun c d y1 y2 y3 y4 y5 => h7 c d y1 y2 y3 (by rw [t c (by omega)]; exact y4) (by rw [t d y3]; exact y5), fun d y1 y2 y3 => h8 d y1 y2 (by rw [t d (by omega)]; exact y3), h9⟩))
  · exact Or.inr (Or.inr (Or.inr ⟨h0, fun e he ht => h1 e he (by rw [t e he]; exact ht), fun c d y1 y2 y3 y4 => h2 c d y1 y2 (by rw [t c (by omega)]; exact y3) (by rw [t d y2]; exact y4), h3, h4⟩))
theorem AG.cgV {V W : EVt} {J : Nat → Bool} {b : Nat} (hV : AGV V W) (h : AG V J b) : AG W J b := fun P p1 p2 => h P p1 (fun e he ha => by
  have q := hV.2 e he.1
  have ga : gA V e = gA W e := by show (V.2.1 e).toNat = (W.2.1 e).toNat; rw [q.1]
  have gb : gB V e = gB W e := by show (V.2.2.1 e).toNat = (W.2.2.1 e).toNat; rw [q.2.1]
  rw [gb]
  rw [ga] at ha
  exact p2 e ⟨by rw [← hV.1]; exact he.1, he.2⟩ ha)
theorem RG.cgV {V W : EVt} {J : Nat → Bool} {d b : Nat} (hV : AGV V W) (h : RG V J d b) : RG W J d b := fun P p1 p2 => h P p1 (fun e he ha hd => by
  have q := hV.2 e he.1
  have ga : gA V e = gA W e := by show (V.2.1 e).toNat = (W.2.1 e).toNat; rw [q.1]
  have gb : gB V e = gB W e := by show (V.2.2.1 e).toNat = (W.2.2.1 e).toNat; rw [q.2.1]
  rw [gb] at hd ⊢
  rw [ga] at ha
  exact p2 e ⟨by rw [← hV.1]; exact he.1, he.2⟩ ha hd)
theorem AGV.sy {V W : EVt} (h : AGV V W) : AGV W V := ⟨h.1.symm, fun e he => by
  have q := h.2 e (by rw [h.1]; exact he)
  exact ⟨q.1.symm, q.2.1.symm, q.2.2.symm⟩⟩
theorem DG.cgV {V W : EVt} {J : Nat → Bool} {d b : Nat} (hV : AGV V W) : DG V J d b ↔ DG W J d b := by
  unfold DG
  exact or_congr Iff.rfl (not_congr ⟨RG.cgV hV, RG.cgV hV.sy⟩)
/-- order, jumps, dominators, back edges of the class -/
def SHX (σ : Sto) : Prop := JRS (EVx σ) (nX σ) (Jx σ) (kX σ) ∧ LST σ ∧ ∀ e, e < (EVx σ).1 → ((σ.1 38 e).toInt ≠ 0 ↔ DG (EVx σ) (Jx σ) (gB (EVx σ) e) (gA (EVx σ) e))
theorem AD4.frm {σ : Sto} (h : AD4 σ) (hr : ∀ e, e < (EVx σ).1 → gA (EVx σ) e < nX σ ∧ gB (EVx σ) e < nX σ) (hn : 0 < nX σ) (hA : ∀ b, b < nX σ → AG (EVx σ) J0f b) : ∃ s2 s3, (BX s2 ∧ EVx s2 = EVx σ ∧ nX s2 = nX σ) ∧ (∀ k, 34 ≤ k → k < 46 → σ.1 k = s3.1 k) ∧ (∀ k, 20 ≤ k → k < 34 → s3.1 k = σ.1 k) ∧ (∀ l, l < 6 → σ.2 l = s3.2 l) ∧ FRM s2 s3 := by
  obtain ⟨s5, a, g, ⟨s1, s2, s3, s4, t, s6, s7, s8, ⟨a0, a1, a2, a3, a4, a5⟩, ⟨b0, b1, b2, b3, b4, b5, b6, b7, b8, b9, b10, b11⟩, ⟨c0, c1, c2, c3⟩, ⟨d0, d1, d2, d3⟩, ⟨e0, e1, e2⟩, ⟨f0, f1, f2⟩, ⟨g0, g1⟩, ⟨h0, h1⟩, i0⟩, q⟩ := h.tr
  have r3 : ∀ k, 20 ≤ k → k < 46 → σ.1 k = s3.1 k := fun k k1 k2 => by
    rw [q.1 k (by simp only [kx4, Bool.or_eq_true, Bool.and_eq_true, decide_eq_true_eq, beq_iff_eq]; omega), i0, sti_o (by omega), h1.bl (c := 46) rfl k2, g0, sti_o (by omega), f2.bl (c := 46) rfl k2, e2.bl (c := 46) rfl k2, d2.bl (c := 46) rfl k2]
  have r2 : ∀ k, 20 ≤ k → k < 34 → s2.1 k = σ.1 k := fun k k1 k2 => by
    rw [r3 k k1 (by omega), c2.bl (c := 34) rfl k2]
  have l3 : ∀ l, l < 6 → σ.2 l = s3.2 l := fun l hl => by
    have l8 : s8.2 l = s7.2 l := h1.2 l List.not_mem_nil
    rw [q.2 l, i0]
    show s8.2 l = _
    rw [l8, g0]
    show s6.2 l = _
    rw [f2.bll (c := 6) rfl hl, e2.2 l List.not_mem_nil, d2.2 l List.not_mem_nil]
  have eV : EVx s2 = EVx σ := EVw.cg (r2 27 (by decide) (by decide)) (r2 29 (by decide) (by decide)) (r2 30 (by decide) (by decide)) (r2 31 (by decide) (by decide))
  have eN : nX s2 = nX σ := by unfold nX; rw [r2 20 (by decide) (by decide)]
  have X2 : EDX s2 := (ok_get (u_X0_cut a1 a2 a3 a4) b0).2.2.2.2.2.2.2
  have F2 : FMX s2 := by
    refine ⟨⟨b1, b4, b7⟩, X2.pfe b1 (by rw [eV, eN]; exact hr), by rw [eN]; exact hn, fun e d he hd h1 h2 => ?_⟩
    obtain ⟨⟨V, _, v1, v2, v3, v4, v5, v6⟩, _⟩ := X2
    have n0 := gX_27 b1 0
    have he2 : e < (s2.1 27 0).toInt.toNat := he
    have hd2 : d < (s2.1 27 0).toInt.toNat := hd
    have h1 : (s2.1 29 e).toInt.toNat = (s2.1 29 d).toInt.toNat := h1
    have h2 : (s2.1 30 e).toInt.toNat = (s2.1 30 d).toInt.toNat := h2
    have x1 := gX_29 b1 e
    have x2 := gX_29 b1 d
    have x3 := gX_30 b1 e
    have x4 := gX_30 b1 d
    exact v5 e d (by omega) (by omega) (by omega) (by omega)
  have R := t_form F2 (by rw [eV, eN]; exact hA) s3 c0
  exact ⟨s2, s3, ⟨b1, eV, eN⟩, fun k k1 k2 => r3 k (by omega) k2, fun k k1 k2 => (r3 k k1 (by omega)).symm, l3, R⟩
theorem AD4.shx {σ : Sto} (h : AD4 σ) (hr : ∀ e, e < (EVx σ).1 → gA (EVx σ) e < nX σ ∧ gB (EVx σ) e < nX σ) (hn : 0 < nX σ) (hA : ∀ b, b < nX σ → AG (EVx σ) J0f b) : SHX σ := by
  obtain ⟨s2, s3, ⟨b1, eV, eN⟩, r1, r2, r3, s8, s9, s11, s12, ⟨p1, p2, p3, p4⟩, ⟨q1, q2, q3⟩, ⟨w1, w2, w3⟩, ⟨u1, u2, u3⟩, ⟨o1, o2, o3⟩⟩ := h.frm hr hn hA
  have e12 : ∀ k, s3.1 k = s12.1 k := fun k => o3.1 k List.not_mem_nil
  have e11 : ∀ k, s12.1 k = s11.1 k := fun k => u3.1 k List.not_mem_nil
  have r8 : ∀ k, k ≠ 38 ∧ k ≠ 41 → s3.1 k = s8.1 k := fun k hk => by
    rw [e12, e11, w3.1 k (by simp [hk]), q2.1 k (by simp [hk])]
  have r9 : s3.1 38 = s9.1 38 := by rw [e12, e11, w3.1 38 (by decide)]
  have l8 : ∀ l, l = 1 ∨ l = 5 → s3.2 l = s8.2 l := fun l hl => by
    rcases hl with z | z <;> subst z <;> rw [o3.2 _ (by decide), u3.2 _ (by decide), w3.2 _ (by decide), q2.2 _ (by decide)]
  have eJ : Jx σ = Jx s8 := by
    unfold Jx
    rw [r1 37 (by decide) (by decide), r8 37 (by decide)]
  have ek : kX σ = kX s8 := by
    unfold kX
    rw [r1 34 (by decide) (by decide), r8 34 (by decide), r1 36 (by decide) (by decide), r8 36 (by decide)]
  rw [eV, eN] at p3
  rw [eV] at q3
  have c8 : ∀ k, 20 ≤ k → k < 34 → σ.1 k = s8.1 k := fun k k1 k2 => by rw [← r2 k k1 k2, r8 k (by omega)]
  refine ⟨by rw [eJ, ek]; exact p3, p4.cg (c8 20 (by decide) (by decide)) (c8 27 (by decide) (by decide)) (c8 29 (by decide) (by decide)) (c8 30 (by decide) (by decide)) (c8 31 (by decide) (by decide)) (by rw [r1 37 (by decide) (by decide), r8 37 (by decide)]) (by rw [r1 39 (by decide) (by decide), r8 39 (by decide)]) (by rw [r1 40 (by decide) (by decide), r8 40 (by decide)]) (by rw [r3 1 (by decide), l8 1 (Or.inl rfl)]) (by rw [r3 5 (by decide), l8 5 (Or.inr rfl)]), fun e he => ?_⟩
  rw [eJ, r1 38 (by decide) (by decide), r9]
  exact q3 e he
theorem DBK.cg {σ s : Sto} (h : DOM σ σ ∧ BKe σ) (e26 : s.1 26 = σ.1 26) (e27 : s.1 27 = σ.1 27) (e28 : s.1 28 = σ.1 28) (e30 : s.1 30 = σ.1 30) (e31 : s.1 31 = σ.1 31) (e32 : s.1 32 = σ.1 32) (l0 : s.2 0 = σ.2 0) : DOM s s ∧ BKe s := by
  unfold DOM BKe RW KP nE nB eA eB at h ⊢
  rw [e26, e27, e28, e30, e31, e32, l0]; exact h
theorem LY4.jlm {s : Sto} (h : LY4 s) : JLM s s := by
  obtain ⟨s7, b, ⟨s1, s2, s3, s4, s5, s6, s7', t, s9, ⟨z1, B1, f1, Q1, K1, N1⟩, ⟨z2, B2, f2, E2⟩, ⟨z3, B3, f3, E3, J3, t3, G3⟩, ⟨z4, B4, f4, O4⟩, ⟨z5, B5, f5, A5⟩, ⟨z6, B6, f6, L6⟩, ⟨z7, B7, f7, S7⟩, ⟨z8, B8, f8⟩, ⟨z9, B9, f9⟩, ⟨z10, B10, f10⟩⟩, q⟩ := h.tr
  have n2 : nB s2 = nB s1 := by unfold nB; rw [f2.1 26 (by decide)]
  have R := (t_laysJumpsM B2 E2.efi (by omega) s3 z3).2
  have f4b : FR [33, 34, 35, 38, 39, 40, 41, 42, 43, 44, 45, 46, 47, 48, 49, 50, 51, 52, 53, 54, 55, 56, 57, 58, 59, 60, 61, 62, 63, 64] [1, 2] s3 b := FR.cal (FR.cal (FR.cal (FR.cal (FR.cal (FR.cal (FR.cal FR.rf f4 rfl rfl) f5 rfl rfl) f6 rfl rfl) f7 rfl rfl) f8 rfl rfl) f9 rfl rfl) f10 rfl rfl
  have r3 : ∀ k, (20 ≤ k ∧ k ≤ 32) ∨ k = 36 ∨ k = 37 → s.1 k = s3.1 k := fun k hk => by
    rw [q.1 k (by simp only [km4, Bool.or_eq_true, Bool.and_eq_true, decide_eq_true_eq, beq_iff_eq]; omega), f4b.1 k (by simp; omega)]
  have r2 : ∀ k, (20 ≤ k ∧ k ≤ 29) ∨ k = 32 → s.1 k = s2.1 k := fun k hk => by
    rw [r3 k (by omega), f3.1 k (by simp; omega)]
  have l0 : s.2 0 = s3.2 0 := by rw [q.2 0 (by decide), f4b.2 0 (by decide)]
  have eV : EVm s = EVm s2 := EVw.cg (r2 32 (by decide)) (r2 27 (by decide)) (r2 28 (by decide)) (r2 29 (by decide))
  have eN : nB s = nB s2 := by unfold nB; rw [r2 26 (by decide)]
  have eJ : Jm s = Jm s3 := by unfold Jm; rw [r3 30 (by decide)]
  obtain ⟨R1, R2, R3⟩ := R
  refine ⟨by rw [eV, eN, eJ, r3 36 (by decide)]; exact R1, ?_⟩
  exact DBK.cg ⟨R2, R3⟩ (r3 26 (by decide)) (r3 27 (by decide)) (r3 28 (by decide)) (r3 30 (by decide)) (r3 31 (by decide)) (r3 32 (by decide)) l0
/-- shape on both sides -/
def SHQ (σ s : Sto) : Prop := kX σ = (s.1 36 0).toInt ∧ (∀ e, e < nE s → Jx σ e = Jm s e) ∧ (∀ e, e < nE s → ((σ.1 38 e).toInt ≠ 0 ↔ (s.1 31 e).toInt ≠ 0)) ∧ (∀ b, b < nB s → ∀ i, i < nB s → (bL (σ.2 1 b) i = true ↔ bL (s.2 0 b) i = true)) ∧ SHX σ ∧ JLM s s
theorem JT4.shape {σ s : Sto} (h : JT4 σ s) (hl : (σ.1 0 0).toInt ≠ 0) : SHQ σ s := by
  obtain ⟨A, L, D, K, hl2⟩ := h.laid hl
  obtain ⟨B, Q, KM, E⟩ := D.p
  obtain ⟨n, q2, q3, q4⟩ := h.eqe hl
  have hn : nX σ = nB s := n
  have hn1 : 1 ≤ nB s := D.2.2.2.2.2.2.2.2.2.2.1
  have hB := h.1.1.1.1
  have ab : ∀ e, e < (EVx σ).1 → gA (EVx σ) e = gA (EVm s) e ∧ gB (EVx σ) e = gB (EVm s) e := fun e he => by
    have q := q4.2 e he
    exact ⟨by show ((EVx σ).2.1 e).toNat = ((EVm s).2.1 e).toNat; rw [q.1], by show ((EVx σ).2.2.1 e).toNat = ((EVm s).2.2.1 e).toNat; rw [q.2.1]⟩
  have hrm : ∀ e, e < (EVm s).1 → gA (EVm s) e < nB s ∧ gB (EVm s) e < nB s := fun e he => by
    have x := E.1 e he
    have x1 : (s.1 27 e).toInt = eF s e := rfl
    have x2 : (s.1 28 e).toInt = eT s e := rfl
    show (s.1 27 e).toInt.toNat < nB s ∧ (s.1 28 e).toInt.toNat < nB s
    have := x.1
    have := x.2.1
    omega
  have hr : ∀ e, e < (EVx σ).1 → gA (EVx σ) e < nX σ ∧ gB (EVx σ) e < nX σ := fun e he => by
    rw [(ab e he).1, (ab e he).2, hn]
    exact hrm e (by rw [← q4.1]; exact he)
  have M := L.edm
  have hA : ∀ b, b < nX σ → AG (EVx σ) J0f b := fun b hb => (AG.all B Q KM E M b (by rw [← hn]; exact hb)).cgV q4.sy
  have X := A.shx hr (by omega) hA
  have R := L.jlm
  obtain ⟨X1, X2, X3⟩ := id X
  obtain ⟨R1, R2, R3⟩ := id R
  have X1' : JRS (EVm s) (nB s) (Jx σ) (kX σ) := by rw [hn] at X1; exact X1.cg q4
  obtain ⟨u1, u2⟩ := X1'.uq R1
  have uJ : ∀ e, e < nE s → Jx σ e = Jm s e := u2
  have dg : ∀ {d b : Nat}, DG (EVx σ) (Jx σ) d b ↔ DG (EVm s) (Jm s) d b := fun {d b} => (DG.cgV q4).trans (DG.cgJ u2)
  have hF := E.efi
  refine ⟨u1, uJ, fun e he => ?_, fun b hb i hi => ?_, X, R⟩
  · have he2 : e < (EVx σ).1 := by rw [q4.1]; exact he
    rw [X3 e he2, dg, (ab e he2).1, (ab e he2).2, R3 e he]
    have f := hF e he
    have gd : bL (s.2 0 (eA s e)) (eB s e) = true ↔ DG (EVm s) (Jm s) (gB (EVm s) e) (gA (EVm s) e) := dom_g R2 f.1 f.2
    rw [gd]
    constructor
    · intro z
      refine ⟨KP_g.mpr ⟨he, ?_⟩, z⟩
      cases c : Jm s e with
      | false => rfl
      | true => exact absurd z (R1.nb (fun d hd => (hrm d hd).2) he c)
    · exact fun z => z.2
  · have dm := X2.2.2 b (by rw [hn]; exact hb) i
    rw [dm, dg, dom_g R2 hb hi, hn]
    exact ⟨fun z => z.2, fun z => ⟨hi, z⟩⟩
def B01 (P : Prop) (v : Int) : Prop := (v = 1 ∧ P) ∨ (v = 0 ∧ ¬ P)
theorem B01.uq {P Q : Prop} {v w : Int} (h : B01 P v) (g : B01 Q w) (e : P ↔ Q) : v = w := by
  rcases h with ⟨h1, h2⟩ | ⟨h1, h2⟩
  · rcases g with ⟨g1, g2⟩ | ⟨g1, g2⟩
    · omega
    · exact absurd (e.mp h2) g2
  · rcases g with ⟨g1, g2⟩ | ⟨g1, g2⟩
    · exact absurd (e.mpr g2) h2
    · omega
/-- what edge answers -/
def EDV (fr to : Int) (bk jp th : Prop) (b v : Int) : Prop := (b = 0 → v = fr) ∧ (b = 1 → v = to) ∧ (b = 2 → B01 bk v) ∧ (b = 3 → B01 jp v) ∧ (b = 4 → B01 th v)
theorem pc_b01 {σ : Sto} {x : Int32} {P : Int32 → Prop} (h : ∀ v : Int32, B01 (x.toInt ≠ 0) v.toInt → P v) : PC (if x = 0 then some (0 : Int32) else some (1 : Int32)) P := by
  have k_0 : (0 : Int32).toInt = 0 := by decide +kernel
  have k_1 : (1 : Int32).toInt = 1 := by decide +kernel
  refine pc_ite (fun c => pc_ret (h 0 ?_)) (fun c => pc_ret (h 1 ?_))
  · rw [fa_eq, k_0] at c
    exact Or.inr ⟨k_0, fun z => z c⟩
  · rw [fa_eq, k_0] at c
    exact Or.inl ⟨k_1, c⟩
theorem pc_b01m {t : Sto} {x : Int32} {P : Int32 × Sto → Prop} (h : ∀ v : Int32, B01 (x.toInt ≠ 0) v.toInt → P (v, t)) : PC (if x = 0 then some ((0 : Int32), t) else some ((1 : Int32), t)) P := by
  have k_0 : (0 : Int32).toInt = 0 := by decide +kernel
  have k_1 : (1 : Int32).toInt = 1 := by decide +kernel
  refine pc_ite (fun c => pc_ret (h 0 ?_)) (fun c => pc_ret (h 1 ?_))
  · rw [fa_eq, k_0] at c
    exact Or.inr ⟨k_0, fun z => z c⟩
  · rw [fa_eq, k_0] at c
    exact Or.inl ⟨k_1, c⟩
theorem t_edgeX {a b : Int32} {σ : Sto} : PC (f_X11_edge a b σ) (fun v => (¬ ((σ.1 0 0).toInt ≠ 0 ∧ (0 ≤ a.toInt ∧ a.toInt < (σ.1 27 0).toInt) ∧ 0 ≤ b.toInt ∧ b.toInt ≤ 4) → v = -1000000) ∧ (((σ.1 0 0).toInt ≠ 0 ∧ (0 ≤ a.toInt ∧ a.toInt < (σ.1 27 0).toInt) ∧ 0 ≤ b.toInt ∧ b.toInt ≤ 4) → EDV (σ.1 29 a.toNatClampNeg).toInt (σ.1 30 a.toNatClampNeg).toInt ((σ.1 38 a.toNatClampNeg).toInt ≠ 0) ((σ.1 37 a.toNatClampNeg).toInt ≠ 0) ((σ.1 31 a.toNatClampNeg).toInt ≠ 0) b.toInt v.toInt)) := by
  have k_0 : (0 : Int32).toInt = 0 := by decide +kernel
  unfold f_X11_edge
  refine pc_ite (fun c => pc_ret ⟨fun _ => rfl, fun z => absurd (by rw [fa_eq, k_0] at c; exact c) z.1⟩) (fun c1 => ?_)
  rw [fa_eq, k_0] at c1
  refine pc_ite (fun c => pc_ret ⟨fun _ => rfl, fun z => absurd z.2.1.1 (by rw [fa_lt, k_0] at c; omega)⟩) (fun c2 => ?_)
  rw [fa_lt, k_0] at c2
  refine pc_ite (fun c3 => ?_) (fun c => pc_ret ⟨fun _ => rfl, fun z => absurd z.2.1.2 (by rw [fa_lt] at c; exact c)⟩)
  rw [fa_lt] at c3
  have cd : 0 ≤ b.toInt ∧ b.toInt ≤ 4 → (σ.1 0 0).toInt ≠ 0 ∧ (0 ≤ a.toInt ∧ a.toInt < (σ.1 27 0).toInt) ∧ 0 ≤ b.toInt ∧ b.toInt ≤ 4 := fun z => ⟨c1, ⟨by omega, c3⟩, z⟩
  refine pc_ite (fun c => ?_) (fun d0 => ?_)
  · refine pc_ix (fun _ => pc_lt fun v e => pc_ret ⟨fun z => absurd (cd (by omega)) z, fun _ => ?_⟩)
    rw [e]
    exact ⟨fun _ => rfl, fun z => by omega, fun z => by omega, fun z => by omega, fun z => by omega⟩
  refine pc_ite (fun c => ?_) (fun d1 => ?_)
  · refine pc_ix (fun _ => pc_lt fun v e => pc_ret ⟨fun z => absurd (cd (by omega)) z, fun _ => ?_⟩)
    rw [e]
    exact ⟨fun z => by omega, fun _ => rfl, fun z => by omega, fun z => by omega, fun z => by omega⟩
  refine pc_ite (fun c => ?_) (fun d2 => ?_)
  · refine pc_ix (fun _ => pc_lt fun x e => pc_b01 (σ := σ) (fun v hv => ⟨fun z => absurd (cd (by omega)) z, fun _ => ?_⟩))
    rw [e] at hv
    exact ⟨fun z => by omega, fun z => by omega, fun _ => hv, fun z => by omega, fun z => by omega⟩
  refine pc_ite (fun c => ?_) (fun d3 => ?_)
  · refine pc_ix (fun _ => pc_lt fun x e => pc_b01 (σ := σ) (fun v hv => ⟨fun z => absurd (cd (by omega)) z, fun _ => ?_⟩))
    rw [e] at hv
    exact ⟨fun z => by omega, fun z => by omega, fun z => by omega, fun _ => hv, fun z => by omega⟩
  refine pc_ite (fun c => ?_) (fun d4 => pc_ret ⟨fun _ => rfl, fun z => by have := z.2.2; omega⟩)
  · refine pc_ix (fun _ => pc_lt fun x e => pc_b01 (σ := σ) (fun v hv => ⟨fun z => absurd (cd (by omega)) z, fun _ => ?_⟩))
    rw [e] at hv
    exact ⟨fun z => by omega, fun z => by omega, fun z => by omega, fun z => by omega, fun _ => hv⟩
theorem t_edgeM {a b : Int32} {s : Sto} (hB : BM s) : PC (f_X12_edge a b s) (fun r => (¬ ((s.1 21 0).toInt ≠ 0 ∧ (0 ≤ a.toInt ∧ a.toInt < (s.1 32 0).toInt) ∧ 0 ≤ b.toInt ∧ b.toInt ≤ 4) → r.1 = -1000000) ∧ (((s.1 21 0).toInt ≠ 0 ∧ (0 ≤ a.toInt ∧ a.toInt < (s.1 32 0).toInt) ∧ 0 ≤ b.toInt ∧ b.toInt ≤ 4) → EDV (s.1 27 a.toNatClampNeg).toInt (s.1 28 a.toNatClampNeg).toInt ((s.1 31 a.toNatClampNeg).toInt ≠ 0) ((s.1 30 a.toNatClampNeg).toInt ≠ 0) ((s.1 29 a.toNatClampNeg).toInt ≠ 0) b.toInt r.1.toInt)) := by
  have k_0 : (0 : Int32).toInt = 0 := by decide +kernel
  have k4 : (4 : Int64).toInt = 4 := by decide +kernel
  have g := gM_32 hB 0
  unfold f_X12_edge
  refine pc_lt fun s1 e1 => ?_
  have fr : ∀ {k : Nat}, k ≠ 0 → s1.1 k = s.1 k := fun {k} hk => by rw [e1]; exact sti_o hk
  rw [fr (show (21 : Nat) ≠ 0 by decide), fr (show (32 : Nat) ≠ 0 by decide)]
  refine pc_ite (fun c => pc_ret ⟨fun _ => rfl, fun z => absurd (by rw [fa_eq, k_0] at c; exact c) z.1⟩) (fun c1 => ?_)
  rw [fa_eq, k_0] at c1
  refine pc_calp (pc_ok s_isIn) (fun v3 q => ?_)
  rw [Int32.toInt_toInt64, Int32.toInt_toInt64, i64_0, i32_m1 g.1] at q
  refine pc_ite (fun c => pc_ret ⟨fun _ => rfl, fun z => by rw [fa_eq, k_0] at c; have := z.2.1; exact absurd c (q.2.mpr (by omega))⟩) (fun c2 => ?_)
  rw [fa_eq, k_0] at c2
  have xb := q.2.mp c2
  refine pc_calp (pc_ok s_isIn) (fun v5 q5 => ?_)
  rw [Int32.toInt_toInt64, i64_0, k4] at q5
  refine pc_ite (fun c => pc_ret ⟨fun _ => rfl, fun z => by rw [fa_eq, k_0] at c; exact absurd c (q5.2.mpr z.2.2)⟩) (fun c3 => ?_)
  rw [fa_eq, k_0] at c3
  have yb := q5.2.mp c3
  have cd : (s.1 21 0).toInt ≠ 0 ∧ (0 ≤ a.toInt ∧ a.toInt < (s.1 32 0).toInt) ∧ 0 ≤ b.toInt ∧ b.toInt ≤ 4 := ⟨c1, by omega, yb⟩
  refine pc_ite (fun c => ?_) (fun d0 => ?_)
  · refine pc_ix (fun _ => pc_lt fun v e => pc_ret ⟨fun z => absurd cd z, fun _ => ?_⟩)
    rw [fr (by decide)] at e
    rw [e]
    exact ⟨fun _ => rfl, fun z => by omega, fun z => by omega, fun z => by omega, fun z => by omega⟩
  refine pc_ite (fun c => ?_) (fun d1 => ?_)
  · refine pc_ix (fun _ => pc_lt fun v e => pc_ret ⟨fun z => absurd cd z, fun _ => ?_⟩)
    rw [fr (by decide)] at e
    rw [e]
    exact ⟨fun z => by omega, fun _ => rfl, fun z => by omega, fun z => by omega, fun z => by omega⟩
  refine pc_ite (fun c => ?_) (fun d2 => ?_)
  · refine pc_ix (fun _ => pc_lt fun x e => pc_b01m (fun v hv => ⟨fun z => absurd cd z, fun _ => ?_⟩))
    rw [fr (by decide)] at e
    rw [e] at hv
    exact ⟨fun z => by omega, fun z => by omega, fun _ => hv, fun z => by omega, fun z => by omega⟩
  refine pc_ite (fun c => ?_) (fun d3 => ?_)
  · refine pc_ix (fun _ => pc_lt fun x e => pc_b01m (fun v hv => ⟨fun z => absurd cd z, fun _ => ?_⟩))
    rw [fr (by decide)] at e
    rw [e] at hv
    exact ⟨fun z => by omega, fun z => by omega, fun z => by omega, fun _ => hv, fun z => by omega⟩
  · refine pc_ix (fun _ => pc_lt fun x e => pc_b01m (fun v hv => ⟨fun z => absurd cd z, fun _ => ?_⟩))
    rw [fr (by decide)] at e
    rw [e] at hv
    exact ⟨fun z => by omega, fun z => by omega, fun z => by omega, fun z => by omega, fun _ => hv⟩
theorem EDV.uq {fr to fr2 to2 : Int} {bk jp th bk2 jp2 th2 : Prop} {b v w : Int} (h : EDV fr to bk jp th b v) (g : EDV fr2 to2 bk2 jp2 th2 b w) (e1 : fr = fr2) (e2 : to = to2) (e3 : bk ↔ bk2) (e4 : jp ↔ jp2) (e5 : th ↔ th2) (b0 : 0 ≤ b) (b4 : b ≤ 4) : v = w := by
  obtain ⟨h0, h1, h2, h3_, h4⟩ := h
  obtain ⟨g0, g1, g2, g3, g4⟩ := g
  by_cases c0 : b = 0
  · rw [h0 c0, g0 c0, e1]
  by_cases c1 : b = 1
  · rw [h1 c1, g1 c1, e2]
  by_cases c2 : b = 2
  · exact (h2 c2).uq (g2 c2) e3
  by_cases c3 : b = 3
  · exact (h3_ c3).uq (g3 c3) e4
  · exact (h4 (by omega)).uq (g4 (by omega)) e5
theorem R_edge {σ s : Sto} (h : JT4 σ s) (a b : Int32) : ∃ v s2, f_X11_edge a b σ = some v ∧ f_X12_edge a b s = some (v, s2) ∧ JT4 σ s2 := by
  obtain ⟨v, w, s2, x, y, z⟩ := Q_edge h a b
  refine ⟨v, s2, x, ?_, z⟩
  have e : v = w := by
    have X := t_edgeX _ x
    have M := t_edgeM h.1.1.2.1.1 _ y
    (try dsimp only at M)
    rcases h.ld with ⟨l1, l2⟩ | ⟨l1, l2⟩
    · rw [X.1 (fun z => z.1 l1), M.1 (fun z => z.1 l2)]
    · obtain ⟨n, q2, q3, q4⟩ := h.eqe l1
      have S := h.shape l1
      have gx := gX_27 h.1.1.1.1 0
      have gm := gM_32 h.1.1.2.1.1 0
      have ne : (σ.1 27 0).toInt.toNat = (s.1 32 0).toInt.toNat := q4.1
      by_cases c : (0 ≤ a.toInt ∧ a.toInt < (σ.1 27 0).toInt) ∧ 0 ≤ b.toInt ∧ b.toInt ≤ 4
      · have c2 : (0 ≤ a.toInt ∧ a.toInt < (s.1 32 0).toInt) ∧ 0 ≤ b.toInt ∧ b.toInt ≤ 4 := ⟨by omega, c.2⟩
        have ca := clamp_I c.1.1
        have hi : a.toNatClampNeg < nE s := by unfold nE; omega
        have q := q4.2 a.toNatClampNeg (show a.toNatClampNeg < (σ.1 27 0).toInt.toNat by omega)
        refine Int32.toInt_inj.mp ((X.2 ⟨l1, c⟩).uq (M.2 ⟨l2, c2⟩) q.1 q.2.1 (S.2.2.1 _ hi) ?_ ?_ c.2.1 c.2.2)
        · have := S.2.1 _ hi
          exact decide_eq_decide.mp this
        · exact decide_eq_decide.mp q.2.2
      · rw [X.1 (fun z => c z.2), M.1 (fun z => c ⟨by have := z.2.1; omega, z.2.2⟩)]
  rw [e]; exact y
theorem t_domX {a b : Int32} {σ : Sto} (g : (σ.1 20 0).toInt ≤ 40) : PC (f_X11_dominates a b σ) (fun v => B01 ((((σ.1 0 0).toInt ≠ 0 ∧ 0 ≤ a.toInt ∧ a.toInt < (σ.1 20 0).toInt) ∧ (σ.1 0 0).toInt ≠ 0 ∧ 0 ≤ b.toInt ∧ b.toInt < (σ.1 20 0).toInt) ∧ bL (σ.2 1 b.toNatClampNeg) a.toNatClampNeg = true) v.toInt) := by
  have k_0 : (0 : Int32).toInt = 0 := by decide +kernel
  have k_1 : (1 : Int32).toInt = 1 := by decide +kernel
  unfold f_X11_dominates
  refine pc_calp t_isBlockX (fun v1 q1 => ?_)
  refine pc_jnI0 (¬ ((((σ.1 0 0).toInt ≠ 0 ∧ 0 ≤ a.toInt ∧ a.toInt < (σ.1 20 0).toInt) ∧ (σ.1 0 0).toInt ≠ 0 ∧ 0 ≤ b.toInt ∧ b.toInt < (σ.1 20 0).toInt) ∧ bL (σ.2 1 b.toNatClampNeg) a.toNatClampNeg = true)) (fun z => pc_ret (Or.inr ⟨k_0, z⟩)) (fun k hk => ?_)
  refine pc_ite (fun c => hk (fun z => ?_)) (fun c1 => ?_)
  · rw [fa_eq, k_0] at c
    exact q1.mpr z.1.1 c
  rw [fa_eq, k_0] at c1
  refine pc_calp t_isBlockX (fun v4 q4 => ?_)
  refine pc_ite (fun c => hk (fun z => ?_)) (fun c2 => ?_)
  · rw [fa_eq, k_0] at c
    exact q4.mpr z.1.2 c
  rw [fa_eq, k_0] at c2
  have p1 := q1.mp c1
  have p2 := q4.mp c2
  refine pc_ix (fun _ => ?_)
  refine pc_lt fun v6 e6 => ?_
  refine pc_calp (t_isInB (x := v6) (i := a) p1.2.1 (by omega)) (fun v7 q7 => ?_)
  rw [e6] at q7
  refine pc_ite (fun c => hk (fun z => q7.mp c z.2)) (fun c => pc_ret (Or.inl ⟨k_1, ⟨p1, p2⟩, Classical.byContradiction fun z => c (q7.mpr z)⟩))
theorem t_domM {a b : Int32} {s : Sto} (hB : BM s) : PC (f_X12_dominates a b s) (fun r => B01 ((((s.1 21 0).toInt ≠ 0 ∧ 0 ≤ a.toInt ∧ a.toInt < (s.1 26 0).toInt) ∧ (s.1 21 0).toInt ≠ 0 ∧ 0 ≤ b.toInt ∧ b.toInt < (s.1 26 0).toInt) ∧ bL (s.2 0 b.toNatClampNeg) a.toNatClampNeg = true) r.1.toInt) := by
  have k_0 : (0 : Int32).toInt = 0 := by decide +kernel
  have k_1 : (1 : Int32).toInt = 1 := by decide +kernel
  have g := gM_26 hB 0
  unfold f_X12_dominates
  refine pc_lt fun s1 e1 => ?_
  have B1 : BM s1 := by rw [e1]; exact pM_0 hB (by omega)
  have fr : ∀ {k : Nat}, k ≠ 0 → s1.1 k = s.1 k := fun {k} hk => by rw [e1]; exact sti_o hk
  refine pc_calp (t_isBlockM B1) (fun v1 q1 => ?_)
  rw [fr (show (21 : Nat) ≠ 0 by decide), fr (show (26 : Nat) ≠ 0 by decide)] at q1
  refine pc_jnI0 (¬ ((((s.1 21 0).toInt ≠ 0 ∧ 0 ≤ a.toInt ∧ a.toInt < (s.1 26 0).toInt) ∧ (s.1 21 0).toInt ≠ 0 ∧ 0 ≤ b.toInt ∧ b.toInt < (s.1 26 0).toInt) ∧ bL (s.2 0 b.toNatClampNeg) a.toNatClampNeg = true)) (fun z => pc_ret (Or.inr ⟨k_0, z⟩)) (fun k hk => ?_)
  refine pc_ite (fun c => hk (fun z => ?_)) (fun c1 => ?_)
  · rw [fa_eq, k_0] at c
    exact q1.mpr z.1.1 c
  rw [fa_eq, k_0] at c1
  refine pc_calp (t_isBlockM B1) (fun v4 q4 => ?_)
  rw [fr (show (21 : Nat) ≠ 0 by decide), fr (show (26 : Nat) ≠ 0 by decide)] at q4
  refine pc_ite (fun c => hk (fun z => ?_)) (fun c2 => ?_)
  · rw [fa_eq, k_0] at c
    exact q4.mpr z.1.2 c
  rw [fa_eq, k_0] at c2
  have p1 := q1.mp c1
  have p2 := q4.mp c2
  refine pc_ix (fun _ => ?_)
  refine pc_lt fun v6 e6 => ?_
  have e6' : v6 = s.2 0 b.toNatClampNeg := by rw [e6, e1]; rfl
  refine pc_calp (t_hasM (x := v6) (v := a) p1.2.1 (by omega)) (fun v7 q7 => ?_)
  rw [e6'] at q7
  refine pc_ite (fun c => hk (fun z => ?_)) (fun c => pc_ret (Or.inl ⟨k_1, ⟨p1, p2⟩, ?_⟩))
  · have := q7.mp c
    rw [z.2] at this
    exact absurd this (by decide)
  · cases y : bL (s.2 0 b.toNatClampNeg) a.toNatClampNeg with
    | true => rfl
    | false => exact absurd (q7.mpr y) c
theorem R_dominates {σ s : Sto} (h : JT4 σ s) (a b : Int32) : ∃ v s2, f_X11_dominates a b σ = some v ∧ f_X12_dominates a b s = some (v, s2) ∧ JT4 σ s2 := by
  obtain ⟨v, w, s2, x, y, z⟩ := Q_dominates h a b
  refine ⟨v, s2, x, ?_, z⟩
  have e : v = w := by
    have g20 := gX_20 h.1.1.1.1 0
    have X := t_domX g20.2 _ x
    have M := t_domM h.1.1.2.1.1 _ y
    (try dsimp only at M)
    refine Int32.toInt_inj.mp (X.uq M ?_)
    rcases h.ld with ⟨l1, l2⟩ | ⟨l1, l2⟩
    · exact ⟨fun z => absurd l1 z.1.1.1, fun z => absurd l2 z.1.1.1⟩
    · obtain ⟨n, ag, hr, hb, B, g40, E⟩ := h.graph l1
      have S := h.shape l1
      have nB' : (nB s : Int) = (s.1 26 0).toInt := Int.toNat_of_nonneg (gM_26 B 0).1
      rw [n]
      constructor
      · rintro ⟨⟨⟨_, z1, z2⟩, _, z3, z4⟩, z5⟩
        have c1 := clamp_I z1
        have c2 := clamp_I z3
        exact ⟨⟨⟨l2, z1, z2⟩, l2, z3, z4⟩, (S.2.2.2.1 _ (by omega) _ (by omega)).mp z5⟩
      · rintro ⟨⟨⟨_, z1, z2⟩, _, z3, z4⟩, z5⟩
        have c1 := clamp_I z1
        have c2 := clamp_I z3
        exact ⟨⟨⟨l1, z1, z2⟩, l1, z3, z4⟩, (S.2.2.2.1 _ (by omega) _ (by omega)).mpr z5⟩
  rw [e]; exact y
