theorem ok_and {α : Type} {o : Option α} {P Q : α → Prop} (h : OK o P) (g : OK o Q) : OK o (fun a => P a ∧ Q a) := by
  obtain ⟨a, h1, h2⟩ := h
  obtain ⟨b, g1, g2⟩ := g
  rw [h1] at g1
  have := Option.some.inj g1
  subst this
  exact ⟨a, h1, h2, g2⟩
section
variable {n hs : Nat} {sg nm fr up go sg2 nm2 fr2 up2 go2 : Nat → Int}
theorem goP3_cp (a : ∀ i, i < n → sg2 i = sg i ∧ nm2 i = nm i) (b : ∀ h, h < hs → fr2 h = fr h ∧ up2 h = up h ∧ go2 h = go h) {i : Nat} (hi : i < n) (d : Nat → Int) : goP3 hs sg2 fr2 up2 go2 i d = goP3 hs sg fr up go i d := by
  have e := hoP_cp (i := i) b
  unfold goP3
  rw [(a i hi).1, e]
  by_cases c : cThI (sg i) ∧ hoP hs fr up i < hs
  · rw [if_pos c, if_pos c, (b _ c.2).2.2]
  · rw [if_neg c, if_neg c]
theorem goP2_cp (a : ∀ i, i < n → sg2 i = sg i ∧ nm2 i = nm i) (b : ∀ h, h < hs → fr2 h = fr h ∧ up2 h = up h ∧ go2 h = go h) {i : Nat} (hi : i < n) (x : Int) (d : Nat → Int) : goP2 hs sg2 nm2 fr2 up2 go2 i x d = goP2 hs sg nm fr up go i x d := by
  unfold goP2
  rw [(a i hi).1, (a i hi).2, goP3_cp a b hi, goP3_cp a b hi]
theorem goP_cp (a : ∀ i, i < n → sg2 i = sg i ∧ nm2 i = nm i) (b : ∀ h, h < hs → fr2 h = fr h ∧ up2 h = up h ∧ go2 h = go h) {i : Nat} (hi : i < n) (d : Nat → Int) : goP n hs sg2 nm2 fr2 up2 go2 i d = goP n hs sg nm fr up go i d := by
  unfold goP
  rw [(a i hi).1, goP2_cp a b hi, goP2_cp a b hi]
theorem juP_cp (a : ∀ i, i < n → sg2 i = sg i ∧ nm2 i = nm i) (b : ∀ h, h < hs → fr2 h = fr h ∧ up2 h = up h ∧ go2 h = go h) : ∀ (f : Nat) (g : Nat → Bool) (d : Nat → Int), juP n hs sg2 nm2 fr2 up2 go2 f g d = juP n hs sg nm fr up go f g d
  | 0, _, _ => rfl
  | f + 1, g, d => by
    unfold juP
    by_cases q : loP n d g = n
    · rw [if_pos q, if_pos q]
    · have lt : loP n d g < n := Nat.lt_of_le_of_ne (fsP_le _ n) q
      rw [if_neg q, if_neg q, goP_cp a b lt, juP_cp a b f]
theorem JUP_cp (a : ∀ i, i < n → sg2 i = sg i ∧ nm2 i = nm i) (b : ∀ h, h < hs → fr2 h = fr h ∧ up2 h = up h ∧ go2 h = go h) : JUP n hs sg2 nm2 fr2 up2 go2 = JUP n hs sg nm fr up go := juP_cp a b _ _ _
end
/-- whether a tape is a code that is right -/
def CDP (n : Nat) (c : Nat → Int) : Prop := (paT n c).1 = 1 ∧ LDP (paQ n c).2.2.1 (paR n c).2.2.1 (paQ n c).2.2.2.1 (paQ n c).2.2.2.2 (paR n c).2.2.2.1 (paR n c).2.2.2.2.1 (paR n c).2.2.2.2.2 ∧ (JUP (paQ n c).2.2.1 (paR n c).2.2.1 (paQ n c).2.2.2.1 (paQ n c).2.2.2.2 (paR n c).2.2.2.1 (paR n c).2.2.2.2.1 (paR n c).2.2.2.2.2).1 = 0
/-- the verdict of a judge over rows that say what was read -/
theorem CDP.of {n : Nat} {c : Nat → Int} {z w : Nat} {r1 r2 r3 r4 r5 q1 q2 q3 q4 q5 : Nat → Int32} {v : Int} {e : Nat → Int} (ht : (paT n c).1 = 1) (hq : EqQ n c z (mk0 z r1) (mk0 z r2)) (hr : EqR n c w (mk0 w r3) (mk0 w r4) (mk0 w r5)) (h1 : ∀ i, i < z → q1 i = r1 i ∧ q2 i = r2 i) (h2 : ∀ h, h < w → q3 h = r3 h ∧ q4 h = r4 h ∧ q5 h = r5 h) (j1 : LDP z w (ri q1) (ri q2) (ri q3) (ri q4) (ri q5) → (v, e) = JUP z w (ri q1) (ri q2) (ri q3) (ri q4) (ri q5)) (j2 : ¬ LDP z w (ri q1) (ri q2) (ri q3) (ri q4) (ri q5) → v = -2) : v = 0 ↔ CDP n c := by
  obtain ⟨a1, a2, a3⟩ := hq
  obtain ⟨b1, b2, b3, b4⟩ := hr
  have ca : ∀ i, i < z → ri q1 i = (paQ n c).2.2.2.1 i ∧ ri q2 i = (paQ n c).2.2.2.2 i := fun i hi => by
    rw [← a2, ← a3, mk0_lt hi, mk0_lt hi]
    unfold ri
    rw [(h1 i hi).1, (h1 i hi).2]
    exact ⟨rfl, rfl⟩
  have cb_ : ∀ h, h < w → ri q3 h = (paR n c).2.2.2.1 h ∧ ri q4 h = (paR n c).2.2.2.2.1 h ∧ ri q5 h = (paR n c).2.2.2.2.2 h := fun h hh => by
    rw [← b2, ← b3, ← b4, mk0_lt hh, mk0_lt hh, mk0_lt hh]
    unfold ri
    rw [(h2 h hh).1, (h2 h hh).2.1, (h2 h hh).2.2]
    exact ⟨rfl, rfl, rfl⟩
  have ca2 : ∀ i, i < z → (paQ n c).2.2.2.1 i = ri q1 i ∧ (paQ n c).2.2.2.2 i = ri q2 i := fun i hi => ⟨(ca i hi).1.symm, (ca i hi).2.symm⟩
  have cb2 : ∀ h, h < w → (paR n c).2.2.2.1 h = ri q3 h ∧ (paR n c).2.2.2.2.1 h = ri q4 h ∧ (paR n c).2.2.2.2.2 h = ri q5 h := fun h hh => ⟨(cb_ h hh).1.symm, (cb_ h hh).2.1.symm, (cb_ h hh).2.2.symm⟩
  unfold CDP
  rw [← a1, ← b1]
  constructor
  · intro hv
    have L : LDP z w (ri q1) (ri q2) (ri q3) (ri q4) (ri q5) := Classical.byContradiction fun q => by have := j2 q; omega
    refine ⟨ht, LDP.cp ca2 cb2 L, ?_⟩
    rw [JUP_cp ca2 cb2, ← j1 L]
    exact hv
  · rintro ⟨_, L, J⟩
    have L2 := LDP.cp ca cb_ L
    rw [JUP_cp ca2 cb2, ← j1 L2] at J
    exact J
/-- what the reference's code makes of the tape -/
theorem s_codeM {σ τ : Sto} (h : GR τ σ) : OK (f_X12_code σ) (fun r => GR r.2 r.2 ∧ r.2.1 1 = σ.1 1 ∧ (CDP (σ.1 2 0).toInt.toNat (cb (σ.1 1)) → (r.2.1 2 0).toInt = 0) ∧ (¬ CDP (σ.1 2 0).toInt.toNat (cb (σ.1 1)) → r.2.1 2 = σ.1 2)) := by
  have k_0 : (0 : Int32).toInt = 0 := by decide +kernel
  unfold f_X12_code
  refine ok_lt fun s1 e1 => ?_
  have B1 : BM s1 := by rw [e1]; exact pM_0 h.1 (by omega)
  have f1 : FR [0, 3, 4, 5, 6, 7, 8, 12, 13, 14, 17, 18, 19] [] σ s1 := by rw [e1]; exact FR.st FR.rf (by decide)
  refine ok_calv (s_X12_isText B1) (fun v2 s2 q => ?_)
  obtain ⟨q1, q2, q3, q4, q5, q6, q7⟩ := q
  (try dsimp only at q1 q2 q3 q4 q5 q6 q7)
  rw [f1.1 1 (by decide), f1.1 2 (by decide)] at q5 q6
  have f2 : FR [0, 3, 4, 5, 6, 7, 8, 12, 13, 14, 17, 18, 19] [] σ s2 := FR.cal f1 q3 rfl rfl
  have tv : v2.toInt = (paT (σ.1 2 0).toInt.toNat (cb (σ.1 1))).1 := congrArg Prod.fst q5
  refine ok_ite (fun c1 => ?_) (fun c1 => ?_)
  · rw [fa_eq, k_0] at c1
    refine ok_ret ⟨(h.fr q2 f2 rfl rfl).self, f2.1 1 (by decide), fun z => ?_, fun _ => f2.1 2 (by decide)⟩
    have := z.1
    omega
  rw [fa_eq, k_0] at c1
  obtain ⟨n1, eq_, er_⟩ := q6 (by omega)
  have g7 := gM_7 q2 0
  have g8 := gM_8 q2 0
  refine ok_cals (s_X12_tries_signRead_numberRead_handlerRead (x3 := s2.1 7 0) (x5 := s2.1 8 0) q2 (by omega) (by omega)) (fun s4 r => ?_)
  obtain ⟨r1, r2, r3, r4, r5, r6⟩ := r
  have f4 : FR [0, 3, 4, 5, 6, 7, 8, 12, 13, 14, 17, 18, 19] [] σ s4 := FR.cal f2 r2 rfl rfl
  refine ok_calv (ok_and (s_wrongQ r1 (by omega) (fun i hi => ?_)) (s_X12_wrong r1 (by omega))) (fun v5 s5 t => ?_)
  · rw [r3] at hi
    have := q4 i (by omega)
    unfold ri
    rw [(r5 i (by omega)).1, (r5 i (by omega)).2]
    exact this
  · obtain ⟨⟨t1, t2, t3, t4⟩, _, _, _, t5, t6⟩ := t
    (try dsimp only at t1 t2 t3 t4 t5 t6)
    have f5 : FR [0, 3, 4, 5, 6, 7, 8, 12, 13, 14, 17, 18, 19] [] σ s5 := FR.cal f4 t3 rfl rfl
    rw [r3, r4] at t5 t6
    have hv : v5.toInt = 0 ↔ CDP (σ.1 2 0).toInt.toNat (cb (σ.1 1)) := CDP.of (by omega) eq_ er_ (fun i hi => r5 i (by omega)) (fun i hi => ⟨r6 _ (by omega), r6 _ (by omega), r6 _ (by omega)⟩) t5 t6
    refine ok_ite (fun c2 => ?_) (fun c2 => ?_)
    · rw [fa_le, k_0] at c2
      have cd := hv.mp (by omega)
      refine ok_lt fun s7 e7 => ?_
      have Q := t4 c2
      have Q7 : QLc s7 := by
        have o : ∀ k, k ≠ 2 → s7.1 k = s5.1 k := fun k hk => by rw [e7, sti_o hk]
        unfold QLc at Q ⊢
        rw [o 12 (by decide), o 13 (by decide), o 14 (by decide), o 17 (by decide), o 18 (by decide), o 19 (by decide)]
        exact Q
      refine ok_calv (s_takes (by rw [e7]; exact pM_2 t2 (by omega)) Q7) (fun v8 s8 u => ?_)
      obtain ⟨u1, u2, u3, u4⟩ := u
      (try dsimp only at u1 u2 u3 u4)
      refine ok_ret ⟨⟨u2.1, Or.inr u2, rfl, rfl⟩, ?_, fun _ => ?_, fun z => absurd cd z⟩
      · (try dsimp only)
        rw [u1.1 1 (by decide), e7, sti_o (by decide), f5.1 1 (by decide)]
      · (try dsimp only)
        rw [u1.1 2 (by decide), e7, sti_if, if_pos rfl]; exact k_0
    · rw [fa_le, k_0] at c2
      refine ok_ret ⟨(h.fr t2 f5 rfl rfl).self, f5.1 1 (by decide), fun z => ?_, fun _ => f5.1 2 (by decide)⟩
      have := hv.mpr z
      omega
/-- what holds of the class' store between calls -/
def JI (s : Sto) : Prop := BX s ∧ PI s ∧ SI s ∧ LI s ∧ QV s ∧ FE s ∧ BV s ∧ PA s ∧ ES s ∧ TS s ∧ FS s ∧ LQ s
abbrev JIF : List Nat := [1, 2, 3, 12, 13, 14, 15, 16, 17, 18, 19, 78, 79, 80, 81, 82, 83, 84, 85, 86, 87, 88, 89, 90, 91, 92, 93, 94]
theorem JI.fr {σ s : Sto} (h : JI σ) (hB : BX s) (f : FR JIF [] σ s) : JI s := by
  obtain ⟨_, h1, h2, h3, h4, h5, h6, h7, h8, h9, h10, h11⟩ := h
  exact ⟨hB, PI.fr f (by decide) h1, SI.fr f (by decide) h2, LI.fr f (by decide) h3, QV.fr f (by decide) h4, FE.fr f (by decide) h5, BV.fr f (by decide) h6, PA.fr f (by decide) h7, ES.fr f (by decide) h8, TS.fr f (by decide) h9, FS.fr f (by decide) h10, LQ.fr f (by decide) h11⟩
theorem s_codeX {σ : Sto} (h : JI σ) : OK (f_X11_code σ) (fun r => JI r.2 ∧ r.2.1 1 = σ.1 1 ∧ (CDP (σ.1 2 0).toInt.toNat (cb (σ.1 1)) → (r.2.1 2 0).toInt = 0) ∧ (¬ CDP (σ.1 2 0).toInt.toNat (cb (σ.1 1)) → r.2.1 2 = σ.1 2)) := by
  obtain ⟨hB, h1, h2, h3, h4, h5, h6, h7, h8, h9, h10, h11⟩ := h
  have k_0 : (0 : Int32).toInt = 0 := by decide +kernel
  have A := s_X11_code hB h1 h2 h3 h4 h5 h6 h7 h8 h9 h10 h11
  have B : OK (f_X11_code σ) (fun r => (CDP (σ.1 2 0).toInt.toNat (cb (σ.1 1)) → (r.2.1 2 0).toInt = 0) ∧ (¬ CDP (σ.1 2 0).toInt.toNat (cb (σ.1 1)) → r.2.1 2 = σ.1 2)) := by
    unfold f_X11_code
    refine ok_calv (s_X9_read_draft (σ := σ) hB) (fun v1 s1 q => ?_)
    obtain ⟨b1, B1, F1, D1, x1, x2⟩ := q
    (try dsimp only at b1 B1 F1 D1 x1 x2)
    have tv : v1.toInt = (paT (σ.1 2 0).toInt.toNat (cb (σ.1 1))).1 := congrArg Prod.fst x1
    refine ok_ite (fun c1 => ?_) (fun c1 => ?_)
    · rw [fa_eq, k_0] at c1
      refine ok_ret ⟨fun z => ?_, fun _ => F1.1 2 (by decide)⟩
      have := z.1
      omega
    rw [fa_eq, k_0] at c1
    obtain ⟨n1, eq_, er_⟩ := x2 (by omega)
    refine ok_calv (s_X3_judge_draft (σ := s1) B1 n1) (fun v3 s3 r => ?_)
    obtain ⟨r1, r2, r3, r4, r5⟩ := r
    (try dsimp only at r1 r2 r3 r4 r5)
    have hv : v3.toInt = 0 ↔ CDP (σ.1 2 0).toInt.toNat (cb (σ.1 1)) := CDP.of (by omega) eq_ er_ (fun i _ => ⟨rfl, rfl⟩) (fun i _ => ⟨rfl, rfl, rfl⟩) r4 r5
    refine ok_ite (fun c2 => ?_) (fun c2 => ?_)
    · rw [fa_eq, k_0] at c2
      have cd := hv.mp c2
      refine ok_lt fun s5 e5 => ?_
      have B5 : BX s5 := by rw [e5]; exact pX_2 r2 (by omega)
      have F5 : FR [2, 3, 12, 13, 14, 15, 16, 17, 18, 19] [] σ s5 := by
        rw [e5]; refine FR.st ?_ (by decide)
        exact FR.cal (FR.cal FR.rf F1 rfl rfl) r3 rfl rfl
      have DV3 : DV s3 := DV.of (σ := s1) (v := v3.toInt) n1 D1 B1 (by omega) ⟨r4, r5⟩ (fun k h1 h2 h3 => r3.1 k (by simp; omega))
      have DV5 : DV s5 := by rw [e5]; exact DV.st1 (by decide) DV3
      refine ok_cals (s_X11_adoptDraft (σ := s5) B5 DV5 (PI.fr F5 (by decide) h1) (SI.fr F5 (by decide) h2) (LI.fr F5 (by decide) h3) (FE.fr F5 (by decide) h5) (BV.fr F5 (by decide) h6)) (fun s6 u => ?_)
      refine ok_ret ⟨fun _ => ?_, fun z => absurd cd z⟩
      (try dsimp only)
      rw [u.2.1.1 2 (by decide), e5, sti_if, if_pos rfl]; exact k_0
    · rw [fa_eq, k_0] at c2
      refine ok_ret ⟨fun z => absurd (hv.mpr z) c2, fun _ => ?_⟩
      (try dsimp only)
      rw [r3.1 2 (by decide), F1.1 2 (by decide)]
  refine ok_imp (ok_and A B) (fun r q => ?_)
  obtain ⟨⟨_, a1, a2, a3, a4, a5, a6, a7, a8, a9, a10, a11, a12, a13⟩, b1, b2⟩ := q
  exact ⟨⟨a1, a3, a4, a5, a6, a7, a8, a9, a10, a11, a12, a13⟩, a2.1 1 (by decide), b1, b2⟩
