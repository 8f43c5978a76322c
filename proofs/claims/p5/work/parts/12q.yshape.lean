/-- an edge that is kept and isn't back -/
def FW (σ : Sto) (e : Nat) : Prop := KP σ e ∧ (σ.1 31 e).toInt = 0
theorem s_isEntry {σ : Sto} {x1 : Int32} {G : Int64} (hB : BM σ) (hx : 0 ≤ x1.toInt ∧ x1.toInt ≤ 39) : OK (f_X12_isEntry x1 G σ) (fun v => (0 ≤ v.toInt ∧ v.toInt ≤ 1) ∧ (v.toInt = 1 → ∀ e, FW σ e → eB σ e = x1.toNatClampNeg → bL G (eA σ e) = true)) := by
  have k_0 : (0 : Int32).toInt = 0 := by decide +kernel
  have k_1 : (1 : Int32).toInt = 1 := by decide +kernel
  have hE := nE_le hB
  have c1 := clamp_I hx.1
  unfold f_X12_isEntry
  refine ok_itr1 (fun n e => n = (121 - e.toInt).toNat ∧ 0 ≤ e.toInt ∧ e.toInt ≤ (σ.1 32 0).toInt ∧ ∀ d : Nat, (d : Int) < e.toInt → FW σ d → eB σ d = x1.toNatClampNeg → bL G (eA σ d) = true) ?_ (n := (121 - (0 : Int32).toInt).toNat) ⟨rfl, by omega, by omega, fun d hd => by omega⟩ (by rw [k_0]; decide)
  intro ag n e I ih
  obtain ⟨hn, e0, eE, h1⟩ := I
  have ce := clamp_I e0
  refine ok_ite (fun c2 => ?_) (fun c2 => ?_)
  · rw [fa_le] at c2
    exact ok_ret ⟨by omega, fun _ d hd hb => h1 d (by have := hd.1.1; unfold nE at this; omega) hd hb⟩
  · rw [fa_le] at c2
    have ie : 0 ≤ e.toInt ∧ e.toInt < 120 := by omega
    have ex : (e + 1).toInt = e.toInt + 1 := i1 (by omega)
    have g27 := gM_27 hB e.toNatClampNeg
    have ee := e39 hB e.toNatClampNeg
    have cont : (FW σ e.toNatClampNeg → eB σ e.toNatClampNeg = x1.toNatClampNeg → bL G (eA σ e.toNatClampNeg) = true) → OK (lt (e + 1) fun x4_5 => ag x4_5) _ := fun hs => ok_lt fun x5 e5 => by
      subst e5
      refine ih (121 - (e + 1).toInt).toNat (e + 1) (by rw [hn, ex]; omega) ⟨rfl, by omega, by omega, fun d hd => ?_⟩
      by_cases q : d = e.toNatClampNeg
      · rw [q]; exact hs
      · exact h1 d (by omega)
    refine ok_ix ie ?_
    refine ok_lt fun v3 e3 => ?_
    refine ok_jn ?_
    refine ok_ite (fun c3 => ?_) (fun c3 => ?_)
    · refine ok_ix ie ?_
      refine ok_lt fun v7 e7 => ?_
      refine ok_ite (fun c4 => ?_) (fun c4 => ?_)
      · refine ok_ix ie ?_
        refine ok_lt fun v9 e9 => ?_
        refine ok_ite (fun c5 => ?_) (fun c5 => ?_)
        · refine ok_ix ie ?_
          refine ok_lt fun v11 e11 => ?_
          subst e11
          refine ok_calp (s_has (x := G) g27) (fun v12 h12 => ?_)
          refine ok_ite (fun c6 => ?_) (fun c6 => ?_)
          · exact ok_ret ⟨by omega, fun z => by omega⟩
          · rw [fa_eq, k_0] at c6
            have h121 := h12.1
            exact cont (fun _ _ => h12.2.mp (by omega))
        · rw [fa_eq, k_0, e9] at c5
          exact cont (fun z => absurd z.2 c5)
      · rw [fa_eq, k_0, e7] at c4
        exact cont (fun z => absurd z.1.2 c4)
    · rw [fa_eq, e3] at c3
      exact cont (fun _ z => absurd (show (σ.1 28 e.toNatClampNeg).toInt = x1.toInt by omega) c3)
/-- blocks have ranks, that rise by edges kept but those that are back -/
def RK (σ : Sto) : Prop := ∃ r : Nat → Nat, ∀ e, FW σ e → eB σ e < nB σ → r (eA σ e) < r (eB σ e)
theorem s_isReduced {σ : Sto} (hB : BM σ) : OK (f_X12_isReduced σ) (fun v => (0 ≤ v.toInt ∧ v.toInt ≤ 1) ∧ (v.toInt = 1 → RK σ)) := by
  have k_0 : (0 : Int32).toInt = 0 := by decide +kernel
  have k_1 : (1 : Int32).toInt = 1 := by decide +kernel
  have hn := nB_le hB
  unfold f_X12_isReduced
  have z0 : fb_ct (bL (0 : Int64)) 64 = 0 := fb_ct_zero.mpr (fun k _ => bL_0 k)
  refine ok_itr2 (fun n S g => n = 2 * (65 - fb_ct (bL S) 64) + g.toInt.toNat ∧ (g.toInt = 0 ∨ g.toInt = 1) ∧ ∃ r : Nat → Nat, (∀ b, bL S b = true → r b < fb_ct (bL S) 64 ∧ ∀ e, FW σ e → eB σ e = b → bL S (eA σ e) = true ∧ r (eA σ e) < r b)) ?_ (n := 2 * (65 - fb_ct (bL (0 : Int64)) 64) + (1 : Int32).toInt.toNat) ⟨rfl, Or.inr k_1, fun _ => 0, fun b hb => by rw [bL_0] at hb; exact absurd hb (by decide)⟩ (by rw [k_1, z0]; decide)
  intro ag n S g I ih
  obtain ⟨hnn, h01, r, hr⟩ := I
  refine ok_ite (fun c1 => ?_) (fun c1 => ?_)
  · refine ok_calp (s_all hB) (fun v3 h3 => ?_)
    refine ok_ite (fun c2 => ?_) (fun c2 => ?_)
    · rw [lg_cmp_eq] at c2
      refine ok_ret ⟨by omega, fun _ => ⟨r, fun e he hb => ?_⟩⟩
      exact ((hr (eB σ e) (by rw [c2, h3]; exact decide_eq_true hb)).2 e he rfl).2
    · exact ok_ret ⟨by omega, fun z => by omega⟩
  · rw [fa_eq, k_0] at c1
    have hct := fb_ct_le (bL S) 64
    refine ok_itr3 (fun n T f b => n = (41 - b.toInt).toNat ∧ 0 ≤ b.toInt ∧ b.toInt ≤ (nB σ : Int) ∧ (f.toInt = 0 ∨ f.toInt = 1) ∧ (f.toInt = 0 → T = S) ∧ (f.toInt = 1 → fb_ct (bL S) 64 + 1 ≤ fb_ct (bL T) 64) ∧ ∃ r : Nat → Nat, (∀ b, bL T b = true → r b < fb_ct (bL T) 64 ∧ ∀ e, FW σ e → eB σ e = b → bL T (eA σ e) = true ∧ r (eA σ e) < r b)) ?_ (n := (41 - (0 : Int32).toInt).toNat) ⟨rfl, by omega, by omega, Or.inl k_0, fun _ => rfl, fun z => by omega, r, hr⟩ (by rw [k_0]; decide)
    intro ag2 n2 T f b I2 ih2
    obtain ⟨hn2, b0, bb, f01, t1, t2, r2, hr2⟩ := I2
    have cb := clamp_I b0
    have hctT := fb_ct_le (bL T) 64
    refine ok_ite (fun c2 => ?_) (fun c2 => ?_)
    · refine ih (2 * (65 - fb_ct (bL T) 64) + f.toInt.toNat) T f ?_ ⟨rfl, f01, r2, hr2⟩
      rcases f01 with z | z
      · rw [hnn, t1 z]; omega
      · have := t2 z; omega
    · rw [fa_le] at c2
      have ex : (b + 1).toInt = b.toInt + 1 := i1 (by omega)
      have ib : 0 ≤ b.toInt ∧ b.toInt ≤ 39 := by omega
      have skip : OK (lt (b + 1) fun x4_9 => ag2 T f x4_9) (fun v => (0 ≤ v.toInt ∧ v.toInt ≤ 1) ∧ (v.toInt = 1 → RK σ)) := ok_lt fun x9 e9 => by
        subst e9
        exact ih2 (41 - (b + 1).toInt).toNat T f (b + 1) (by rw [hn2, ex]; omega) ⟨rfl, by omega, by omega, f01, t1, t2, r2, hr2⟩
      refine ok_calp (s_has (x := T) ib) (fun v7 h7 => ?_)
      refine ok_jn ?_
      refine ok_ite (fun c3 => ?_) (fun _ => skip)
      rw [fa_eq, k_0] at c3
      have hf : bL T b.toNatClampNeg = false := bf (fun z => by have := h7.2.mpr z; omega)
      refine ok_calp (s_isEntry (x1 := b) (G := T) hB ib) (fun v11 h11 => ?_)
      refine ok_ite (fun _ => skip) (fun c4 => ?_)
      rw [fa_eq, k_0] at c4
      have h111 := h11.1
      have he := h11.2 (by omega)
      refine ok_lt fun T2 eT2 => ?_
      refine ok_lt fun x9 e9 => ?_
      subst e9
      have bs : ∀ i, bL T2 i = (bL T i || decide (i = b.toNatClampNeg)) := fun i => by rw [eT2]; exact bL_set b0 (by omega) i
      have ct := set_ct (x := T) (v := b) (n := 64) b0 (by omega) (by omega) hf
      rw [← eT2] at ct
      refine ih2 (41 - (b + 1).toInt).toNat T2 1 (b + 1) (by rw [hn2, ex]; omega) ⟨rfl, by omega, by omega, Or.inr k_1, fun z => by omega, fun _ => ?_, fun i => if i = b.toNatClampNeg then fb_ct (bL T) 64 else r2 i, fun i hi => ?_⟩
      · rcases f01 with z | z
        · rw [t1 z] at ct; omega
        · have := t2 z; omega
      · (try dsimp only)
        rw [bs] at hi
        by_cases q : i = b.toNatClampNeg
        · rw [if_pos q]
          refine ⟨by omega, fun e h1 h2 => ?_⟩
          have ha := he e h1 (by rw [h2, q])
          have hne : eA σ e ≠ b.toNatClampNeg := fun z => by rw [z, hf] at ha; exact absurd ha (by decide)
          rw [if_neg hne, bs, ha]
          exact ⟨rfl, (hr2 _ ha).1⟩
        · rw [if_neg q]
          have hi2 : bL T i = true := by
            rcases Bool.or_eq_true_iff.mp hi with w | w
            · exact w
            · exact absurd (of_decide_eq_true w) q
          have o := hr2 i hi2
          refine ⟨by omega, fun e h1 h2 => ?_⟩
          obtain ⟨p1, p2⟩ := o.2 e h1 h2
          have hne : eA σ e ≠ b.toNatClampNeg := fun z => by rw [z, hf] at p1; exact absurd p1 (by decide)
          rw [if_neg hne, bs, p1]
          exact ⟨rfl, p2⟩
/-- all blocks are come to -/
def GAl (σ : Sto) : Prop := ∀ b, b < nB σ → ∀ P : Nat → Prop, P 0 → (∀ e, KP σ e → P (eA σ e) → P (eB σ e)) → P b
def GD (s : Sto) : Prop := GAl s ∧ DOM s s ∧ BKe s ∧ RK s
theorem DOM.cg {σ s : Sto} (h : DOM σ s) (e26 : s.1 26 = σ.1 26) (e27 : s.1 27 = σ.1 27) (e28 : s.1 28 = σ.1 28) (e30 : s.1 30 = σ.1 30) (e32 : s.1 32 = σ.1 32) : DOM s s := by
  unfold DOM nB
  rw [e26]
  intro b hb d hd
  rw [h b hb d hd, RW.cg e27 e28 e30 e32]
abbrev EFI (σ : Sto) : Prop := ∀ e, e < nE σ → eA σ e < nB σ ∧ eB σ e < nB σ
theorem s_isGoodSo {σ : Sto} (hB : BM σ) (hF : EFI σ) : OK (f_X12_isGoodSo σ) (fun r => (0 ≤ r.1.toInt ∧ r.1.toInt ≤ 1) ∧ BM r.2 ∧ FR [31] [0] σ r.2 ∧ (r.1.toInt = 1 → GD r.2)) := by
  have k_0 : (0 : Int32).toInt = 0 := by decide +kernel
  have k_1 : (1 : Int32).toInt = 1 := by decide +kernel
  unfold f_X12_isGoodSo
  refine ok_calp (s_reached (x1 := 0) (W := 0) hB (by omega)) (fun v1 h1 => ?_)
  refine ok_calp (s_all hB) (fun v2 h2 => ?_)
  refine ok_ite (fun c => ?_) (fun c => ?_)
  · rw [lg_cmp_eq] at c
    refine ok_cals (s_laysDominators hB hF) (fun s4 q => ?_)
    obtain ⟨q1, q2, q3, q4⟩ := q
    refine ok_calp (s_isReduced q1) (fun v5 h5 => ?_)
    have h51 := h5.1
    refine ok_bz (by rw [fa_eq, fa_eq, k_0, k_1]; omega) ?_
    refine ok_ret ⟨h51, q1, q2, fun z => ⟨fun b hb P p1 p2 => ?_, q3.cg (frD q2 (by decide)) (frD q2 (by decide)) (frD q2 (by decide)) (frD q2 (by decide)) (frD q2 (by decide)), q4, h5.2 z⟩⟩
    have nb : nB s4 = nB σ := by unfold nB; rw [frD q2 (by decide)]
    refine h1.2.2 P p1 (fun e he ha _ => ?_) b (by rw [c, h2]; exact decide_eq_true (by rw [← nb]; exact hb))
    have eqA : eA s4 e = eA σ e := by unfold eA; rw [frD q2 (by decide)]
    have eqB : eB s4 e = eB σ e := by unfold eB; rw [frD q2 (by decide)]
    have := p2 e ((KP.cg (frD q2 (by decide)) (frD q2 (by decide))).mpr he) (by rw [eqA]; exact ha)
    rw [eqB] at this; exact this
  · exact ok_ret ⟨by (try dsimp only); omega, hB, FR.rf, fun z => by (try dsimp only at z); omega⟩
/-- jumps are no edges as something throws -/
def JXt (s : Sto) : Prop := ∀ e, e < nE s → (s.1 30 e).toInt ≠ 0 → (s.1 29 e).toInt = 0
theorem frJ {σ s : Sto} (h : FR [30, 31] [0] σ s) {k : Nat} (hk : k ≠ 30 ∧ k ≠ 31) : s.1 k = σ.1 k := h.1 k (by simpa using hk)
theorem EFI.cg {σ s : Sto} (h : EFI σ) (e26 : s.1 26 = σ.1 26) (e27 : s.1 27 = σ.1 27) (e28 : s.1 28 = σ.1 28) (e32 : s.1 32 = σ.1 32) : EFI s := by unfold EFI nE nB eA eB at h ⊢; rw [e26, e27, e28, e32]; exact h
theorem s_hasSecond {σ : Sto} {x1 : Int32} (hB : BM σ) (hF : EFI σ) (hJ : JXt σ) (hx : 0 ≤ x1.toInt ∧ x1.toInt ≤ 119) : OK (f_X12_hasSecond x1 σ) (fun r => (0 ≤ r.1.toInt ∧ r.1.toInt ≤ 1) ∧ BM r.2 ∧ FR [30, 31] [0] σ r.2 ∧ JXt r.2 ∧ (r.1.toInt = 1 → GD r.2)) := by
  have k_0 : (0 : Int32).toInt = 0 := by decide +kernel
  have k_1 : (1 : Int32).toInt = 1 := by decide +kernel
  have hE := nE_le hB
  unfold f_X12_hasSecond
  refine ok_lt fun y ey => ?_
  have y1 : y.toInt = x1.toInt + 1 := by rw [ey]; exact i1 (by omega)
  refine ok_itr2 (fun n e s => n = (122 - e.toInt).toNat ∧ 0 ≤ e.toInt ∧ e.toInt ≤ 120 ∧ BM s ∧ FR [30, 31] [0] σ s ∧ JXt s) ?_ (n := (122 - y.toInt).toNat) ⟨rfl, by omega, by omega, hB, FR.rf, hJ⟩ (by unfold LF; omega)
  intro ag n e s I ih
  obtain ⟨hn, e0, eE, b1, b2, b3⟩ := I
  have ce := clamp_I e0
  have q32 := frJ b2 (show (32 : Nat) ≠ 30 ∧ 32 ≠ 31 by decide)
  refine ok_ite (fun c1 => ?_) (fun c1 => ?_)
  · exact ok_ret ⟨by (try dsimp only); omega, b1, b2, b3, fun z => by (try dsimp only at z); omega⟩
  · rw [fa_le, q32] at c1
    have ie : 0 ≤ e.toInt ∧ e.toInt < 120 := by omega
    have ex : (e + 1).toInt = e.toInt + 1 := i1 (by omega)
    have cont : ∀ t : Sto, BM t → FR [30, 31] [0] σ t → JXt t → OK (lt (e + 1) fun x2_6 => ag x2_6 t) _ := fun t t1 t2 t3 => ok_lt fun x6 e6 => by
      subst e6
      exact ih (122 - (e + 1).toInt).toNat (e + 1) t (by rw [hn, ex]; omega) ⟨rfl, by omega, by omega, t1, t2, t3⟩
    refine ok_ix ie ?_
    refine ok_lt fun v4 e4 => ?_
    refine ok_jn ?_
    refine ok_ite (fun c2 => ?_) (fun _ => cont s b1 b2 b3)
    rw [fa_eq, k_0, e4] at c2
    refine ok_ix ie ?_
    refine ok_lt fun s8 e8 => ?_
    have F8 : FR [30, 31] [0] σ s8 := by rw [e8]; exact FR.st b2 (by decide)
    have J8 : JXt s8 := fun d hd hj => by
      rw [show s8.1 29 = s.1 29 by rw [e8]; rfl]
      rw [e8, sti_if] at hj
      by_cases q : d = e.toNatClampNeg
      · rw [q]; exact c2
      · rw [if_neg q] at hj; exact b3 d (by unfold nE at hd ⊢; rw [show s8.1 32 = s.1 32 by rw [e8]; rfl] at hd; exact hd) hj
    refine ok_calv (s_isGoodSo (σ := s8) (by rw [e8]; exact pM_30 b1 (by omega)) (hF.cg (frJ F8 (by decide)) (frJ F8 (by decide)) (frJ F8 (by decide)) (frJ F8 (by decide)))) (fun v9 s9 q => ?_)
    obtain ⟨q0, q1, q2, q3⟩ := q
    (try dsimp only at q0 q1 q2 q3)
    have J9 : JXt s9 := by unfold JXt nE at J8 ⊢; rw [frD q2 (by decide), frD q2 (by decide), frD q2 (by decide)]; exact J8
    refine ok_ite (fun c3 => ?_) (fun c3 => ?_)
    · refine ok_ix ie ?_
      refine ok_lt fun s11 e11 => ?_
      refine cont s11 (by rw [e11]; exact pM_30 q1 (by omega)) (by rw [e11]; exact FR.st (FR.cal F8 q2 rfl rfl) (by decide)) (fun d hd hj => ?_)
      rw [show s11.1 29 = s9.1 29 by rw [e11]; rfl]
      rw [e11, sti_if] at hj
      by_cases q : d = e.toNatClampNeg
      · rw [if_pos q] at hj; exact absurd k_0 hj
      · rw [if_neg q] at hj; exact J9 d (by unfold nE at hd ⊢; rw [show s11.1 32 = s9.1 32 by rw [e11]; rfl] at hd; exact hd) hj
    · rw [fa_eq, k_0] at c3
      exact ok_ret ⟨by (try dsimp only); omega, q1, FR.cal F8 q2 rfl rfl, J9, fun _ => q3 (by omega)⟩
abbrev FJ_ : List Nat := [30, 31, 36, 37]
theorem frK {σ s : Sto} (h : FR FJ_ [0] σ s) {k : Nat} (hk : k ≠ 30 ∧ k ≠ 31 ∧ k ≠ 36 ∧ k ≠ 37) : s.1 k = σ.1 k := h.1 k (by simpa using hk)
theorem JXt.cg {σ s : Sto} (h : JXt σ) (e29 : s.1 29 = σ.1 29) (e30 : s.1 30 = σ.1 30) (e32 : s.1 32 = σ.1 32) : JXt s := by unfold JXt nE at h ⊢; rw [e29, e30, e32]; exact h
theorem GD.cg {σ s : Sto} (h : GD σ) (e26 : s.1 26 = σ.1 26) (e27 : s.1 27 = σ.1 27) (e28 : s.1 28 = σ.1 28) (e30 : s.1 30 = σ.1 30) (e31 : s.1 31 = σ.1 31) (e32 : s.1 32 = σ.1 32) (l0 : s.2 0 = σ.2 0) : GD s := by
  unfold GD GAl DOM BKe RK FW RW KP nE nB eA eB at h ⊢
  rw [e26, e27, e28, e30, e31, e32, l0]; exact h
theorem s_laysJumps {σ : Sto} (hB : BM σ) (hF : EFI σ) : OK (f_X12_laysJumps σ) (fun s => BM s ∧ FR FJ_ [0] σ s ∧ JXt s ∧ -1 ≤ (s.1 36 0).toInt ∧ ((s.1 36 0).toInt ≠ -1 → GD s)) := by
  have k_0 : (0 : Int32).toInt = 0 := by decide +kernel
  have k_1 : (1 : Int32).toInt = 1 := by decide +kernel
  have k_2 : (2 : Int32).toInt = 2 := by decide +kernel
  have k_m1 : ((-1) : Int32).toInt = -1 := by decide +kernel
  have hE := nE_le hB
  unfold f_X12_laysJumps
  refine ok_itr2 (fun n e s => n = (122 - e.toInt).toNat ∧ 0 ≤ e.toInt ∧ e.toInt ≤ 120 ∧ BM s ∧ FR FJ_ [0] σ s ∧ ∀ d : Nat, (d : Int) < e.toInt → (s.1 30 d).toInt = 0) ?_ (n := (122 - (0 : Int32).toInt).toNat) ⟨rfl, by omega, by omega, hB, FR.rf, fun d hd => by omega⟩ (by rw [k_0]; decide)
  intro ag n e s I ih
  obtain ⟨hn, e0, eE, b1, b2, b3⟩ := I
  have ce := clamp_I e0
  have q32 := frK b2 (show (32 : Nat) ≠ 30 ∧ 32 ≠ 31 ∧ 32 ≠ 36 ∧ 32 ≠ 37 by decide)
  refine ok_ite (fun c1 => ?_) (fun c1 => ?_)
  · rw [fa_le, q32] at c1
    have J0 : JXt s := fun d hd hj => absurd (b3 d (by unfold nE at hd; rw [q32] at hd; omega)) hj
    refine ok_calv (s_isGoodSo b1 (hF.cg (frK b2 (by decide)) (frK b2 (by decide)) (frK b2 (by decide)) (frK b2 (by decide)))) (fun v3 s3 q => ?_)
    obtain ⟨q0, q1, q2, q3⟩ := q
    (try dsimp only at q0 q1 q2 q3)
    refine ok_bz (by rw [fa_eq, fa_eq, k_0, k_1]; omega) ?_
    refine ok_lt fun s4 e4 => ?_
    refine ok_lt fun s6 e6 => ?_
    have F3 : FR FJ_ [0] σ s3 := FR.cal b2 q2 rfl rfl
    have F6 : FR FJ_ [0] σ s6 := by rw [e6, e4]; exact FR.st (FR.st F3 (by decide)) (by decide)
    have B6 : BM s6 := by rw [e6]; refine pM_36 ?_ (by omega); rw [e4]; exact pM_37 q1 (by omega)
    have J3 : JXt s3 := J0.cg (frD q2 (by decide)) (frD q2 (by decide)) (frD q2 (by decide))
    have J6 : JXt s6 := J3.cg (by rw [e6, e4]; rfl) (by rw [e6, e4]; rfl) (by rw [e6, e4]; rfl)
    have v37 : (s6.1 37 0) = v3 := by rw [show s6.1 37 = s4.1 37 by rw [e6]; rfl, e4, sti_s]
    refine ok_ite (fun c2 => ?_) (fun c2 => ?_)
    · refine ok_lt fun s8 e8 => ?_
      have J8 : JXt s8 := J6.cg (by rw [e8]; rfl) (by rw [e8]; rfl) (by rw [e8]; rfl)
      refine ok_itr1 (fun n t => n = (4 - (t.1 36 0).toInt).toNat ∧ 1 ≤ (t.1 36 0).toInt ∧ (t.1 36 0).toInt ≤ 3 ∧ BM t ∧ FR FJ_ [0] σ t ∧ JXt t) ?_ (n := (4 - (s8.1 36 0).toInt).toNat) ⟨rfl, by rw [e8, sti_s]; omega, by rw [e8, sti_s]; omega, by rw [e8]; exact pM_36 B6 (by omega), by rw [e8]; exact FR.st F6 (by decide), J8⟩ (by rw [e8, sti_s, k_1]; decide)
      intro ag2 n2 t I2 ih2
      obtain ⟨hn2, j1, j3, t1, t2, t3⟩ := I2
      refine ok_ite (fun c3 => ?_) (fun c3 => ?_)
      · refine ok_lt fun s11 e11 => ?_
        have F11 : FR FJ_ [0] σ s11 := by rw [e11]; exact FR.st t2 (by decide)
        refine ok_cals (s_laysDominators (σ := s11) (by rw [e11]; exact pM_36 t1 (by omega)) (hF.cg (frK F11 (by decide)) (frK F11 (by decide)) (frK F11 (by decide)) (frK F11 (by decide)))) (fun s12 w => ?_)
        obtain ⟨w1, w2, w3, w4⟩ := w
        have z36 : (s12.1 36 0).toInt = -1 := by rw [frD w2 (by decide), e11, sti_s]; exact k_m1
        exact ok_ret ⟨w1, FR.cal F11 w2 rfl rfl, t3.cg (by rw [frD w2 (by decide), e11]; rfl) (by rw [frD w2 (by decide), e11]; rfl) (by rw [frD w2 (by decide), e11]; rfl), by omega, fun z => absurd z36 z⟩
      · rw [fa_lt, k_2] at c3
        refine ok_itr2 (fun n e u => n = (122 - e.toInt).toNat ∧ 0 ≤ e.toInt ∧ e.toInt ≤ 120 ∧ BM u ∧ FR FJ_ [0] σ u ∧ JXt u ∧ (u.1 36 0) = (t.1 36 0)) ?_ (n := (122 - (0 : Int32).toInt).toNat) ⟨rfl, by omega, by omega, t1, t2, t3, rfl⟩ (by rw [k_0]; decide)
        intro ag3 n3 e u I3 ih3
        obtain ⟨hn3, e0, eE, u1, u2, u3, u4⟩ := I3
        have ce := clamp_I e0
        have r32 := frK u2 (show (32 : Nat) ≠ 30 ∧ 32 ≠ 31 ∧ 32 ≠ 36 ∧ 32 ≠ 37 by decide)
        refine ok_ite (fun c4 => ?_) (fun c4 => ?_)
        · refine ok_lt fun s15 e15 => ?_
          have ei : ((u.1 36 0) + 1).toInt = (t.1 36 0).toInt + 1 := by rw [u4]; exact i1 (by omega)
          have z15 : (s15.1 36 0).toInt = (t.1 36 0).toInt + 1 := by rw [e15, sti_s]; exact ei
          exact ih2 (4 - (s15.1 36 0).toInt).toNat s15 (by rw [hn2, z15]; omega) ⟨rfl, by omega, by omega, by rw [e15]; exact pM_36 u1 (by omega), by rw [e15]; exact FR.st u2 (by decide), u3.cg (by rw [e15]; rfl) (by rw [e15]; rfl) (by rw [e15]; rfl)⟩
        · rw [fa_le, r32] at c4
          have ie : 0 ≤ e.toInt ∧ e.toInt < 120 := by omega
          have ex : (e + 1).toInt = e.toInt + 1 := i1 (by omega)
          have cont : ∀ z : Sto, BM z → FR FJ_ [0] σ z → JXt z → (z.1 36 0) = (t.1 36 0) → OK (lt (e + 1) fun x1_18 => ag3 x1_18 z) _ := fun z z1 z2 z3 z4 => ok_lt fun x18 e18 => by
            subst e18
            exact ih3 (122 - (e + 1).toInt).toNat (e + 1) z (by rw [hn3, ex]; omega) ⟨rfl, by omega, by omega, z1, z2, z3, z4⟩
          refine ok_ix ie ?_
          refine ok_lt fun v16 e16 => ?_
          refine ok_jn ?_
          refine ok_ite (fun c5 => ?_) (fun _ => cont u u1 u2 u3 u4)
          rw [fa_eq, k_0, e16] at c5
          refine ok_ix ie ?_
          refine ok_lt fun s20 e20 => ?_
          have F20 : FR FJ_ [0] σ s20 := by rw [e20]; exact FR.st u2 (by decide)
          have B20 : BM s20 := by rw [e20]; exact pM_30 u1 (by omega)
          have E20 := hF.cg (s := s20) (frK F20 (by decide)) (frK F20 (by decide)) (frK F20 (by decide)) (frK F20 (by decide))
          have q36 : s20.1 36 0 = t.1 36 0 := by rw [e20]; exact u4
          have J20 : JXt s20 := fun d hd hj => by
            rw [show s20.1 29 = u.1 29 by rw [e20]; rfl]
            rw [e20, sti_if] at hj
            by_cases q : d = e.toNatClampNeg
            · rw [q]; exact c5
            · rw [if_neg q] at hj; exact u3 d (by unfold nE at hd ⊢; rw [show s20.1 32 = u.1 32 by rw [e20]; rfl] at hd; exact hd) hj
          have off : ∀ z : Sto, BM z → FR FJ_ [0] σ z → JXt z → (z.1 36 0) = (t.1 36 0) → OK (ix 120 e <| lt (sti z 30 e.toNatClampNeg (0 : Int32)) fun s_22 => lt (e + 1) fun x1_18 => ag3 x1_18 s_22) (fun s => BM s ∧ FR FJ_ [0] σ s ∧ JXt s ∧ -1 ≤ (s.1 36 0).toInt ∧ ((s.1 36 0).toInt ≠ -1 → GD s)) := by
            intro z z1 z2 z3 z4
            refine ok_ix ie ?_
            refine ok_lt fun s22 e22 => ?_
            refine cont s22 (by rw [e22]; exact pM_30 z1 (by omega)) (by rw [e22]; exact FR.st z2 (by decide)) (fun d hd hj => ?_) (by rw [e22]; exact z4)
            rw [show s22.1 29 = z.1 29 by rw [e22]; rfl]
            rw [e22, sti_if] at hj
            by_cases q : d = e.toNatClampNeg
            · rw [if_pos q] at hj; exact absurd k_0 hj
            · rw [if_neg q] at hj; exact z3 d (by unfold nE at hd ⊢; rw [show s22.1 32 = z.1 32 by rw [e22]; rfl] at hd; exact hd) hj
          refine ok_jn ?_
          refine ok_ite (fun c6 => ?_) (fun c6 => ?_)
          · refine ok_calv (s_isGoodSo B20 E20) (fun v24 s24 w => ?_)
            obtain ⟨w0, w1, w2, w3⟩ := w
            (try dsimp only at w0 w1 w2 w3)
            have J24 : JXt s24 := J20.cg (frD w2 (by decide)) (frD w2 (by decide)) (frD w2 (by decide))
            have p36 : s24.1 36 0 = t.1 36 0 := by rw [frD w2 (by decide)]; exact q36
            refine ok_ite (fun _ => off s24 w1 (FR.cal F20 w2 rfl rfl) J24 p36) (fun c7 => ?_)
            rw [fa_eq, k_0] at c7
            exact ok_ret ⟨w1, FR.cal F20 w2 rfl rfl, J24, by rw [p36]; omega, fun _ => w3 (by omega)⟩
          · refine ok_calv (s_hasSecond (x1 := e) B20 E20 J20 (by omega)) (fun v26 s26 w => ?_)
            obtain ⟨w0, w1, w2, w3, w4⟩ := w
            (try dsimp only at w0 w1 w2 w3 w4)
            have p36 : s26.1 36 0 = t.1 36 0 := by rw [frJ w2 (by decide)]; exact q36
            refine ok_ite (fun _ => off s26 w1 (FR.cal F20 w2 rfl rfl) w3 p36) (fun c7 => ?_)
            rw [fa_eq, k_0] at c7
            exact ok_ret ⟨w1, FR.cal F20 w2 rfl rfl, w3, by rw [p36]; omega, fun _ => w4 (by omega)⟩
    · rw [fa_eq, k_0, v37] at c2
      refine ok_ret ⟨B6, F6, J6, by rw [e6, sti_s]; omega, fun _ => (q3 (by omega)).cg (by rw [e6, e4]; rfl) (by rw [e6, e4]; rfl) (by rw [e6, e4]; rfl) (by rw [e6, e4]; rfl) (by rw [e6, e4]; rfl) (by rw [e6, e4]; rfl) (by rw [e6, e4]; rfl)⟩
  · rw [fa_le, q32] at c1
    have ie : 0 ≤ e.toInt ∧ e.toInt < 120 := by omega
    have ex : (e + 1).toInt = e.toInt + 1 := i1 (by omega)
    refine ok_ix ie ?_
    refine ok_lt fun s28 e28 => ?_
    refine ok_lt fun x29 e29 => ?_
    subst e29
    refine ih (122 - (e + 1).toInt).toNat (e + 1) s28 (by rw [hn, ex]; omega) ⟨rfl, by omega, by omega, by rw [e28]; exact pM_30 b1 (by omega), by rw [e28]; exact FR.st b2 (by decide), fun d hd => ?_⟩
    rw [e28, sti_if]
    by_cases q : d = e.toNatClampNeg
    · rw [if_pos q]; exact k_0
    · rw [if_neg q]; exact b3 d (by omega)
