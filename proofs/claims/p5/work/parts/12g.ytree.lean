abbrev FS_ : List Nat := [38, 39, 40, 41, 42, 43, 44, 47, 48, 49]
abbrev FL_ : List Nat := [38, 39, 40, 41, 42, 43, 44, 47, 48, 49, 50]
theorem sd_with {x2 x3 : Int32} (p2 : 0 ≤ x2.toInt ∧ x2.toInt ≤ 7) (p3 : 0 ≤ x3.toInt ∧ x3.toInt ≤ 399) : ∀ (d z : Nat) (e : Int32) (σ : Sto), BM σ → 0 ≤ e.toInt → TZ (σ.1 38) (σ.1 39) (σ.1 40) (σ.1 41 0).toInt d z e.toNatClampNeg → (σ.1 41 0).toInt + z ≤ 6000 → OK (f_X12_with d e x2 x3 σ) (fun r => BM r.2 ∧ FR [38, 39, 40, 41] [] σ r.2 ∧ NGr σ r.2 ∧ (r.2.1 41 0).toInt ≤ (σ.1 41 0).toInt + z ∧ 0 ≤ r.1.toInt ∧ TT r.2 z r.1.toNatClampNeg ∧ ((σ.1 38 e.toNatClampNeg).toInt = 2 → (σ.1 39 e.toNatClampNeg).toInt ≠ x2.toInt → r.1 = e)) := by
  intro d
  induction d with
  | zero => intro z e σ _ _ h; exact absurd h (fun z => z)
  | succ d ih =>
    intro z e σ hB h0 h hn
    have k_0 : (0 : Int32).toInt = 0 := by decide +kernel
    have k_2 : (2 : Int32).toInt = 2 := by decide +kernel
    have k_3 : (3 : Int32).toInt = 3 := by decide +kernel
    have g41 := gM_41 hB 0
    have hT := h.dep
    have hz := h.pos
    have hlt := h.lt
    have hl := idx h0 hlt
    have hi : 0 ≤ e.toInt ∧ e.toInt < 6000 := ⟨h0, by omega⟩
    obtain ⟨-, -, h3⟩ := h
    have g38 := gM_38 hB e.toNatClampNeg
    have g39 := gM_39 hB e.toNatClampNeg
    have g40 := gM_40 hB e.toNatClampNeg
    show OK (b_X12_with (f_X12_with d) e x2 x3 σ) _
    unfold b_X12_with
    refine ok_calp (s_X12_isOne (x1 := e) (σ := σ) hB (by omega)) (fun v1 h1 => ?_)
    refine ok_ite (fun c => ?_) (fun c => ?_)
    · rw [fa_eq, k_0] at c
      refine ok_calp (s_X12_isBoth (x1 := e) (σ := σ) hB (by omega)) (fun v3 h3b => ?_)
      refine ok_ite (fun c2 => ?_) (fun c2 => ?_)
      · refine ok_ix hi ?_
        refine ok_lt fun v5 e5 => ?_
        refine ok_jn ?_
        refine ok_ite (fun c3 => ?_) (fun c3 => ?_)
        · rw [fa_eq, k_2, e5] at c3
          refine ok_ix hi ?_
          refine ok_lt fun v8 e8 => ?_
          refine ok_ite (fun c4 => ?_) (fun c4 => ?_)
          · rw [fa_eq, e8] at c4
            refine ok_calv (mk_one hB (x1 := 3) (x2 := x3) (x3 := 0) (z := 1) (by omega) (by omega) (by omega) (by omega) (Or.inl ⟨rfl, by omega, by unfold LFB; omega⟩)) (fun v s q => ?_)
            obtain ⟨q1, q2, q3, q4, q5, q6, q7, -⟩ := q
            exact ok_ret ⟨q1, q2, q3, by (try dsimp only at q4 ⊢); omega, q6, q7.up hz hz, fun _ u => absurd c4 u⟩
          · exact ok_ret ⟨hB, FR.rf, NGr.rf, by (try dsimp only); omega, h0, hT, fun _ _ => rfl⟩
        · exact ok_ret ⟨hB, FR.rf, NGr.rf, by (try dsimp only); omega, h0, hT, fun _ _ => rfl⟩
      · rw [fa_eq, k_0] at c2
        have hb : 6 < (σ.1 38 e.toNatClampNeg).toInt := h3b.2.mp (by omega)
        obtain ⟨a, b, hab, ha, hb2⟩ : ∃ a b, a + b + 1 ≤ z ∧ TZ (σ.1 38) (σ.1 39) (σ.1 40) (σ.1 41 0).toInt d a (σ.1 39 e.toNatClampNeg).toNatClampNeg ∧ TZ (σ.1 38) (σ.1 39) (σ.1 40) (σ.1 41 0).toInt d b (σ.1 40 e.toNatClampNeg).toNatClampNeg := by
          rcases h3 with ⟨q, -⟩ | ⟨q, -⟩ | ⟨-, q⟩
          · omega
          · omega
          · exact q
        refine ok_ix hi ?_
        refine ok_lt fun v11 e11 => ?_
        subst e11
        refine ok_calv (ih a _ σ hB g39.1 ha (by omega)) (fun v12 s12 q => ?_)
        obtain ⟨q1, q2, q3, q4, q5, q6, -⟩ := q
        (try dsimp only at q1 q2 q3 q4 q5 q6)
        have n38 := (q3.2 _ hlt).1
        have n40 := (q3.2 _ hlt).2.2
        refine ok_ix hi ?_
        refine ok_lt fun v13 e13 => ?_
        rw [n38] at e13
        refine ok_ix hi ?_
        refine ok_lt fun v14 e14 => ?_
        rw [n40] at e14
        subst e14
        have g41b := gM_41 q1 0
        refine ok_calv (ih b _ s12 q1 g40.1 (TZ.mono q3.1 q3.2 hb2 (Nat.le_refl _) (Nat.le_refl _)) (by omega)) (fun v15 s15 u => ?_)
        obtain ⟨u1, u2, u3, u4, u5, u6, -⟩ := u
        (try dsimp only at u1 u2 u3 u4 u5 u6)
        have g41c := gM_41 u1 0
        have l12 := idx q5 (TZ.lt (TT.ng q6 u3 (Nat.le_refl _)))
        have l15 := idx u5 u6.lt
        refine ok_calv (mk_one u1 (x1 := v13) (x2 := v12) (x3 := v15) (z := z) (by rw [e13]; exact g38) (by omega) (by omega) (by omega) (Or.inr (Or.inr ⟨by rw [e13]; exact hb, a, b, hab, TT.ng q6 u3 (Nat.le_refl _), u6⟩))) (fun v s w => ?_)
        obtain ⟨w1, w2, w3, w4, w5, w6, w7, -⟩ := w
        exact ok_ret ⟨w1, FR.cal (FR.cal q2 u2 rfl rfl) w2 rfl rfl, (q3.tr u3).tr w3, by (try dsimp only at w4 ⊢); omega, w6, w7, fun u _ => by omega⟩
    · rw [fa_eq, k_0] at c
      have hk := h1.2.mp (by omega)
      have ht : TZ (σ.1 38) (σ.1 39) (σ.1 40) (σ.1 41 0).toInt d (z - 1) (σ.1 39 e.toNatClampNeg).toNatClampNeg := by
        rcases h3 with ⟨q, -⟩ | ⟨-, q⟩ | ⟨q, -⟩
        · omega
        · exact q
        · omega
      have hp := ht.pos
      refine ok_ix hi ?_
      refine ok_lt fun v17 e17 => ?_
      refine ok_ix hi ?_
      refine ok_lt fun v18 e18 => ?_
      subst e18
      refine ok_calv (ih _ _ σ hB g39.1 ht (by omega)) (fun v19 s19 q => ?_)
      obtain ⟨q1, q2, q3, q4, q5, q6, -⟩ := q
      (try dsimp only at q1 q2 q3 q4 q5 q6)
      have g41b := gM_41 q1 0
      have l19 := idx q5 q6.lt
      refine ok_calv (mk_one q1 (x1 := v17) (x2 := v19) (x3 := 0) (z := z) (by rw [e17]; exact g38) (by omega) (by omega) (by omega) (Or.inr (Or.inl ⟨by rw [e17]; exact hk, by omega, q6⟩))) (fun v s w => ?_)
      obtain ⟨w1, w2, w3, w4, w5, w6, w7, -⟩ := w
      exact ok_ret ⟨w1, FR.cal q2 w2 rfl rfl, q3.tr w3, by (try dsimp only at w4 ⊢); omega, w6, w7, fun u _ => by omega⟩
theorem i1 {x : Int32} (h : x.toInt < 2147483647) : (x + 1).toInt = x.toInt + 1 := by
  have r := tI_rng x
  have k_1 : (1 : Int32).toInt = 1 := by decide +kernel
  rw [fb_addI (by omega) (by omega), k_1]
theorem s_settles {σ : Sto} {y : Nat} {B p m c : Int} {b v : Int32} (hB : BM σ) (h : LSt σ y B p m c) (hb : 0 ≤ b.toInt ∧ b.toInt ≤ y) (hy : y ≤ 8) (hB6 : B ≤ 60) (hp : p ≤ 397) (hm : m ≤ 5000) : OK (f_X12_settles b v σ) (fun s => BM s ∧ FR FS_ [] σ s ∧ (NGr σ s ∧ SGr σ s) ∧ LSt s y B p m c ∧ ∀ j : Nat, b.toInt ≤ j → s.1 49 j = σ.1 49 j) := by
  have k_0 : (0 : Int32).toInt = 0 := by decide +kernel
  have k_1 : (1 : Int32).toInt = 1 := by decide +kernel
  unfold f_X12_settles
  refine ok_itr2 (fun n x s => n = (9 - x.toInt).toNat ∧ 0 ≤ x.toInt ∧ x.toInt ≤ b.toInt ∧ BM s ∧ FR FS_ [] σ s ∧ (NGr σ s ∧ SGr σ s) ∧ LSt s y B p m c ∧ ∀ j : Nat, b.toInt ≤ j → s.1 49 j = σ.1 49 j) ?_ (n := (9 - (0 : Int32).toInt).toNat) ⟨rfl, by omega, by omega, hB, FR.rf, ⟨NGr.rf, SGr.rf⟩, h, fun _ _ => rfl⟩ (by rw [k_0]; decide)
  intro ag n x s I ih
  obtain ⟨hn, x0, xb, b1, b2, b3, b4, b5⟩ := I
  refine ok_ite (fun cc => ?_) (fun cc => ?_)
  · exact ok_ret ⟨b1, b2, b3, b4, b5⟩
  · rw [fa_le] at cc
    have cx := clamp_I x0
    have ex : (x + 1).toInt = x.toInt + 1 := i1 (by omega)
    have cont : ∀ s5 : Sto, BM s5 → FR FS_ [] σ s5 → (NGr σ s5 ∧ SGr σ s5) → LSt s5 y B p m c → (∀ j : Nat, b.toInt ≤ j → s5.1 49 j = σ.1 49 j) → OK (ag (x + 1) s5) (fun s => BM s ∧ FR FS_ [] σ s ∧ (NGr σ s ∧ SGr σ s) ∧ LSt s y B p m c ∧ ∀ j : Nat, b.toInt ≤ j → s.1 49 j = σ.1 49 j) := fun s5 a1 a2 a3 a4 a5 => ih (9 - (x + 1).toInt).toNat (x + 1) s5 (by rw [hn, ex]; omega) ⟨rfl, by omega, by omega, a1, a2, a3, a4, a5⟩
    have hi : 0 ≤ x.toInt ∧ x.toInt < 8 := by omega
    have hky : x.toNatClampNeg < y := by omega
    have hat := b4.2.1.at hky hB6
    have g49 := gM_49 b1 x.toNatClampNeg
    have fresh : spI s (ly s x.toNatClampNeg) = 1 → OK (ix 8 x <| lt (s.1 49 x.toNatClampNeg) fun v_8 => calv (f_X12_freshX v_8 s) fun v_9 s_9 => ix 8 x <| lt (sti s_9 49 x.toNatClampNeg v_9) fun s_10 => lt (x + 1) fun x3_6 => ag x3_6 s_10) (fun s => BM s ∧ FR FS_ [] σ s ∧ (NGr σ s ∧ SGr σ s) ∧ LSt s y B p m c ∧ ∀ j : Nat, b.toInt ≤ j → s.1 49 j = σ.1 49 j) := by
      intro hsp
      refine ok_ix hi ?_
      refine ok_lt fun v8 e8 => ?_
      subst e8
      refine ok_calv (s_fresh b1 b4 (by omega) hm g49.1 hat.1) (fun v9 s9 q => ?_)
      obtain ⟨q1, q2, q3, q4, q5, q6, q7, q8⟩ := q
      (try dsimp only at q1 q2 q3 q4 q5 q6 q7 q8)
      refine ok_ix hi ?_
      refine ok_lt fun s10 e10 => ?_
      refine ok_lt fun x6 e6 => ?_
      subst e6
      have l9 := idx q5 q6.lt
      have g41 := gM_41 q1 0
      have lyq : ly s9 x.toNatClampNeg = ly s x.toNatClampNeg := by unfold ly; rw [q2.1 49 (by decide)]
      have sp0 : spI s9 (ly s9 x.toNatClampNeg) = 1 := by rw [lyq, sp_ng q3 hat.2]; exact hsp
      have ch0 := sp_ch s9 x.toNatClampNeg (ly s9 x.toNatClampNeg)
      have ch1 := ch_01 s9 x.toNatClampNeg (ly s9 x.toNatClampNeg)
      have ch2 := ch_01 s9 x.toNatClampNeg v9.toNatClampNeg
      have sp2 := sp3 q7
      have L := LSt.put q4 hky e10 (fun q u => q6.up u.pos u.pos)
      refine cont s10 (by rw [e10]; exact pM_49 q1 ⟨q5, by omega⟩) (by rw [e10]; exact FR.st (FR.cal b2 q2 rfl rfl) (by decide)) ⟨(b3.1.tr q3).tr (NGr.of (by rw [e10]; rfl) (by rw [e10]; rfl) (by rw [e10]; rfl) (by rw [e10]; rfl)), (b3.2.tr q8.2).tr (SGr.of (by rw [e10]; rfl) (by rw [e10]; rfl) (by rw [e10]; rfl) (by rw [e10]; rfl))⟩ (L.up (Int.le_refl _) (by omega) (Int.le_refl _) (Int.le_refl _)) (fun j hj => ?_)
      rw [e10, sti_j (by omega), q2.1 49 (by decide)]
      exact b5 j hj
    refine ok_ix hi ?_
    refine ok_lt fun v3 e3 => ?_
    subst e3
    refine ok_calp (sd_hasEffects b1 250 60 _ g49.1 (hat.1.up (by decide) (Nat.le_refl _))) (fun v4 h4 => ?_)
    refine ok_jn ?_
    refine ok_jn ?_
    refine ok_ite (fun c1 => ?_) (fun c1 => ?_)
    · refine ok_ite (fun c2 => ?_) (fun c2 => ?_)
      · refine ok_lt fun x6 e6 => ?_
        subst e6
        exact cont s b1 b2 b3 b4 b5
      · refine ok_ix hi ?_
        refine ok_lt fun v13 e13 => ?_
        subst e13
        refine ok_calp (sd_hasName b1 250 60 _ g49.1 (hat.1.up (by decide) (Nat.le_refl _))) (fun v14 h14 => ?_)
        refine ok_ite (fun c3 => ?_) (fun c3 => ?_)
        · refine ok_lt fun x6 e6 => ?_
          subst e6
          exact cont s b1 b2 b3 b4 b5
        · rw [fa_eq, k_0] at c3
          exact fresh (h14.2 k_1 (by have := h14.1; omega))
    · rw [fa_eq, k_0] at c1
      exact fresh (h4.2 (by have := h4.1; omega))
theorem s_alone {σ : Sto} {y : Nat} {B p m c : Int} {x : Int32} (hB : BM σ) (h : LSt σ y B p m c) (hy : y ≤ 8) (hB6 : B ≤ 60) (hp : p ≤ 396) (hm : m ≤ 5000) (h0 : 0 ≤ x.toInt) (ht : TT σ 60 x.toNatClampNeg) : OK (f_X12_alone x σ) (fun s => BM s ∧ FR FS_ [] σ s ∧ (NGr σ s ∧ SGr σ s) ∧ LSt s y B (p + spI σ x.toNatClampNeg) m c) := by
  have k_0 : (0 : Int32).toInt = 0 := by decide +kernel
  have k_4 : (4 : Int32).toInt = 4 := by decide +kernel
  have k_m : ((-1) : Int32).toInt = -1 := by decide +kernel
  have sp := sp_01 σ x.toNatClampNeg
  unfold f_X12_alone
  refine ok_calp (sd_hasEffects hB 250 60 _ h0 (ht.up (by decide) (Nat.le_refl _))) (fun v1 h1 => ?_)
  refine ok_ite (fun c1 => ?_) (fun c1 => ?_)
  · exact ok_ret ⟨hB, FR.rf, ⟨NGr.rf, SGr.rf⟩, h.up (Int.le_refl _) (by omega) (Int.le_refl _) (Int.le_refl _)⟩
  · rw [fa_eq, k_0] at c1
    have h11 := h1.1
    have h12 := h1.2 (by omega)
    refine ok_cals (s_settles hB h (by rw [h.1]; omega) hy hB6 (by omega) hm) (fun s3 q => ?_)
    obtain ⟨q1, q2, q3, q4, q5⟩ := q
    have tx := ht.ng q3.1 (Nat.le_refl _)
    have lx := idx h0 tx.lt
    have g41 := gM_41 q1 0
    refine ok_cals (s_stat q1 q4 (by omega) (k := 4) (w := (-1)) (x := x) (by omega) (by omega) (by omega) ⟨fun z => by omega, fun z => by omega, fun z => by omega, fun _ => ⟨h0, tx⟩, fun z => by omega⟩) (fun s4 u => ?_)
    obtain ⟨u1, u2, u3, u4, -, -, u5⟩ := u
    exact ok_ret ⟨u1, FR.cal q2 u2 rfl rfl, ⟨q3.1.tr u3, q3.2.tr u5⟩, u4.up (Int.le_refl _) (by omega) (Int.le_refl _) (by rw [k_4]; simp)⟩
theorem TT.leaf {σ : Sto} {z e : Nat} (h : TT σ z e) (hk : (σ.1 38 e).toInt ≤ 4) : TT σ 1 e := by
  have h2 := h.pos
  obtain ⟨w, rfl⟩ : ∃ w, z = w + 1 := ⟨z - 1, by omega⟩
  obtain ⟨h1, -, h3⟩ := h
  show TZ _ _ _ _ (0 + 1) 1 _
  rw [TZ.s]
  refine ⟨h1, Nat.le_refl _, Or.inl ⟨hk, ?_⟩⟩
  rcases h3 with ⟨-, q⟩ | ⟨q, -⟩ | ⟨q, -⟩
  · exact q
  · omega
  · omega
theorem s_doubles {σ : Sto} {y : Nat} {B p m c : Int} (hB : BM σ) (h : LSt σ (y + 1) B p m c) (hy : y ≤ 6) (hB6 : B ≤ 60) (hp : p ≤ 390) (hm : m ≤ 5000) : OK (f_X12_doubles σ) (fun s => BM s ∧ FR FL_ [] σ s ∧ (NGr σ s ∧ SGr σ s) ∧ LSt s (y + 2) (B + 1) (p + 4) m c) := by
  have k_0 : (0 : Int32).toInt = 0 := by decide +kernel
  unfold f_X12_doubles
  refine ok_calv (s_pop hB h) (fun v s q => ?_)
  obtain ⟨q1, q2, q3, q4, z, z1, z2, z3⟩ := q
  (try dsimp only at q1 q2 q3 q4 z1 z2 z3)
  have sp := sp_01 s v.toNatClampNeg
  have ch := ch_01 s y v.toNatClampNeg
  have lv := idx q4 z2.lt
  have g41 := gM_41 q1 0
  have g38 := gM_38 q1 v.toNatClampNeg
  have Bn := z3.2.1.nn
  have fin : ∀ (w : Int32) (s3 : Sto) (p3 : Int), BM s3 → FR FL_ [] σ s3 → (NGr σ s3 ∧ SGr σ s3) → LSt s3 y (B - z) p3 m c → 0 ≤ w.toInt → TT s3 1 w.toNatClampNeg → p3 + 2 * spI s3 w.toNatClampNeg + 2 * chI s3 y w.toNatClampNeg ≤ p + 2 → OK (cals (f_X12_lays w s3) fun s_4 => cals (f_X12_lays w s_4) fun s_5 => some s_5) (fun s => BM s ∧ FR FL_ [] σ s ∧ (NGr σ s ∧ SGr σ s) ∧ LSt s (y + 2) (B + 1) (p + 4) m c) := by
    intro w s3 p3 a1 a2 a3 a4 a5 a6 a7
    refine ok_cals (s_push a1 a4 (by omega) a5 a6) (fun s4 u => ?_)
    obtain ⟨u1, u2, u3⟩ := u
    have n4 : NGr s3 s4 := NGr.fr u2 rfl
    have t4 := a6.ng n4 (Nat.le_refl _)
    refine ok_cals (s_push u1 u3 (by omega) a5 t4) (fun s5 w5 => ?_)
    obtain ⟨w1, w2, w3⟩ := w5
    have e1 := sp_ng n4 a6.lt
    have c2 := ch_01 s4 (y + 1) w.toNatClampNeg
    have c3 := ch_01 s3 y w.toNatClampNeg
    have s3' := sp_01 s3 w.toNatClampNeg
    exact ok_ret ⟨w1, FR.cal (FR.cal a2 u2 rfl rfl) w2 rfl rfl, ⟨(a3.1.tr n4).tr (NGr.fr w2 rfl), (a3.2.tr (SGr.fr u2 rfl)).tr (SGr.fr w2 rfl)⟩, w3.up (by omega) (by omega) (Int.le_refl _) (Int.le_refl _)⟩
  refine ok_ix ⟨q4, by omega⟩ ?_
  refine ok_lt fun v2 e2 => ?_
  refine ok_jn ?_
  have n1 : NGr σ s ∧ SGr σ s := ⟨NGr.fr q2 rfl, SGr.fr q2 rfl⟩
  have f1 : FR FL_ [] σ s := FR.cal FR.rf q2 rfl rfl
  refine ok_ite (fun c1 => ?_) (fun c1 => ?_)
  · rw [fa_eq, k_0, e2] at c1
    exact fin v s _ q1 f1 n1 z3 q4 (z2.leaf (by omega)) (by omega)
  · rw [fa_eq, k_0, e2] at c1
    refine ok_calp (s_X12_isName (x1 := v) q1 (by omega)) (fun v7 h7 => ?_)
    refine ok_ite (fun c2 => ?_) (fun c2 => ?_)
    · rw [fa_eq, k_0] at c2
      have nk : ¬ ((s.1 38 v.toNatClampNeg).toInt = 1 ∨ (s.1 38 v.toNatClampNeg).toInt = 2 ∨ (s.1 38 v.toNatClampNeg).toInt = 3) := fun u => by have := h7.2.mpr u; omega
      have sp1 : spI s v.toNatClampNeg = 1 := by unfold spI; rw [if_pos (Or.inr (by omega))]
      have ch1 : 1 ≤ chI s y v.toNatClampNeg := by have := sp_ch s y v.toNatClampNeg; omega
      refine ok_cals (s_settles q1 z3 (by rw [z3.1]; omega) (by omega) (by omega) (by omega) hm) (fun s9 u => ?_)
      obtain ⟨u1, u2, u3, u4, -⟩ := u
      have t9 := z2.ng u3.1 (Nat.le_refl _)
      have zB : (z : Int) ≤ 60 := by
        obtain ⟨f, f1, f2⟩ := h.2.1
        have := z3.2.1.nn
        omega
      refine ok_calv (s_fresh u1 u4 (by omega) hm q4 (t9.up (by omega) (by omega))) (fun v10 s10 w => ?_)
      obtain ⟨w1, w2, w3, w4, w5, w6, w7, w8⟩ := w
      (try dsimp only at w1 w2 w3 w4 w5 w6 w7 w8)
      have sp10 := sp3 w7
      have ch10 := ch_01 s10 y v10.toNatClampNeg
      exact fin v10 s10 _ w1 (FR.cal (FR.cal f1 u2 rfl rfl) w2 rfl rfl) ⟨(n1.1.tr u3.1).tr w3, (n1.2.tr u3.2).tr w8.2⟩ w4 w5 w6 (by omega)
    · rw [fa_eq, k_0] at c2
      have h71 := h7.1
      have hk := h7.2.mp (by omega)
      exact fin v s _ q1 f1 n1 z3 q4 (z2.leaf (by omega)) (by omega)
