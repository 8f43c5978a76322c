def OI (σ s : Sto) (b : Nat) (F : Int) (N : Nat → Int) : Prop := BM s ∧ FR FT_ [] σ s ∧ 0 ≤ F ∧ F ≤ nC σ ∧ (b < nB σ → F ≤ fiR σ b) ∧ (s.1 47 0).toInt ≤ 4 * F + b ∧ (s.1 41 0).toInt ≤ (s.1 47 0).toInt + (7 * F + 54 * b) ∧ (OCt s : Int) ≤ F ∧ (s.1 48 0).toInt ≤ (s.1 47 0).toInt ∧ WSt s ∧ N b = (s.1 47 0).toInt ∧ (∀ j, j < b → (s.1 45 j).toInt = N j) ∧ (∀ j, j ≤ b → 0 ≤ N j ∧ N j ≤ (s.1 47 0).toInt) ∧ (∀ j, j < b → N j ≤ N (j + 1) ∧ (enI (sG σ (laR σ j)) → N j + 1 ≤ N (j + 1) ∧ 5 ≤ (s.1 42 ((N (j + 1)).toNat - 1)).toInt)) ∧ (∀ j, j < b → (s.1 46 j).toInt = -1 ∨ (0 ≤ (s.1 46 j).toInt ∧ TT s 60 (s.1 46 j).toNatClampNeg)) ∧ (∀ j, j < b → FORK σ j → (s.1 46 j).toInt ≠ -1)
theorem OI.nx {σ s t : Sto} {b : Nat} {F F2 : Int} {N : Nat → Int} (h : OI σ s b F N) (b1 : BM t) (fr : FR FT_ [] σ t) (ng : NGr s t) (sg : SGr s t) (h2 : 0 ≤ F2 ∧ F2 ≤ nC σ) (h3 : b + 1 < nB σ → F2 ≤ fiR σ (b + 1)) (h4 : (t.1 47 0).toInt ≤ 4 * F2 + (b + 1)) (h5 : (t.1 41 0).toInt ≤ (t.1 47 0).toInt + (7 * F2 + 54 * (b + 1))) (h6 : (OCt t : Int) ≤ F2) (h7 : (t.1 48 0).toInt ≤ (t.1 47 0).toInt) (h8 : WSt t) (h9 : ∀ j, (t.1 45 j) = if j = b then s.1 47 0 else s.1 45 j) (h10 : ∀ j, j ≠ b → t.1 46 j = s.1 46 j) (h11 : (t.1 46 b).toInt = -1 ∨ (0 ≤ (t.1 46 b).toInt ∧ TT t 60 (t.1 46 b).toNatClampNeg)) (h12 : FORK σ b → (t.1 46 b).toInt ≠ -1) (h13 : enI (sG σ (laR σ b)) → ENk s t) : OI σ t (b + 1) F2 (fun j => if j = b + 1 then (t.1 47 0).toInt else N j) := by
  obtain ⟨a1, a2, a3, a4, a5, a6, a7, a8, a9, a10, a11, a12, a13, a14, a15, a16⟩ := h
  have g47 := gM_47 a1 0
  have sg1 := sg.1
  refine ⟨b1, fr, h2.1, h2.2, h3, by omega, by omega, h6, h7, h8, if_pos rfl, fun j hj => ?_, fun j hj => ?_, fun j hj => ?_, fun j hj => ?_, fun j hj => ?_⟩
  · (try dsimp only)
    rw [h9, if_neg (show ¬ j = b + 1 by omega)]
    by_cases q : j = b
    · rw [if_pos q, q]; exact a11.symm
    · rw [if_neg q]; exact a12 j (by omega)
  · (try dsimp only)
    by_cases q : j = b + 1
    · rw [if_pos q]; omega
    · rw [if_neg q]; have := a13 j (by omega); omega
  · (try dsimp only)
    by_cases q : j = b
    · subst q
      rw [if_neg (show ¬ j = j + 1 by omega), if_pos rfl, a11]
      refine ⟨sg1, fun z => ?_⟩
      have := h13 z
      exact ⟨this.1, this.2⟩
    · rw [if_neg (show ¬ j = b + 1 by omega), if_neg (show ¬ j + 1 = b + 1 by omega)]
      have o := a14 j (by omega)
      refine ⟨o.1, fun z => ⟨(o.2 z).1, ?_⟩⟩
      have o1 := (o.2 z).1
      have k1 := a13 (j + 1) (by omega)
      have k0 := a13 j (by omega)
      rw [(sg.2 ((N (j + 1)).toNat - 1) (by omega)).1]
      exact (o.2 z).2
  · by_cases q : j = b
    · rw [q]; exact h11
    · rw [h10 j q]
      exact (a15 j (by omega)).imp_right (fun z => ⟨z.1, z.2.ng ng (Nat.le_refl _)⟩)
  · by_cases q : j = b
    · rw [q]; exact h12
    · rw [h10 j q]; exact a16 j (by omega)
set_option maxHeartbeats 1000000 in
theorem s_laysStatements {σ : Sto} (hB : BM σ) (hQ : QL σ) (hK : BK σ) : OK (f_X12_laysStatements σ) (fun s => BM s ∧ FR FT_ [] σ s ∧ STS s) := by
  have k_0 : (0 : Int32).toInt = 0 := by decide +kernel
  have k_2 : (2 : Int32).toInt = 2 := by decide +kernel
  have k_m1 : ((-1) : Int32).toInt = -1 := by decide +kernel
  have k_112 : (112 : Int32).toInt = 112 := by decide +kernel
  have k_122 : (122 : Int32).toInt = 122 := by decide +kernel
  have hC := nC_le hB
  have hn := nB_le hB
  unfold f_X12_laysStatements
  refine ok_lt fun s1 e1 => ?_
  refine ok_lt fun s2 e2 => ?_
  refine ok_lt fun s3 e3 => ?_
  refine ok_lt fun s4 e4 => ?_
  have B4 : BM s4 := by rw [e4]; refine pM_51 ?_ (by omega); rw [e3]; refine pM_41 ?_ (by omega); rw [e2]; refine pM_48 ?_ (by omega); rw [e1]; exact pM_47 hB (by omega)
  have F4 : FR FT_ [] σ s4 := by rw [e4, e3, e2, e1]; exact FR.st (FR.st (FR.st (FR.st FR.rf (by decide)) (by decide)) (by decide)) (by decide)
  have z47 : (s4.1 47 0).toInt = 0 := by rw [e4, e3, e2, e1]; exact k_0
  have z48 : (s4.1 48 0).toInt = 0 := by rw [e4, e3, e2]; exact k_0
  have z41 : (s4.1 41 0).toInt = 0 := by rw [e4, e3]; exact k_0
  have zoc : OCt s4 = 0 := by unfold OCt; rw [z47]; rfl
  refine ok_itr2 (fun n x s => n = (41 - x.toInt).toNat ∧ 0 ≤ x.toInt ∧ x.toInt ≤ (nB σ : Int) ∧ ∃ F N, OI σ s x.toNatClampNeg F N) ?_ (n := (41 - (0 : Int32).toInt).toNat) ⟨rfl, by omega, by omega, 0, fun _ => 0, B4, F4, Int.le_refl _, by omega, fun _ => by omega, by rw [z47, show (0 : Int32).toNatClampNeg = 0 from rfl]; decide, by rw [z41, z47, show (0 : Int32).toNatClampNeg = 0 from rfl]; decide, by rw [zoc]; decide, by rw [z47, z48]; decide, fun j hj => by omega, z47.symm, fun j hj => absurd hj (Nat.not_lt_zero _), fun j hj => ⟨Int.le_refl _, Int.le_of_eq z47.symm⟩, fun j hj => absurd hj (Nat.not_lt_zero _), fun j hj => absurd hj (Nat.not_lt_zero _), fun j hj => absurd hj (Nat.not_lt_zero _)⟩ (by rw [k_0]; decide)
  intro ag n x s I ih
  obtain ⟨hnn, x0, xb, F, N, hO⟩ := I
  have hO' := hO
  obtain ⟨a1, a2, a3, a4, a5, a6, a7, a8, a9, a10, a11, a12, a13, a14, a15, a16⟩ := hO
  have cx := clamp_I x0
  have e26 : s.1 26 = σ.1 26 := frT a2 (by decide)
  have g47 := gM_47 a1 0
  refine ok_ite (fun c1 => ?_) (fun c1 => ?_)
  · rw [fa_le, e26] at c1
    have xe : x.toNatClampNeg = nB σ := by omega
    have c26 := clamp_I (x := s.1 26 0) (by rw [e26]; omega)
    have n26 : (s.1 26 0).toNatClampNeg = nB σ := by rw [e26] at c26 ⊢; omega
    refine ok_ix (by rw [e26]; omega) ?_
    refine ok_lt fun s7 e7 => ?_
    rw [n26] at e7
    have e45 : ∀ j, (s7.1 45 j).toInt = if j = nB σ then (s.1 47 0).toInt else (s.1 45 j).toInt := fun j => by
      rw [e7, sti_if]; split <;> rfl
    have ng : NGr s s7 := NGr.of (by rw [e7]; rfl) (by rw [e7]; rfl) (by rw [e7]; rfl) (by rw [e7]; rfl)
    have F7 : FR FT_ [] σ s7 := by rw [e7]; exact FR.st a2 (by decide)
    have nb7 : nB s7 = nB σ := by unfold nB; rw [frT F7 (by decide)]
    have la7 : ∀ b, laR s7 b = laR σ b := fun b => by unfold laR; rw [frT F7 (by decide)]
    have sg7 : sG s7 = sG σ := by unfold sG; rw [frT F7 (by decide)]
    have Nx : ∀ j, j ≤ nB σ → (s7.1 45 j).toInt = N j := fun j hj => by
      rw [e45]
      by_cases q : j = nB σ
      · rw [if_pos q, q, ← xe]; exact a11.symm
      · rw [if_neg q]; exact a12 j (by omega)
    have e47 : s7.1 47 = s.1 47 := by rw [e7]; rfl
    have e42 : s7.1 42 = s.1 42 := by rw [e7]; rfl
    have e46 : s7.1 46 = s.1 46 := by rw [e7]; rfl
    refine ok_ret ⟨by rw [e7]; exact pM_45 a1 ⟨by omega, by omega⟩, F7, a10.ng ng e42 (by rw [e7]; rfl) (by rw [e7]; rfl) e47, ?_, ?_, fun b hb => ?_, fun b hb => ?_, fun b hb hf => ?_⟩
    · rw [show OCt s7 = OCt s by rw [e7]; rfl]; omega
    · rw [show s7.1 48 = s.1 48 by rw [e7]; rfl, e47]; exact a9
    · rw [nb7] at hb
      rw [Nx b (by omega), Nx (b + 1) (by omega), la7, sg7, e47, e42]
      have o := a14 b (by omega)
      exact ⟨(a13 b (by omega)).1, o.1, (a13 (b + 1) (by omega)).2, o.2⟩
    · rw [nb7] at hb
      rw [e46]
      exact (a15 b (by omega)).imp_right (fun z => ⟨z.1, z.2.ng ng (Nat.le_refl _)⟩)
    · rw [nb7] at hb
      rw [e46]
      exact a16 b (by omega) ((FORK.cg (frT F7 (by decide)) (frT F7 (by decide)) (frT F7 (by decide)) (frT F7 (by decide))).mp hf)
  · rw [fa_le, e26] at c1
    have hb : x.toNatClampNeg < nB σ := by omega
    have ex : (x + 1).toInt = x.toInt + 1 := i1 (by omega)
    have nx : (x + 1).toNatClampNeg = x.toNatClampNeg + 1 := by have := clamp_I (x := x + 1) (by omega); omega
    have hF := a5 hb
    obtain ⟨k1, k2, k3, k4, k5, k6, k7, k8, k9⟩ := hK.at_ hB hQ hb
    generalize hf : fiR σ x.toNatClampNeg = f at *
    generalize hl : laR σ x.toNatClampNeg = l at *
    have hdf := (k8 f (Nat.le_refl _) k3).1
    have hd6 := hQ.2.2.2.2.2.2.1
    refine ok_ix (by omega) ?_
    refine ok_lt fun s8 e8 => ?_
    refine ok_ix (by omega) ?_
    refine ok_lt fun s9 e9 => ?_
    refine ok_lt fun s10 e10 => ?_
    have B10 : BM s10 := by rw [e10]; refine pM_50 ?_ (by omega); rw [e9]; refine pM_46 ?_ (by omega); rw [e8]; exact pM_45 a1 ⟨by omega, by omega⟩
    have F10 : FR FT_ [] σ s10 := by rw [e10, e9, e8]; exact FR.st (FR.st (FR.st a2 (by decide)) (by decide)) (by decide)
    have ng10 : NGr s s10 := NGr.of (by rw [e10, e9, e8]; rfl) (by rw [e10, e9, e8]; rfl) (by rw [e10, e9, e8]; rfl) (by rw [e10, e9, e8]; rfl)
    have sg10 : SGr s s10 := SGr.of (by rw [e10, e9, e8]; rfl) (by rw [e10, e9, e8]; rfl) (by rw [e10, e9, e8]; rfl) (by rw [e10, e9, e8]; rfl)
    have q47 : s10.1 47 = s.1 47 := by rw [e10, e9, e8]; rfl
    have q41 : s10.1 41 = s.1 41 := by rw [e10, e9, e8]; rfl
    have q48 : s10.1 48 = s.1 48 := by rw [e10, e9, e8]; rfl
    have q42 : s10.1 42 = s.1 42 := by rw [e10, e9, e8]; rfl
    have q45 : ∀ j, s10.1 45 j = if j = x.toNatClampNeg then s.1 47 0 else s.1 45 j := fun j => by rw [show s10.1 45 = s8.1 45 by rw [e10, e9]; rfl, e8, sti_if]
    have q46 : ∀ j, s10.1 46 j = if j = x.toNatClampNeg then (-1) else s.1 46 j := fun j => by rw [show s10.1 46 = s9.1 46 by rw [e10]; rfl, e9, sti_if, show s8.1 46 = s.1 46 by rw [e8]; rfl]
    have L10 : LSt s10 0 0 (4 * F + x.toNatClampNeg) (7 * F + 54 * x.toNatClampNeg) F := LSt.zero (by rw [e10, sti_s]; exact k_0) (by rw [q47]; exact a6) (by rw [q47, q41]; exact a7) (by unfold OCt at a8 ⊢; rw [q47, q42]; exact a8) (by rw [q47, q48]; exact a9) (a10.ng ng10 q42 (by rw [e10, e9, e8]; rfl) (by rw [e10, e9, e8]; rfl) q47)
    have dv : (σ.1 20 f).toInt = dP σ f := (dP_lt (by omega)).symm
    have d6 := hd6 f
    have xi : 0 ≤ x.toInt ∧ x.toInt < 40 := by omega
    -- the block is told; the next one
    have next : ∀ t : Sto, BM t → FR FT_ [] σ t → (NGr s10 t ∧ SGr s10 t) → (∀ j, t.1 45 j = s10.1 45 j) → (∀ j, j ≠ x.toNatClampNeg → t.1 46 j = s10.1 46 j) → ((t.1 46 x.toNatClampNeg).toInt = -1 ∨ (0 ≤ (t.1 46 x.toNatClampNeg).toInt ∧ TT t 60 (t.1 46 x.toNatClampNeg).toNatClampNeg)) → (FORK σ x.toNatClampNeg → (t.1 46 x.toNatClampNeg).toInt ≠ -1) → (enI (sG σ l) → ENk s10 t) → (t.1 47 0).toInt ≤ 4 * F + x.toNatClampNeg + 4 * ((l : Int) + 1 - f) + 1 → (t.1 41 0).toInt ≤ (t.1 47 0).toInt + (7 * F + 54 * x.toNatClampNeg + 54 + 7 * ((l : Int) + 1 - f)) → (OCt t : Int) ≤ F + ((l : Int) + 1 - f) → (t.1 48 0).toInt ≤ (t.1 47 0).toInt → WSt t → OK (lt (x + 1) fun x1_25 => ag x1_25 t) (fun s => BM s ∧ FR FT_ [] σ s ∧ STS s) := by
      intro t t1 t2 t3 t4 t5 t6 t7 t8 t9 t10 t11 t12 t13
      refine ok_lt fun x25 e25 => ?_
      subst e25
      refine ih (41 - (x + 1).toInt).toNat (x + 1) t (by rw [hnn, ex]; omega) ⟨rfl, by omega, by omega, (l : Int) + 1, (fun j => if j = x.toNatClampNeg + 1 then (t.1 47 0).toInt else N j), ?_⟩
      rw [nx]
      refine hO'.nx t1 t2 (ng10.tr t3.1) (sg10.tr t3.2) ⟨by omega, by omega⟩ (fun z => ?_) (by omega) (by omega) (by omega) t12 t13 (fun j => by rw [t4, q45]) (fun j hj => by rw [t5 j hj, q46, if_neg hj]) t6 t7 (fun z => ?_)
      · have := hK.nx_ hB hQ z
        rw [hl] at this; omega
      · rw [hl] at z
        exact (t8 z).pre sg10
    -- T's
    refine ok_itr2 (fun n k t => n = (8 - k.toInt).toNat ∧ 0 ≤ k.toInt ∧ k.toInt ≤ dP σ f ∧ BM t ∧ FR FT_ [] σ t ∧ (NGr s10 t ∧ SGr s10 t) ∧ (∀ j, t.1 45 j = s10.1 45 j) ∧ (∀ j, t.1 46 j = s10.1 46 j) ∧ LSt t k.toNatClampNeg k.toInt (4 * F + x.toNatClampNeg) (7 * F + 54 * x.toNatClampNeg + k.toInt) F) ?_ (n := (8 - (0 : Int32).toInt).toNat) ⟨rfl, by omega, by omega, B10, F10, ⟨NGr.rf, SGr.rf⟩, fun _ => rfl, fun _ => rfl, L10.up (by omega) (Int.le_refl _) (by omega) (Int.le_refl _)⟩ (by rw [k_0]; decide)
    intro ag1 n1 k t I1 ih1
    obtain ⟨hn1, k0, kd, b1, b2, b3, b4, b5, b6⟩ := I1
    have ck := clamp_I k0
    have c22 : (σ.1 22 x.toNatClampNeg).toNatClampNeg = f := by have := clamp_I (x := σ.1 22 x.toNatClampNeg) (by omega); omega
    refine ok_ix xi ?_
    rw [frT b2 (show (22 : Nat) < 38 ∨ 51 < 22 by decide)]
    refine ok_lt fun v12 e12 => ?_
    subst e12
    refine ok_ix (by omega) ?_
    rw [frT b2 (show (20 : Nat) < 38 ∨ 51 < 20 by decide), c22]
    refine ok_lt fun v13 e13 => ?_
    refine ok_ite (fun c2 => ?_) (fun c2 => ?_)
    · rw [fa_le, e13, dv] at c2
      have ky : (k.toNatClampNeg : Int) = dP σ f := by omega
      refine ok_lt fun v15 e15 => ?_
      refine ok_lt fun s16 e16 => ?_
      have g50 := gM_50 b1 0
      have g51 := gM_51 b1 0
      have m15 := mx_spec e15
      have B16 : BM s16 := by rw [e16]; exact pM_51 b1 (by omega)
      have F16 : FR FT_ [] σ s16 := by rw [e16]; exact FR.st b2 (by decide)
      have f16 : FR [51] [] t s16 := by rw [e16]; exact FR.st FR.rf (by decide)
      have L16 := b6.fr f16 rfl
      refine ok_ix xi ?_
      rw [frT F16 (show (22 : Nat) < 38 ∨ 51 < 22 by decide)]
      refine ok_lt fun v17 e17 => ?_
      -- instructions
      refine ok_itr2 (fun n i t => n = (42 - i.toInt).toNat ∧ (f : Int) ≤ i.toInt ∧ i.toInt ≤ (l : Int) + 1 ∧ BM t ∧ FR FT_ [] σ t ∧ (NGr s10 t ∧ SGr s10 t) ∧ (∀ j, t.1 45 j = s10.1 45 j) ∧ (∀ j, j ≠ x.toNatClampNeg → t.1 46 j = s10.1 46 j) ∧ ∃ y C : Nat, LSt t y (6 + (i.toInt - f) - C) (4 * F + x.toNatClampNeg + 4 * (i.toInt - f)) (7 * F + 54 * x.toNatClampNeg + 6 + (i.toInt - f)) (F + (i.toInt - f)) ∧ y ≤ 6 ∧ (i.toInt ≤ (l : Int) → (y : Int) = dP σ i.toNatClampNeg ∧ C = 0 ∧ (t.1 46 x.toNatClampNeg).toInt = -1) ∧ ((C = 0 ∧ (t.1 46 x.toNatClampNeg).toInt = -1) ∨ (0 ≤ (t.1 46 x.toNatClampNeg).toInt ∧ TT t C (t.1 46 x.toNatClampNeg).toNatClampNeg)) ∧ ((l : Int) < i.toInt → (enI (sG σ l) → ENk s10 t) ∧ (FORK σ x.toNatClampNeg → (t.1 46 x.toNatClampNeg).toInt ≠ -1))) ?_ (n := (42 - v17.toInt).toNat) ⟨rfl, by rw [e17]; omega, by rw [e17]; omega, B16, F16, ⟨b3.1.tr (NGr.fr f16 rfl), b3.2.tr (SGr.fr f16 rfl)⟩, fun j => by rw [f16.1 45 (by decide)]; exact b4 j, fun j _ => by rw [f16.1 46 (by decide)]; exact b5 j, k.toNatClampNeg, 0, L16.up (by rw [e17]; omega) (by rw [e17]; omega) (by rw [e17]; omega) (by rw [e17]; omega), by omega, fun _ => ⟨by rw [e17, c22]; exact ky, rfl, by rw [f16.1 46 (by decide), b5, q46, if_pos rfl]; exact k_m1⟩, Or.inl ⟨rfl, by rw [f16.1 46 (by decide), b5, q46, if_pos rfl]; exact k_m1⟩, fun z => by rw [e17] at z; omega⟩ (by unfold LF; rw [e17]; omega)
      intro ag2 n2 i u I2 ih2
      obtain ⟨hn2, i0, il, u1, u2, u3, u4, u5, y, C, u6, u7, u8, u9, u10⟩ := I2
      have ci := clamp_I (x := i) (by omega)
      have c23 : (σ.1 23 x.toNatClampNeg).toNatClampNeg = l := by have := clamp_I (x := σ.1 23 x.toNatClampNeg) (by omega); omega
      have nnB := u6.2.1.nn
      refine ok_ix xi ?_
      rw [frT u2 (show (23 : Nat) < 38 ∨ 51 < 23 by decide)]
      refine ok_lt fun v19 e19 => ?_
      refine ok_ite (fun c3 => ?_) (fun c3 => ?_)
      · rw [fa_lt, e19] at c3
        have ie : i.toInt = (l : Int) + 1 := by omega
        have h10 := u10 (by omega)
        refine ok_ix xi ?_
        refine ok_lt fun v21 e21 => ?_
        subst e21
        refine ok_ix (by omega) ?_
        rw [c23, frT u2 (show (9 : Nat) < 38 ∨ 51 < 9 by decide)]
        refine ok_lt fun v22 e22 => ?_
        have g9 := gM_9 hB l
        have e22' : v22.toInt = sG σ l := by rw [e22]; rfl
        refine ok_calp (s_X12_isOneOf_s109 (x1 := v22) (by rw [e22]; exact g9)) (fun v23 h23 => ?_)
        rw [e22'] at h23
        refine ok_jn ?_
        refine ok_ite (fun c4 => ?_) (fun c4 => ?_)
        · rw [fa_eq, k_0] at c4
          refine ok_lt fun v27 e27 => ?_
          refine ok_lt fun s28 e28 => ?_
          have h50 := gM_50 u1 0
          have h51 := gM_51 u1 0
          have m27 := mx_spec e27
          have B28 : BM s28 := by rw [e28]; exact pM_51 u1 (by omega)
          have F28 : FR FT_ [] σ s28 := by rw [e28]; exact FR.st u2 (by decide)
          have f28 : FR [51] [] u s28 := by rw [e28]; exact FR.st FR.rf (by decide)
          have ng28 : NGr u s28 := NGr.fr f28 rfl
          have L28 := u6.fr f28 rfl
          have cC : (C : Int) ≤ 6 + (i.toInt - f) := by omega
          refine ok_cals (s_endsBlock (C := C) (D := 6 + (i.toInt - f) + 2) B28 L28 u7 xi ?_ (by omega) ⟨by omega, by omega⟩ (by omega) (by omega)) (fun s29 w => ?_)
          · rw [f28.1 46 (by decide)]
            exact u9.imp (fun z => z.2) (fun z => ⟨z.1, z.2.ng ng28 (Nat.le_refl _)⟩)
          · obtain ⟨w1, w2, w3, w4, w5, w6, w7, w8, w9, w10, w11⟩ := w
            refine next s29 w1 (FR.cal F28 w2 rfl rfl) ⟨(u3.1.tr ng28).tr w3.1, (u3.2.tr (SGr.fr f28 rfl)).tr w3.2⟩ (fun j => by rw [w2.1 45 (by decide), f28.1 45 (by decide)]; exact u4 j) (fun j hj => by rw [w4 j hj, f28.1 46 (by decide)]; exact u5 j hj) w5 (fun z => ?_) (fun z => ?_) (by omega) (by omega) (by omega) w10 w11
            · intro q
              have := w6.mp q
              rw [f28.1 46 (by decide)] at this
              exact h10.2 z this
            · exfalso
              have := h23.2.mpr (by unfold enI at z; omega)
              omega
        · have B6 : (C : Int) ≤ 6 + (i.toInt - f) := by omega
          have st := u6.st
          have hno := u6.2.2.2.1
          exact next u u1 u2 u3 u4 u5 (u9.imp (fun z => z.2) (fun z => ⟨z.1, z.2.up (by omega) (by omega)⟩)) h10.2 h10.1 (by omega) (by omega) (by have := u6.2.2.2.2.1; omega) u6.2.2.2.2.2.1 u6.2.2.2.2.2.2
      · rw [fa_lt, e19] at c3
        have ile : i.toInt ≤ (l : Int) := by omega
        obtain ⟨yi, c0, cm⟩ := u8 ile
        subst c0
        have iN : i.toNatClampNeg < nC σ := by omega
        obtain ⟨hdi, hin⟩ := k8 i.toNatClampNeg (by omega) (by omega)
        have okp := hQ.ok hB iN hdi
        have gv0 := gv_0 (sG σ i.toNatClampNeg)
        have nd0 := nd_0 (sG σ i.toNatClampNeg)
        have d6i := hd6 i.toNatClampNeg
        have exi : (i + 1).toInt = i.toInt + 1 := i1 (by omega)
        have nxi : (i + 1).toNatClampNeg = i.toNatClampNeg + 1 := by have := clamp_I (x := i + 1) (by omega); omega
        have vg := hQ.2.1 i.toNatClampNeg iN
        have g9 := gM_9 hB i.toNatClampNeg
        have g10 := gM_10 hB i.toNatClampNeg
        have es : sG σ i.toNatClampNeg = (σ.1 9 i.toNatClampNeg).toInt := rfl
        have em : nM σ i.toNatClampNeg = (σ.1 10 i.toNatClampNeg).toInt := rfl
        have st := u6.st
        -- behind an instruction
        have cont : ∀ t : Sto, BM t → FR FT_ [] σ t → (NGr s10 t ∧ SGr s10 t) → (∀ j, t.1 45 j = s10.1 45 j) → (∀ j, j ≠ x.toNatClampNeg → t.1 46 j = s10.1 46 j) → (∃ y C : Nat, LSt t y (6 + (i.toInt + 1 - f) - C) (4 * F + x.toNatClampNeg + 4 * (i.toInt + 1 - f)) (7 * F + 54 * x.toNatClampNeg + 6 + (i.toInt + 1 - f)) (F + (i.toInt + 1 - f)) ∧ y ≤ 6 ∧ (i.toInt < (l : Int) → (y : Int) = dP σ (i.toNatClampNeg + 1) ∧ C = 0 ∧ (t.1 46 x.toNatClampNeg).toInt = -1) ∧ ((C = 0 ∧ (t.1 46 x.toNatClampNeg).toInt = -1) ∨ (0 ≤ (t.1 46 x.toNatClampNeg).toInt ∧ TT t C (t.1 46 x.toNatClampNeg).toNatClampNeg)) ∧ (i.toInt = (l : Int) → (enI (sG σ l) → ENk s10 t) ∧ (FORK σ x.toNatClampNeg → (t.1 46 x.toNatClampNeg).toInt ≠ -1))) → OK (lt (i + 1) fun x2_32 => ag2 x2_32 t) (fun s => BM s ∧ FR FT_ [] σ s ∧ STS s) := by
          intro t t1 t2 t3 t4 t5 ht
          obtain ⟨y', C', h1, h2, h3, h4, h5⟩ := ht
          refine ok_lt fun x32 e32 => ?_
          subst e32
          refine ih2 (42 - (i + 1).toInt).toNat (i + 1) t (by rw [hn2, exi]; omega) ⟨rfl, by omega, by omega, t1, t2, t3, t4, t5, y', C', by rw [exi]; exact h1, h2, fun z => ?_, h4, fun z => h5 (by omega)⟩
          rw [nxi]; exact h3 (by omega)
        -- lifted
        have lift : ∀ c : Int32, VG c.toInt (nM σ i.toNatClampNeg) → c.toInt ≠ 122 → ndI c.toInt = ndI (sG σ i.toNatClampNeg) → gvI c.toInt = gvI (sG σ i.toNatClampNeg) → (0 ≤ c.toInt ∧ c.toInt ≤ 255) → ((sG σ i.toNatClampNeg = 116 ∨ sG σ i.toNatClampNeg = 114) → c.toInt = sG σ i.toNatClampNeg) → (i.toInt = (l : Int) → ¬ FORK σ x.toNatClampNeg) → OK (ix 40 i <| lt (u.1 10 i.toNatClampNeg) fun v_36 => cals (f_X12_lifts c v_36 u) fun s_37 => lt (i + 1) fun x2_32 => ag2 x2_32 s_37) (fun s => BM s ∧ FR FT_ [] σ s ∧ STS s) := by
          intro c hv hz hnd hgv hc hen hfk
          refine ok_ix (by omega) ?_
          rw [frT u2 (show (10 : Nat) < 38 ∨ 51 < 10 by decide)]
          refine ok_lt fun v36 e36 => ?_
          have e36' : v36.toInt = nM σ i.toNatClampNeg := by rw [e36]; rfl
          refine ok_cals (s_lifts (y2 := (dP σ i.toNatClampNeg - ndI (sG σ i.toNatClampNeg) + gvI (sG σ i.toNatClampNeg)).toNat) (x1 := c) (x2 := v36) u1 u6 (by rw [e36']; exact hv) (by rw [e36']; omega) hz (by rw [hnd, yi]; exact okp.1) (by rw [hnd, hgv, yi]; have := okp.1; omega) u7 (by have := okp.2.1; omega) (by omega) (by omega) (by omega) hc) (fun s37 w => ?_)
          obtain ⟨w1, w2, w3, w4, w5⟩ := w
          have c46 : s37.1 46 = u.1 46 := w2.1 46 (by decide)
          refine cont s37 w1 (FR.cal u2 w2 rfl rfl) ⟨u3.1.tr w3.1, u3.2.tr w3.2⟩ (fun j => by rw [w2.1 45 (by decide)]; exact u4 j) (fun j hj => by rw [c46]; exact u5 j hj) ⟨_, 0, w4.up (by omega) (by omega) (by omega) (by omega), by have := okp.2.1; omega, fun z => ?_, Or.inl ⟨rfl, by rw [c46]; exact cm⟩, fun z => ⟨fun q => ?_, fun q => absurd q (hfk z)⟩⟩
          · have := (hin (by omega)).1.2.2
            rw [this]
            exact ⟨by have := okp.1; omega, rfl, by rw [c46]; exact cm⟩
          · rw [show l = i.toNatClampNeg by omega] at q
            have q' : sG σ i.toNatClampNeg = 116 ∨ sG σ i.toNatClampNeg = 114 := q
            exact (w5 (by rw [hen q']; exact q')).pre u3.2
        refine ok_ix (by omega) ?_
        rw [frT u2 (show (9 : Nat) < 38 ∨ 51 < 9 by decide)]
        refine ok_lt fun v30 e30 => ?_
        refine ok_jn ?_
        refine ok_jn ?_
        refine ok_ite (fun c4 => ?_) (fun c4 => ?_)
        · rw [fa_eq, k_122, e30] at c4
          have c4' : sG σ i.toNatClampNeg = 122 := c4
          have iel : i.toInt = (l : Int) := by
            by_cases z : i.toInt < (l : Int)
            · exact absurd (Or.inr c4') (hin (by omega)).1.2.1
            · omega
          have fq : ∀ k, k = 9 ∨ k = 10 ∨ k = 11 ∨ k = 15 ∨ k = 16 ∨ k = 20 → u.1 k = σ.1 k := fun k hk => frT u2 (by omega)
          have fk := FORK.cg (b := x.toNatClampNeg) (frT u2 (show (9 : Nat) < 38 ∨ 51 < 9 by decide)) (frT u2 (show (10 : Nat) < 38 ∨ 51 < 10 by decide)) (frT u2 (show (23 : Nat) < 38 ∨ 51 < 23 by decide)) (frT u2 (show (24 : Nat) < 38 ∨ 51 < 24 by decide))
          refine ok_calp (s_isForked (x1 := x) u1 (hQ.cg fq) (hK.cg fq (frT u2 (by decide)) (frT u2 (by decide)) (frT u2 (by decide)) (frT u2 (by decide))) x0 (by unfold nB; rw [frT u2 (show (26 : Nat) < 38 ∨ 51 < 26 by decide)]; exact hb)) (fun v41 h41 => ?_)
          rw [fk] at h41
          refine ok_ite (fun c5 => ?_) (fun c5 => ?_)
          · rw [fa_eq, k_0] at c5
            refine ok_ix (by omega) ?_
            refine ok_lt fun v34 e34 => ?_
            refine ok_jn ?_
            refine ok_ite (fun _ => ?_) (fun c6 => ?_)
            · refine lift 112 ⟨fun z => by omega, fun z => by omega, by rw [k_112]; exact Or.inl (by omega)⟩ (by omega) (by rw [k_112, c4']; decide) (by rw [k_112, c4']; decide) (by omega) (fun z => by omega) (fun _ z => by have := h41.2.mpr z; omega)
            · rw [fa_eq, k_122, e34] at c6; exact absurd c4 c6
          · rw [fa_eq, k_0] at c5
            have h411 := h41.1
            have y1 : 1 ≤ y := by
              have := okp.1
              rw [c4'] at this
              have q : ndI 122 = 1 := by decide
              omega
            obtain ⟨y', rfl⟩ : ∃ q, y = q + 1 := ⟨y - 1, by omega⟩
            refine ok_calv (s_pop u1 u6) (fun v43 s43 w => ?_)
            obtain ⟨w1, w2, w3, w4, z, w5, w6, w7⟩ := w
            (try dsimp only at w1 w2 w3 w4 w5 w6 w7)
            have sp := sp_01 s43 v43.toNatClampNeg
            have ch := ch_01 s43 y' v43.toNatClampNeg
            refine ok_ix xi ?_
            refine ok_lt fun s44 e44 => ?_
            have l43 := idx w4 w6.lt
            have g41 := gM_41 w1 0
            have f44 : FR [46] [] s43 s44 := by rw [e44]; exact FR.st FR.rf (by decide)
            have c46 : s44.1 46 x.toNatClampNeg = v43 := by rw [e44, sti_s]
            refine cont s44 (by rw [e44]; exact pM_46 w1 ⟨by omega, by omega⟩) (FR.cal (FR.cal u2 w2 rfl rfl) f44 rfl rfl) ⟨(u3.1.tr (NGr.fr w2 rfl)).tr (NGr.fr f44 rfl), (u3.2.tr (SGr.fr w2 rfl)).tr (SGr.fr f44 rfl)⟩ (fun j => by rw [f44.1 45 (by decide), w2.1 45 (by decide)]; exact u4 j) (fun j hj => by rw [e44, sti_j hj, w2.1 46 (by decide)]; exact u5 j hj) ⟨y', z, (w7.fr f44 rfl).up (by omega) (by omega) (by omega) (by omega), by omega, fun q => by omega, Or.inr ⟨by rw [c46]; exact w4, by rw [c46]; exact w6.ng (NGr.fr f44 rfl) (Nat.le_refl _)⟩, fun _ => ⟨fun q => ?_, fun _ => by rw [c46]; omega⟩⟩
            exfalso
            rw [show l = i.toNatClampNeg by omega] at q
            unfold enI at q; omega
        · rw [fa_eq, k_122, e30] at c4
          have c4' : sG σ i.toNatClampNeg ≠ 122 := c4
          refine ok_ix (by omega) ?_
          refine ok_lt fun v34 e34 => ?_
          refine ok_jn ?_
          refine ok_ite (fun c6 => ?_) (fun _ => ?_)
          · rw [fa_eq, k_122, e34] at c6; exact absurd c6 c4
          · refine ok_ix (by omega) ?_
            refine ok_lt fun v39 e39 => ?_
            have e39' : v39.toInt = sG σ i.toNatClampNeg := by rw [e39]; rfl
            refine lift v39 (by rw [e39']; exact vg) (by rw [e39']; exact c4') (by rw [e39']) (by rw [e39']) (by omega) (fun _ => e39') (fun z q => c4' ?_)
            have := q.1
            rw [hl, show l = i.toNatClampNeg by omega] at this
            exact this
    · rw [fa_le, e13, dv] at c2
      have g41 := gM_41 b1 0
      have stt := b6.st
      have hno := b6.2.2.2.1
      refine ok_calv (mk_one b1 (x1 := 2) (x2 := k) (x3 := 0) (z := 1) (by omega) (by omega) (by omega) (by omega) (Or.inl ⟨rfl, by omega, by unfold LFB; omega⟩)) (fun v45 s45 w => ?_)
      obtain ⟨w1, w2, w3, w4, w5, w6, w7, w8, w9⟩ := w
      (try dsimp only at w1 w2 w3 w4 w5 w6 w7 w8 w9)
      have L45 := b6.nodes (q := 1) w3 w2 (by omega)
      refine ok_cals (s_push w1 L45 (by omega) w6 w7) (fun s46 r => ?_)
      obtain ⟨r1, r2, r3⟩ := r
      refine ok_lt fun x47 e47 => ?_
      subst e47
      have exk : (k + 1).toInt = k.toInt + 1 := i1 (by omega)
      have nxk : (k + 1).toNatClampNeg = k.toNatClampNeg + 1 := by have := clamp_I (x := k + 1) (by omega); omega
      have sp0 : spI s45 v45.toNatClampNeg = 0 := by unfold spI; rw [w8, if_neg (by omega)]
      have ch0 : chI s45 k.toNatClampNeg v45.toNatClampNeg = 0 := by unfold chI; rw [w8, w9, if_pos ⟨k_2, by omega⟩]
      refine ih1 (8 - (k + 1).toInt).toNat (k + 1) s46 (by rw [hn1, exk]; omega) ⟨rfl, by omega, by omega, r1, FR.cal (FR.cal b2 w2 rfl rfl) r2 rfl rfl, ⟨(b3.1.tr w3).tr (NGr.fr r2 rfl), (b3.2.tr (SGr.fr w2 rfl)).tr (SGr.fr r2 rfl)⟩, fun j => by rw [r2.1 45 (by decide), w2.1 45 (by decide)]; exact b4 j, fun j => by rw [r2.1 46 (by decide), w2.1 46 (by decide)]; exact b5 j, ?_⟩
      rw [nxk, exk]
      exact r3.up (by omega) (by omega) (by omega) (by omega)
