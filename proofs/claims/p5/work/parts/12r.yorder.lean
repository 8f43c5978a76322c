def SN (s : Sto) (i : Nat) : Prop := bL (s.2 2 0) i = true
def FI (s : Sto) (O : Nat → Prop) (u : Nat) : Prop := SN s u ∧ ¬ O u
def LVb (σ s : Sto) (k : Nat) : Prop := (∀ i, SN s i → i < nB σ) ∧ (s.1 35 0).toInt + (fb_ct (bL (s.2 2 0)) (nB σ) : Int) = (nB σ : Int) + k ∧ (s.1 35 0).toInt ≤ nB σ
def LVo (σ s : Sto) (O : Nat → Prop) : Prop := (∀ i, O i → SN s i) ∧ (∀ u, FI s O u → (s.1 35 0).toInt ≤ (s.1 33 u).toInt ∧ (s.1 33 u).toInt < nB σ) ∧ (∀ u v, FI s O u → FI s O v → (s.1 33 u).toInt = (s.1 33 v).toInt → u = v) ∧ (∀ e, KP σ e → FI s O (eA σ e) → SN s (eB σ e)) ∧ (∀ e, FW σ e → FI s O (eA σ e) → FI s O (eB σ e) ∧ (s.1 33 (eA σ e)).toInt < (s.1 33 (eB σ e)).toInt) ∧ (∀ P : Nat → Prop, P 0 → (∀ e, KP σ e → P (eA σ e) → SN s (eB σ e) → P (eB σ e)) → ∀ i, SN s i → P i)
theorem frO {σ s : Sto} (h : FR [33, 35] [2] σ s) {k : Nat} (hk : k ≠ 33 ∧ k ≠ 35) : s.1 k = σ.1 k := h.1 k (by simpa using hk)
set_option maxHeartbeats 1000000 in
theorem sd_leaves {σ : Sto} (hF : EFI σ) (r : Nat → Nat) (H : Prop) (hG : H → DOM σ σ ∧ BKe σ ∧ ∀ e, FW σ e → r (eA σ e) < r (eB σ e)) : ∀ (d : Nat) (b : Int32) (s : Sto) (O : Nat → Prop) (k : Nat), BM s → FR [33, 35] [2] σ s → LVb σ s k → (H → LVo σ s O) → 0 ≤ b.toInt → b.toNatClampNeg < nB σ → ¬ SN s b.toNatClampNeg → nB σ ≤ fb_ct (bL (s.2 2 0)) (nB σ) + d → (H → ∀ o, O o → r o < r b.toNatClampNeg) → (H → b.toNatClampNeg = 0 ∨ (SN s 0 ∧ ∃ e, KP σ e ∧ SN s (eA σ e) ∧ eB σ e = b.toNatClampNeg)) → OK (f_X12_leaves d b s) (fun t => BM t ∧ FR [33, 35] [2] σ t ∧ LVb σ t k ∧ (H → LVo σ t O) ∧ (∀ i, SN s i → SN t i) ∧ SN t b.toNatClampNeg) := by
  have k_0 : (0 : Int32).toInt = 0 := by decide +kernel
  intro d
  induction d with
  | zero =>
    intro b s O k hB hFR hb hO b0 bn ns hd _ _
    exfalso
    have := (fb_ct_all (p := bL (s.2 2 0)) (n := nB σ)).mp (by have := fb_ct_le (bL (s.2 2 0)) (nB σ); omega) _ bn
    exact ns this
  | succ d ih =>
    intro b s O k hB hFR hb hO b0 bn ns hd hr hg
    have hn := nB_le hB
    have hnσ : nB s = nB σ := by unfold nB; rw [frO hFR (by decide)]
    rw [hnσ] at hn
    have cb := clamp_I b0
    have b39 : b.toInt ≤ 39 := by omega
    show OK (b_X12_leaves (f_X12_leaves d) b s) _
    unfold b_X12_leaves
    refine ok_lt fun s1 e1 => ?_
    have B1 : BM s1 := by rw [e1]; exact BD.stl hB
    have F1 : FR [33, 35] [2] σ s1 := by rw [e1]; exact FR.stl hFR (by decide)
    have l1 : s1.2 2 0 = s.2 2 0 ||| ((1 : Int64) <<< (b.toInt64 &&& 63)) := by rw [e1, stl_if, if_pos rfl]
    have r1s : s1.1 = s.1 := by rw [e1]; rfl
    have sn1 : ∀ i, SN s1 i ↔ (SN s i ∨ i = b.toNatClampNeg) := fun i => by
      unfold SN
      rw [l1, bL_set b0 (by omega), Bool.or_eq_true]
      exact ⟨fun z => z.imp_right of_decide_eq_true, fun z => z.imp_right decide_eq_true⟩
    have nf : bL (s.2 2 0) b.toNatClampNeg = false := bf ns
    have ct1 : fb_ct (bL (s1.2 2 0)) (nB σ) = fb_ct (bL (s.2 2 0)) (nB σ) + 1 := by rw [l1]; exact set_ct b0 (by omega) bn nf
    have Lb1 : LVb σ s1 (k + 1) := ⟨fun i hi => by rcases (sn1 i).mp hi with z | z; exact hb.1 i z; rw [z]; exact bn, by have := hb.2.1; rw [r1s, ct1]; omega, by rw [r1s]; exact hb.2.2⟩
    have fi1 : ∀ u, FI s1 (fun i => O i ∨ i = b.toNatClampNeg) u ↔ FI s O u := fun u => by
      unfold FI
      rw [sn1]
      constructor
      · rintro ⟨z1, z2⟩
        exact ⟨z1.resolve_right (fun w => z2 (Or.inr w)), fun w => z2 (Or.inl w)⟩
      · rintro ⟨z1, z2⟩
        exact ⟨Or.inl z1, fun w => w.elim z2 (fun q => ns (by rw [← q]; exact z1))⟩
    have Lo1 : H → LVo σ s1 (fun i => O i ∨ i = b.toNatClampNeg) := fun h => by
      obtain ⟨o1, o2, o3, o4, o5, o6⟩ := hO h
      refine ⟨fun i hi => (sn1 i).mpr (hi.imp_left (o1 i)), fun u hu => ?_, fun u v hu hv q => ?_, fun e he hu => (sn1 _).mpr (Or.inl (o4 e he ((fi1 _).mp hu))), fun e he hu => ?_, fun P p1 p2 i hi => ?_⟩
      · rw [r1s]; exact o2 u ((fi1 u).mp hu)
      · rw [r1s] at q; exact o3 u v ((fi1 u).mp hu) ((fi1 v).mp hv) q
      · rw [r1s, fi1]; exact o5 e he ((fi1 _).mp hu)
      · have old : ∀ i, SN s i → P i := o6 P p1 (fun e he ha hs => p2 e he ha ((sn1 _).mpr (Or.inl hs)))
        rcases (sn1 i).mp hi with z | z
        · exact old i z
        · rw [z]
          rcases hg h with w | ⟨-, e, w1, w2, w3⟩
          · rw [w]; exact p1
          · rw [← w3]; exact p2 e w1 (old _ w2) ((sn1 _).mpr (Or.inr w3))
    have sb1 : SN s1 b.toNatClampNeg := (sn1 _).mpr (Or.inr rfl)
    have s01 : H → SN s1 0 := fun h => by
      rcases hg h with w | ⟨w, -⟩
      · exact (sn1 0).mpr (Or.inr w.symm)
      · exact (sn1 0).mpr (Or.inl w)
    refine ok_itr2 (fun n e t => n = (122 - e.toInt).toNat ∧ 0 ≤ e.toInt ∧ e.toInt ≤ 120 ∧ BM t ∧ FR [33, 35] [2] σ t ∧ LVb σ t (k + 1) ∧ (H → LVo σ t (fun i => O i ∨ i = b.toNatClampNeg)) ∧ (∀ i, SN s1 i → SN t i) ∧ (H → ∀ c : Nat, (c : Int) < e.toInt → KP σ c → eA σ c = b.toNatClampNeg → SN t (eB σ c) ∧ ((σ.1 31 c).toInt = 0 → FI t (fun i => O i ∨ i = b.toNatClampNeg) (eB σ c)))) ?_ (n := (122 - (0 : Int32).toInt).toNat) ⟨rfl, by omega, by omega, B1, F1, Lb1, Lo1, fun _ z => z, fun _ c hc => by omega⟩ (by rw [k_0]; decide)
    intro ag n e t I ih2
    obtain ⟨hnn, e0, e120, t1, t2, t3, t4, t5, t6⟩ := I
    have ce := clamp_I e0
    have q32 := frO t2 (show (32 : Nat) ≠ 33 ∧ 32 ≠ 35 by decide)
    have ctn := fb_ct_le (bL (t.2 2 0)) (nB σ)
    have g35 := gM_35 t1 0
    have ctm : fb_ct (bL (s1.2 2 0)) (nB σ) ≤ fb_ct (bL (t.2 2 0)) (nB σ) := fb_ct_sub (fun i _ z => t5 i z)
    refine ok_ite (fun c1 => ?_) (fun c1 => ?_)
    · rw [fa_le, q32] at c1
      have es : ((t.1 35 0) - 1).toInt = (t.1 35 0).toInt - 1 := by
        have := i_sub (x := t.1 35 0) (k := 1) (by decide) (by omega)
        rw [show (nI 1) = (1 : Int32) by decide +kernel] at this
        exact this
      have hs3 := t3.2.1
      have hs4 := t3.2.2
      refine ok_lt fun s4 e4 => ?_
      refine ok_ix (by omega) ?_
      refine ok_lt fun s5 e5 => ?_
      have v35 : (s4.1 35 0).toInt = (t.1 35 0).toInt - 1 := by rw [e4, sti_s]; exact es
      have B4 : BM s4 := by rw [e4]; exact pM_35 t1 (by omega)
      have F4 : FR [33, 35] [2] σ s4 := by rw [e4]; exact FR.st t2 (by decide)
      have l5 : s5.2 = t.2 := by rw [e5, e4]; rfl
      have w35 : s5.1 35 = s4.1 35 := by rw [e5]; rfl
      have w33 : ∀ j, s5.1 33 j = if j = b.toNatClampNeg then s4.1 35 0 else t.1 33 j := fun j => by rw [e5, sti_if, show s4.1 33 = t.1 33 by rw [e4]; rfl]
      have sn5 : ∀ i, SN s5 i ↔ SN t i := fun i => by unfold SN; rw [l5]
      refine ok_ret ⟨by rw [e5]; exact pM_33 B4 (by omega), by rw [e5]; exact FR.st F4 (by decide), ⟨fun i hi => t3.1 i ((sn5 i).mp hi), by rw [l5, w35]; omega, by rw [w35]; omega⟩, fun h => ?_, fun i hi => (sn5 i).mpr (t5 i ((sn1 i).mpr (Or.inl hi))), (sn5 _).mpr (t5 _ sb1)⟩
      obtain ⟨o1, o2, o3, o4, o5, o6⟩ := t4 h
      have a6 := t6 h
      have fi5 : ∀ u, FI s5 O u → u = b.toNatClampNeg ∨ FI t (fun i => O i ∨ i = b.toNatClampNeg) u := fun u hu => by
        by_cases q : u = b.toNatClampNeg
        · exact Or.inl q
        · exact Or.inr ⟨(sn5 u).mp hu.1, fun z => z.elim hu.2 q⟩
      have fb : ∀ u, FI t (fun i => O i ∨ i = b.toNatClampNeg) u → FI s5 O u ∧ u ≠ b.toNatClampNeg := fun u hu => ⟨⟨(sn5 u).mpr hu.1, fun z => hu.2 (Or.inl z)⟩, fun z => hu.2 (Or.inr z)⟩
      have ev : ∀ e', KP σ e' → eA σ e' = b.toNatClampNeg → (e' : Int) < e.toInt := fun e' he _ => by have := he.1; unfold nE at this; omega
      refine ⟨fun i hi => (sn5 i).mpr (o1 i (Or.inl hi)), fun u hu => ?_, fun u v hu hv q => ?_, fun e' he hu => ?_, fun e' he hu => ?_, fun P p1 p2 i hi => o6 P p1 (fun e' he ha hs => p2 e' he ha ((sn5 _).mpr hs)) i ((sn5 i).mp hi)⟩
      · rw [w33, w35]
        by_cases q : u = b.toNatClampNeg
        · rw [if_pos q]; exact ⟨Int.le_refl _, by omega⟩
        · rw [if_neg q]; have := o2 u ((fi5 u hu).resolve_left q); omega
      · rw [w33, w33] at q
        rcases fi5 u hu with z | z
        · rcases fi5 v hv with w | w
          · rw [z, w]
          · rw [if_pos z, if_neg (fb v w).2] at q
            have := o2 v w; omega
        · rcases fi5 v hv with w | w
          · rw [if_pos w, if_neg (fb u z).2] at q
            have := o2 u z; omega
          · rw [if_neg (fb u z).2, if_neg (fb v w).2] at q
            exact o3 u v z w q
      · rcases fi5 _ hu with z | z
        · exact (sn5 _).mpr (a6 e' (ev e' he z) he z).1
        · exact (sn5 _).mpr (o4 e' he z)
      · rw [w33, w33]
        rcases fi5 _ hu with z | z
        · have w := (a6 e' (ev e' he.1 z) he.1 z).2 he.2
          rw [if_pos z, if_neg (fb _ w).2]
          have := o2 _ w
          exact ⟨(fb _ w).1, by omega⟩
        · have w := o5 e' he z
          rw [if_neg (fb _ z).2, if_neg (fb _ w.1).2]
          exact ⟨(fb _ w.1).1, w.2⟩
    · rw [fa_le, q32] at c1
      have g32 := gM_32 hB 0
      rw [frO hFR (show (32 : Nat) ≠ 33 ∧ 32 ≠ 35 by decide)] at g32
      have ie : 0 ≤ e.toInt ∧ e.toInt < 120 := by omega
      have ex : (e + 1).toInt = e.toInt + 1 := i1 (by omega)
      have heE : e.toNatClampNeg < nE σ := by unfold nE; omega
      have hfe := hF e.toNatClampNeg heE
      have g28 := gM_28 t1 e.toNatClampNeg
      have q27 := frO t2 (show (27 : Nat) ≠ 33 ∧ 27 ≠ 35 by decide)
      have q28 := frO t2 (show (28 : Nat) ≠ 33 ∧ 28 ≠ 35 by decide)
      have q30 := frO t2 (show (30 : Nat) ≠ 33 ∧ 30 ≠ 35 by decide)
      have cont : ∀ u : Sto, BM u → FR [33, 35] [2] σ u → LVb σ u (k + 1) → (H → LVo σ u (fun i => O i ∨ i = b.toNatClampNeg)) → (∀ i, SN t i → SN u i) → (H → KP σ e.toNatClampNeg → eA σ e.toNatClampNeg = b.toNatClampNeg → SN u (eB σ e.toNatClampNeg) ∧ ((σ.1 31 e.toNatClampNeg).toInt = 0 → FI u (fun i => O i ∨ i = b.toNatClampNeg) (eB σ e.toNatClampNeg))) → OK (lt (e + 1) fun x2_8 => ag x2_8 u) _ := fun u u1 u2 u3 u4 u5 u6 => ok_lt fun x8 e8 => by
        subst e8
        refine ih2 (122 - (e + 1).toInt).toNat (e + 1) u (by rw [hnn, ex]; omega) ⟨rfl, by omega, by omega, u1, u2, u3, u4, fun i hi => u5 i (t5 i hi), fun h c hc hk ha => ?_⟩
        by_cases q : c = e.toNatClampNeg
        · rw [q] at hk ha ⊢; exact u6 h hk ha
        · have w := t6 h c (by omega) hk ha
          exact ⟨u5 _ w.1, fun z => ⟨u5 _ (w.2 z).1, (w.2 z).2⟩⟩
      refine ok_ix ie ?_
      refine ok_lt fun v6 e6 => ?_
      refine ok_jn ?_
      refine ok_ite (fun c2 => ?_) (fun c2 => ?_)
      · rw [fa_eq, e6, q27] at c2
        have hA : eA σ e.toNatClampNeg = b.toNatClampNeg := by have := (e39 t1 e.toNatClampNeg).2.2.1; unfold eA at this ⊢; rw [q27] at this; omega
        refine ok_ix ie ?_
        refine ok_lt fun v10 e10 => ?_
        refine ok_ite (fun c3 => ?_) (fun c3 => ?_)
        · rw [fa_eq, k_0, e10, q30] at c3
          have kp : KP σ e.toNatClampNeg := ⟨heE, c3⟩
          refine ok_ix ie ?_
          refine ok_lt fun v12 e12 => ?_
          subst e12
          refine ok_calp (s_has (x := t.2 2 0) g28) (fun v13 h13 => ?_)
          have hBq : (t.1 28 e.toNatClampNeg).toNatClampNeg = eB σ e.toNatClampNeg := by rw [q28]
          rw [hBq] at h13
          refine ok_ite (fun c4 => ?_) (fun c4 => ?_)
          · rw [fa_eq, k_0] at c4
            have nsv : ¬ SN t (eB σ e.toNatClampNeg) := fun z => by have := h13.2.mpr z; omega
            refine ok_ix ie ?_
            refine ok_lt fun v15 e15 => ?_
            subst e15
            -- the edge isn't back
            have fw : H → FW σ e.toNatClampNeg := fun h => by
              refine ⟨kp, ?_⟩
              by_cases z : (σ.1 31 e.toNatClampNeg).toInt = 0
              · exact z
              · exfalso
                have w := ((hG h).2.1 e.toNatClampNeg heE).mp z
                have w2 := ((hG h).1 _ hfe.1 _ hfe.2).mp w.2
                rcases w2 with w2 | w2
                · exact nsv (by rw [w2]; exact t5 0 (s01 h))
                · refine w2 (fun P p1 p2 => ?_)
                  rw [hA]
                  exact (t4 h).2.2.2.2.2 P p1 (fun e' he ha hs => p2 e' he ha (fun q => nsv (by rw [← q]; exact hs))) _ (t5 _ sb1)
            refine ok_cals (ih (t.1 28 e.toNatClampNeg) t (fun i => O i ∨ i = b.toNatClampNeg) (k + 1) t1 t2 t3 t4 g28.1 (by rw [hBq]; exact hfe.2) (by rw [hBq]; exact nsv) (by omega) (fun h o ho => ?_) (fun h => Or.inr ⟨t5 0 (s01 h), e.toNatClampNeg, kp, by rw [hA]; exact t5 _ sb1, hBq.symm⟩)) (fun u w => ?_)
            · rw [hBq]
              have := (hG h).2.2 _ (fw h)
              rw [hA] at this
              rcases ho with z | z
              · have := hr h o z; omega
              · rw [z]; exact this
            · obtain ⟨w1, w2, w3, w4, w5, w6⟩ := w
              rw [hBq] at w6
              exact cont u w1 w2 w3 w4 w5 (fun h _ _ => ⟨w6, fun _ => ⟨w6, fun z => nsv ((t4 h).1 _ z)⟩⟩)
          · rw [fa_eq, k_0] at c4
            have h131 := h13.1
            have hs : SN t (eB σ e.toNatClampNeg) := h13.2.mp (by omega)
            refine cont t t1 t2 t3 t4 (fun _ z => z) (fun h _ _ => ⟨hs, fun z => ⟨hs, fun w => ?_⟩⟩)
            have rk := (hG h).2.2 e.toNatClampNeg ⟨kp, z⟩
            rw [hA] at rk
            rcases w with w | w
            · have := hr h _ w; omega
            · rw [w] at rk; omega
        · rw [fa_eq, k_0, e10, q30] at c3
          exact cont t t1 t2 t3 t4 (fun _ z => z) (fun _ z => absurd z.2 c3)
      · rw [fa_eq, e6, q27] at c2
        exact cont t t1 t2 t3 t4 (fun _ z => z) (fun _ _ z => absurd (by have := (e39 t1 e.toNatClampNeg).2.2.1; unfold eA at this z; rw [q27] at this; omega) c2)
/-- the order: all have one, unlike; it rises by edges kept but those that are back -/
def ORD (s : Sto) : Prop := (∀ u v, u < nB s → v < nB s → (s.1 33 u).toInt = (s.1 33 v).toInt → u = v) ∧ (∀ e, FW s e → (s.1 33 (eA s e)).toInt < (s.1 33 (eB s e)).toInt) ∧ ∀ u, u < nB s → (s.1 33 u).toInt < nB s
theorem s_laysOrder {σ : Sto} (hB : BM σ) (hF : EFI σ) (h1 : 1 ≤ nB σ) : OK (f_X12_laysOrder σ) (fun s => BM s ∧ FR [33, 35] [2] σ s ∧ (GD σ → ORD s)) := by
  have k_0 : (0 : Int32).toInt = 0 := by decide +kernel
  have hn := nB_le hB
  unfold f_X12_laysOrder
  refine ok_lt fun s1 e1 => ?_
  refine ok_lt fun s2 e2 => ?_
  have r26 : s1.1 26 0 = σ.1 26 0 := by rw [e1]; rfl
  rw [r26] at e2
  have B1 : BM s1 := by rw [e1]; exact BD.stl hB
  have B2 : BM s2 := by rw [e2]; exact pM_35 B1 (by omega)
  have F2 : FR [33, 35] [2] σ s2 := by rw [e2, e1]; exact FR.st (FR.stl FR.rf (by decide)) (by decide)
  have l2 : s2.2 2 0 = 0 := by rw [e2, e1]; rfl
  have sn : ∀ i, ¬ SN s2 i := fun i z => by unfold SN at z; rw [l2, bL_0] at z; exact absurd z (by decide)
  have ct : fb_ct (bL (s2.2 2 0)) (nB σ) = 0 := by rw [l2]; exact fb_ct_zero.mpr (fun k _ => bL_0 k)
  have v35 : (s2.1 35 0).toInt = (σ.1 26 0).toInt := by rw [e2, sti_s]
  have main : ∀ r : Nat → Nat, (GD σ → ∀ e, FW σ e → r (eA σ e) < r (eB σ e)) → OK (cals (f_X12_leaves 250 0 s2) fun s_3 => some s_3) (fun s => BM s ∧ FR [33, 35] [2] σ s ∧ (GD σ → ORD s)) := by
    intro r hr
    refine ok_cals (sd_leaves hF r (GD σ) (fun h => ⟨h.2.1, h.2.2.1, hr h⟩) 250 0 s2 (fun _ => False) 0 B2 F2 ⟨fun i hi => absurd hi (sn i), by rw [ct, v35]; omega, by rw [v35]; omega⟩ (fun h => ⟨fun i hi => hi.elim, fun u hu => absurd hu.1 (sn u), fun u v hu => absurd hu.1 (sn u), fun e he hu => absurd hu.1 (sn _), fun e he hu => absurd hu.1 (sn _), fun P _ _ i hi => absurd hi (sn i)⟩) (by omega) h1 (sn _) (by omega) (fun h o ho => ho.elim) (fun h => Or.inl rfl)) (fun t w => ?_)
    obtain ⟨w1, w2, w3, w4, w5, w6⟩ := w
    refine ok_ret ⟨w1, w2, fun h => ?_⟩
    obtain ⟨o1, o2, o3, o4, o5, o6⟩ := w4 h
    have nb : nB t = nB σ := by unfold nB; rw [frO w2 (by decide)]
    have all : ∀ b, b < nB σ → FI t (fun _ => False) b := fun b hb => ⟨h.1 b hb (fun i => SN t i) w6 (fun e he ha => o4 e he ⟨ha, fun z => z⟩), fun z => z⟩
    have g33 := gM_33 w1
    have fe : ∀ e, FW t e ↔ FW σ e := fun e => by unfold FW; rw [KP.cg (frO w2 (by decide)) (frO w2 (by decide)), frO w2 (by decide)]
    have ea : ∀ e, eA t e = eA σ e ∧ eB t e = eB σ e := fun e => by unfold eA eB; rw [frO w2 (by decide), frO w2 (by decide)]; exact ⟨rfl, rfl⟩
    refine ⟨fun u v hu hv q => o3 u v (all u (by rw [← nb]; exact hu)) (all v (by rw [← nb]; exact hv)) q, fun e he => ?_, fun u hu => by rw [nb]; exact (o2 u (all u (by rw [← nb]; exact hu))).2⟩
    have he := (fe e).mp he
    rw [(ea e).1, (ea e).2]
    exact (o5 e he (all _ (hF e he.1.1).1)).2
  by_cases h : GD σ
  · obtain ⟨r, hr⟩ := h.2.2.2
    exact main r (fun _ e he => hr e he (hF e he.1.1).2)
  · exact main (fun _ => 0) (fun z => absurd z h)
