abbrev nC (σ : Sto) : Nat := (σ.1 15 0).toInt.toNat
abbrev nH (σ : Sto) : Nat := (σ.1 16 0).toInt.toNat
abbrev sG (σ : Sto) : Nat → Int := ri (σ.1 9)
abbrev nM (σ : Sto) : Nat → Int := ri (σ.1 10)
abbrev fR (σ : Sto) : Nat → Int := ri (h3 (σ.1 11) 0)
abbrev uP (σ : Sto) : Nat → Int := ri (h3 (σ.1 11) 1)
abbrev gO (σ : Sto) : Nat → Int := ri (h3 (σ.1 11) 2)
abbrev dP (σ : Sto) : Nat → Int := mk (nC σ) (σ.1 20)
abbrev cT (σ : Sto) : Nat → Prop := CUTC (nC σ) (nH σ) (sG σ) (nM σ) (fR σ) (uP σ) (gO σ) (dP σ)
/-- what is laid is right -/
def QL (σ : Sto) : Prop := 1 ≤ (σ.1 15 0).toInt ∧ (∀ i, i < nC σ → VG (sG σ i) (nM σ i)) ∧ LDP (nC σ) (nH σ) (sG σ) (nM σ) (fR σ) (uP σ) (gO σ) ∧ RIG (nC σ) (nH σ) (sG σ) (nM σ) (fR σ) (uP σ) (gO σ) (dP σ)
theorem QL.cg {σ s : Sto} (h : QL σ) (e : ∀ k, k = 9 ∨ k = 10 ∨ k = 11 ∨ k = 15 ∨ k = 16 ∨ k = 20 → s.1 k = σ.1 k) : QL s := by
  unfold QL dP nC nH sG nM fR uP gO at h ⊢
  rw [e 9 (by decide), e 10 (by decide), e 11 (by decide), e 15 (by decide), e 16 (by decide), e 20 (by decide)]
  exact h
theorem cT.cg {σ s : Sto} (e : ∀ k, k = 9 ∨ k = 10 ∨ k = 11 ∨ k = 15 ∨ k = 16 ∨ k = 20 → s.1 k = σ.1 k) : cT s = cT σ ∧ dP s = dP σ ∧ nC s = nC σ := by
  unfold cT dP nC nH sG nM fR uP gO
  rw [e 9 (by decide), e 10 (by decide), e 11 (by decide), e 15 (by decide), e 16 (by decide), e 20 (by decide)]
  exact ⟨rfl, rfl, rfl⟩
theorem QL.d0 {σ : Sto} (h : QL σ) : dP σ 0 = 0 := h.2.2.2.2.2.1
theorem QL.nx {σ : Sto} (h : QL σ) : NXP (nC σ) (dP σ) (cT σ) (fun j => gOnI (sG σ j) ∧ ¬ gElI (sG σ j) ∧ dP σ (j + 1) = dP σ j - ndI (sG σ j) + gvI (sG σ j)) := RIG.nx h.2.2.2
theorem dP_lt {σ : Sto} {i : Nat} (h : i < nC σ) : dP σ i = (σ.1 20 i).toInt := mk_lt h
theorem nC_le {σ : Sto} (hB : BM σ) : nC σ ≤ 40 ∧ (nC σ : Int) = (σ.1 15 0).toInt := by
  have := gM_15 hB 0
  unfold nC; omega
theorem nH_le {σ : Sto} (hB : BM σ) : nH σ ≤ 3 ∧ (nH σ : Int) = (σ.1 16 0).toInt := by
  have := gM_16 hB 0
  unfold nH; omega
theorem s_isCutAhead {σ : Sto} {x1 : Int32} (hB : BM σ) (hQ : QL σ) (hx : 0 ≤ x1.toInt ∧ x1.toInt < (σ.1 15 0).toInt) (hd : dP σ x1.toNatClampNeg ≠ -1) : OK (f_X12_isCutAhead x1 σ) (fun v => (0 ≤ v.toInt ∧ v.toInt ≤ 1) ∧ (v.toInt = 1 ↔ bgP (dP σ) (cT σ) x1.toNatClampNeg = true)) := by
  have k_0 : (0 : Int32).toInt = 0 := by decide +kernel
  have k_1 : (1 : Int32).toInt = 1 := by decide +kernel
  have k_3 : (3 : Int32).toInt = 3 := by decide +kernel
  have g15 := gM_15 hB 0
  have g16 := gM_16 hB 0
  have hC := nC_le hB
  have hH := nH_le hB
  have c1 := clamp_I hx.1
  have key : ∀ b : Bool, bgP (dP σ) (cT σ) x1.toNatClampNeg = b → ∀ v : Int32, v.toInt = (if b = true then 1 else 0) → OK (some v) (fun v => (0 ≤ v.toInt ∧ v.toInt ≤ 1) ∧ (v.toInt = 1 ↔ bgP (dP σ) (cT σ) x1.toNatClampNeg = true)) := by
    intro b hb v hv
    cases b
    · rw [if_neg (by decide)] at hv
      exact ok_ret ⟨by omega, by rw [hb, hv]; decide⟩
    · rw [if_pos rfl] at hv
      exact ok_ret ⟨by omega, by rw [hb, hv]; decide⟩
  have yes : bgP (dP σ) (cT σ) x1.toNatClampNeg = true → OK (some (1 : Int32)) (fun v => (0 ≤ v.toInt ∧ v.toInt ≤ 1) ∧ (v.toInt = 1 ↔ bgP (dP σ) (cT σ) x1.toNatClampNeg = true)) := fun h => key true h 1 k_1
  -- what is not cut by the one ahead of it
  have rest : (x1.toInt = 0 ∨ (gOnI (sG σ (x1.toNatClampNeg - 1)) ∧ sG σ (x1.toNatClampNeg - 1) ≠ 122 ∧ dP σ (x1.toNatClampNeg - 1) ≠ -1)) → OK (itr (fun _ => none) (fun (a_35 : Int32 → Option Int32) (x2_2 : Int32) => (
      if (σ.1 15 0) ≤ x2_2 then (
        itr (fun _ => none) (fun (a_83 : Int32 → Option Int32) (x2_4 : Int32) => (
          if ((3 : Int32) * (σ.1 16 0)) ≤ x2_4 then (
            if x1 = 0 then (
              some (1 : Int32)
            ) else (
              some (0 : Int32)
            )
          ) else (
            ix 9 x2_4 <| lt (σ.1 11 x2_4.toNatClampNeg) fun v_7 =>
            if v_7 = x1 then (
              some (1 : Int32)
            ) else (
              lt (x2_4 + 1) fun x2_9 =>
              a_83 x2_9
            )
          )
        )) LF (0 : Int32)
      ) else (
        calp (f_X12_isCome x2_2 σ) fun v_10 =>
        jn (
          lt (x2_2 + 1) fun x2_12 =>
          a_35 x2_12
        ) fun k_75 =>
        if v_10 = 0 then (
          k_75
        ) else (
          ix 40 x2_2 <| lt (σ.1 9 x2_2.toNatClampNeg) fun v_14 =>
          calp (f_X12_goesTo v_14) fun v_15 =>
          if v_15 = 0 then (
            k_75
          ) else (
            ix 40 x2_2 <| lt (σ.1 10 x2_2.toNatClampNeg) fun v_17 =>
            if v_17 = x1 then (
              some (1 : Int32)
            ) else (
              k_75
            )
          )
        )
      )
    )) LF (0 : Int32)) (fun v => (0 ≤ v.toInt ∧ v.toInt ≤ 1) ∧ (v.toInt = 1 ↔ bgP (dP σ) (cT σ) x1.toNatClampNeg = true)) := by
    intro hr
    refine ok_itr1 (fun n k => n = (41 - k.toInt).toNat ∧ 0 ≤ k.toInt ∧ k.toInt ≤ (σ.1 15 0).toInt ∧ ∀ j : Nat, (j : Int) < k.toInt → ¬ (dP σ j ≠ -1 ∧ gElI (sG σ j) ∧ nM σ j = x1.toInt)) ?_ (n := (41 - (0 : Int32).toInt).toNat) ⟨rfl, by omega, by omega, fun j hj => by omega⟩ (by rw [k_0]; decide)
    intro ag n k I ih
    obtain ⟨hn, a0, a1, a2⟩ := I
    have ck := clamp_I a0
    refine ok_ite (fun c2 => ?_) (fun c2 => ?_)
    · rw [fa_le] at c2
      have h3m : ((3 : Int32) * (σ.1 16 0)).toInt = 3 * (σ.1 16 0).toInt := by have h := fb_mulI (x := 3) (y := σ.1 16 0) (by rw [k_3]; omega) (by rw [k_3]; omega); rw [h, k_3]
      refine ok_itr1 (fun n k => n = (10 - k.toInt).toNat ∧ 0 ≤ k.toInt ∧ k.toInt ≤ 3 * (σ.1 16 0).toInt ∧ ∀ j : Nat, (j : Int) < k.toInt → (σ.1 11 j).toInt ≠ x1.toInt) ?_ (n := (10 - (0 : Int32).toInt).toNat) ⟨rfl, by omega, by omega, fun j hj => by omega⟩ (by rw [k_0]; decide)
      intro ag2 n2 q I2 ih2
      obtain ⟨hn2, b0, b1, b2⟩ := I2
      have cq := clamp_I b0
      refine ok_ite (fun c3 => ?_) (fun c3 => ?_)
      · rw [fa_le, h3m] at c3
        refine ok_ite (fun c4 => ?_) (fun c4 => ?_)
        · rw [fa_eq, k_0] at c4
          exact yes (bgP_t.mpr ⟨hd, Or.inr (by omega)⟩)
        · rw [fa_eq, k_0] at c4
          have hr2 := hr.resolve_left c4
          refine key false (bgP_f.mpr (fun z => ?_)) 0 (by rw [if_neg (by decide)]; exact k_0)
          rcases z.2 with (⟨j, j1, j2, j3⟩ | ⟨j, j1, j2⟩) | j
          · rcases j3 with ⟨j3, j4 | j4⟩ | ⟨j3, j4⟩
            · have l := hQ.2.2.1.1 j j1 j3
              have g10 := gM_10 hB j
              have e10 : nM σ j = (σ.1 10 j).toInt := rfl
              exact a2 j (by omega) ⟨j2, j3, by omega⟩
            · rw [show x1.toNatClampNeg - 1 = j by omega] at hr2
              have := hr2.1; have := hr2.2.1; omega
            · rw [show x1.toNatClampNeg - 1 = j by omega] at hr2
              have := hr2.1; omega
          · have e0 : fR σ j = (σ.1 11 (3 * j + 0)).toInt := rfl
            have e1 : uP σ j = (σ.1 11 (3 * j + 1)).toInt := rfl
            have e2 : gO σ j = (σ.1 11 (3 * j + 2)).toInt := rfl
            have g0 := gM_11 hB (3 * j + 0)
            have g1 := gM_11 hB (3 * j + 1)
            have g2 := gM_11 hB (3 * j + 2)
            have n0 := b2 (3 * j + 0) (by omega)
            have n1 := b2 (3 * j + 1) (by omega)
            have n2' := b2 (3 * j + 2) (by omega)
            rcases j2 with j2 | j2 | j2
            · rw [e0] at j2; omega
            · rw [e1] at j2; omega
            · rw [e2] at j2; omega
          · omega
      · rw [fa_le, h3m] at c3
        refine ok_ix (by omega) ?_
        refine ok_lt fun v7 e7 => ?_
        refine ok_ite (fun c4 => ?_) (fun c4 => ?_)
        · rw [fa_eq, e7] at c4
          refine yes (bgP_t.mpr ⟨hd, Or.inl (Or.inr ⟨q.toNatClampNeg / 3, by omega, ?_⟩)⟩)
          have g := gM_11 hB q.toNatClampNeg
          have hm : q.toNatClampNeg = 3 * (q.toNatClampNeg / 3) + q.toNatClampNeg % 3 := by omega
          have hm2 : q.toNatClampNeg % 3 = 0 ∨ q.toNatClampNeg % 3 = 1 ∨ q.toNatClampNeg % 3 = 2 := by omega
          rcases hm2 with z | z | z
          · refine Or.inl ?_
            show (σ.1 11 (3 * (q.toNatClampNeg / 3) + 0)).toInt.toNat = _
            rw [show 3 * (q.toNatClampNeg / 3) + 0 = q.toNatClampNeg by omega]; omega
          · refine Or.inr (Or.inl ?_)
            show (σ.1 11 (3 * (q.toNatClampNeg / 3) + 1)).toInt.toNat = _
            rw [show 3 * (q.toNatClampNeg / 3) + 1 = q.toNatClampNeg by omega]; omega
          · refine Or.inr (Or.inr ?_)
            show (σ.1 11 (3 * (q.toNatClampNeg / 3) + 2)).toInt.toNat = _
            rw [show 3 * (q.toNatClampNeg / 3) + 2 = q.toNatClampNeg by omega]; omega
        · rw [fa_eq, e7] at c4
          refine ok_lt fun x9 e9 => ?_
          subst e9
          have ex : (q + 1).toInt = q.toInt + 1 := i1 (by omega)
          refine ih2 (10 - (q + 1).toInt).toNat (q + 1) (by rw [hn2, ex]; omega) ⟨rfl, by omega, by omega, fun j hj => ?_⟩
          by_cases z : j = q.toNatClampNeg
          · rw [z]; exact c4
          · exact b2 j (by omega)
    · rw [fa_le] at c2
      have ex : (k + 1).toInt = k.toInt + 1 := i1 (by omega)
      have hk : k.toNatClampNeg < nC σ := by omega
      have cont : ¬ (dP σ k.toNatClampNeg ≠ -1 ∧ gElI (sG σ k.toNatClampNeg) ∧ nM σ k.toNatClampNeg = x1.toInt) → OK (lt (k + 1) fun x2_12 => ag x2_12) _ := fun hno => ok_lt fun x12 e12 => by
        subst e12
        refine ih (41 - (k + 1).toInt).toNat (k + 1) (by rw [hn, ex]; omega) ⟨rfl, by omega, by omega, fun j hj => ?_⟩
        by_cases z : j = k.toNatClampNeg
        · rw [z]; exact hno
        · exact a2 j (by omega)
      refine ok_calp (s_X12_isCome (x1 := k) hB (by omega)) (fun v10 h10 => ?_)
      refine ok_jn ?_
      refine ok_ite (fun c3 => ?_) (fun c3 => ?_)
      · rw [fa_eq, k_0] at c3
        refine cont (fun z => ?_)
        have := h10.2.mpr (by rw [← dP_lt hk]; exact z.1)
        omega
      · rw [fa_eq, k_0] at c3
        have h101 := h10.1
        have hc := h10.2.mp (by omega)
        rw [← dP_lt hk] at hc
        refine ok_ix (by omega) ?_
        refine ok_lt fun v14 e14 => ?_
        have g9 := gM_9 hB k.toNatClampNeg
        refine ok_calp (s_X12_goesTo (x1 := v14) (by rw [e14]; exact g9)) (fun v15 h15 => ?_)
        have e14' : v14.toInt = sG σ k.toNatClampNeg := by rw [e14]; rfl
        rw [e14'] at h15
        refine ok_ite (fun c4 => ?_) (fun c4 => ?_)
        · rw [fa_eq, k_0] at c4
          exact cont (fun z => by have := h15.2.mpr z.2.1; omega)
        · rw [fa_eq, k_0] at c4
          have h151 := h15.1
          have hg := h15.2.mp (by omega)
          refine ok_ix (by omega) ?_
          refine ok_lt fun v17 e17 => ?_
          have e17' : v17.toInt = nM σ k.toNatClampNeg := by rw [e17]; rfl
          refine ok_ite (fun c5 => ?_) (fun c5 => ?_)
          · rw [fa_eq, e17'] at c5
            exact yes (bgP_t.mpr ⟨hd, Or.inl (Or.inl ⟨k.toNatClampNeg, hk, hc, Or.inl ⟨hg, Or.inl (by omega)⟩⟩)⟩)
          · rw [fa_eq, e17'] at c5
            exact cont (fun z => c5 z.2.2)
  unfold f_X12_isCutAhead
  refine ok_jn ?_
  refine ok_ite (fun c2 => ?_) (fun c2 => ?_)
  · rw [fa_le, k_0] at c2
    exact rest (Or.inl (by omega))
  · rw [fa_le, k_0] at c2
    have es : (x1 - 1).toInt = x1.toInt - 1 := by
      have := i_sub (x := x1) (k := 1) (by decide) (by omega)
      rw [show (nI 1) = (1 : Int32) by decide +kernel] at this
      omega
    have en : (x1 - 1).toNatClampNeg = x1.toNatClampNeg - 1 := by have := clamp_I (x := x1 - 1) (by omega); omega
    refine ok_ix (by omega) ?_
    rw [en]
    refine ok_lt fun v20 e20 => ?_
    have g9 := gM_9 hB (x1.toNatClampNeg - 1)
    have e20' : v20.toInt = sG σ (x1.toNatClampNeg - 1) := by rw [e20]; rfl
    have hp : x1.toNatClampNeg - 1 < nC σ := by omega
    have nx : bgP (dP σ) (cT σ) x1.toNatClampNeg = false → dP σ (x1.toNatClampNeg - 1) ≠ -1 := fun z => (hQ.nx x1.toNatClampNeg (by omega) hd z).2.1
    refine ok_calp (s_X12_isOneOf_s107 (x1 := v20) (by rw [e20]; exact g9)) (fun v21 h21 => ?_)
    rw [e20'] at h21
    refine ok_ite (fun c3 => ?_) (fun c3 => ?_)
    · rw [fa_eq, k_0] at c3
      have n21 : ¬ (sG σ (x1.toNatClampNeg - 1) = 103 ∨ sG σ (x1.toNatClampNeg - 1) = 122 ∨ sG σ (x1.toNatClampNeg - 1) = 116 ∨ sG σ (x1.toNatClampNeg - 1) = 114) := fun z => by have := h21.2.mpr z; omega
      refine ok_calp (s_X12_isCome (x1 := x1 - 1) hB (by omega)) (fun v23 h23 => ?_)
      rw [en] at h23
      refine ok_ite (fun c4 => ?_) (fun c4 => ?_)
      · rw [fa_eq, k_0] at c4
        refine yes ?_
        cases hq : bgP (dP σ) (cT σ) x1.toNatClampNeg
        · have := nx hq
          rw [dP_lt hp] at this
          have := h23.2.mpr this
          omega
        · rfl
      · rw [fa_eq, k_0] at c4
        have h231 := h23.1
        have hc := h23.2.mp (by omega)
        rw [← dP_lt hp] at hc
        exact rest (Or.inr ⟨by omega, by omega, hc⟩)
    · rw [fa_eq, k_0] at c3
      have h211 := h21.1
      have h212 := h21.2.mp (by omega)
      refine yes ?_
      cases hq : bgP (dP σ) (cT σ) x1.toNatClampNeg
      · have hc := nx hq
        have hb := bgP_f.mp hq
        exfalso
        refine hb ⟨hd, Or.inl (Or.inl ⟨x1.toNatClampNeg - 1, hp, hc, ?_⟩)⟩
        by_cases z : gElI (sG σ (x1.toNatClampNeg - 1))
        · exact Or.inl ⟨z, Or.inr (by omega)⟩
        · exact Or.inr ⟨by unfold gElI at z; omega, by omega⟩
      · rfl
/-- blocks as they are laid -/
def BK (σ : Sto) : Prop := BKI (dP σ) (cT σ) (nC σ) (ri (σ.1 22)) (ri (σ.1 23)) (ri (σ.1 24)) (σ.1 26 0).toInt.toNat
theorem upI_upI (f : Nat → Int) (a : Nat) (x y : Int) : upI (upI f a x) a y = upI f a y := by
  funext i
  unfold upI
  by_cases q : i = a
  · rw [if_pos q, if_pos q]
  · rw [if_neg q, if_neg q, if_neg q]
theorem s_laysBlocks {σ : Sto} (hB : BM σ) (hQ : QL σ) : OK (f_X12_laysBlocks σ) (fun s => BM s ∧ FR [22, 23, 24, 26] [] σ s ∧ QL s ∧ BK s) := by
  have k_0 : (0 : Int32).toInt = 0 := by decide +kernel
  have k_m1 : ((-1) : Int32).toInt = -1 := by decide +kernel
  have g15 := gM_15 hB 0
  have hC := nC_le hB
  unfold f_X12_laysBlocks
  refine ok_lt fun s1 e1 => ?_
  have frq : ∀ s : Sto, FR [22, 23, 24, 26] [] σ s → ∀ k, k = 9 ∨ k = 10 ∨ k = 11 ∨ k = 15 ∨ k = 16 ∨ k = 20 → s.1 k = σ.1 k := fun s h k hk => h.1 k (by rcases hk with r | r | r | r | r | r <;> subst r <;> decide)
  have b0 : bgP (dP σ) (cT σ) 0 = true := bgP_t.mpr ⟨by rw [hQ.d0]; decide, Or.inr rfl⟩
  refine ok_itr2 (fun n x s => n = (41 - x.toInt).toNat ∧ 0 ≤ x.toInt ∧ x.toInt ≤ (σ.1 15 0).toInt ∧ BM s ∧ FR [22, 23, 24, 26] [] σ s ∧ BKI (dP σ) (cT σ) x.toNatClampNeg (ri (s.1 22)) (ri (s.1 23)) (ri (s.1 24)) (s.1 26 0).toInt.toNat) ?_ (n := (41 - (0 : Int32).toInt).toNat) ⟨rfl, by omega, by omega, by rw [e1]; exact pM_26 hB (by omega), by rw [e1]; exact FR.st FR.rf (by decide), BKI.z (by rw [e1, sti_s, k_0]; rfl)⟩ (by rw [k_0]; decide)
  intro ag n x s I ih
  obtain ⟨hn, x0, xc, b1, b2, b3⟩ := I
  have cx := clamp_I x0
  have fq := frq s b2
  have e15 : s.1 15 = σ.1 15 := fq 15 (by decide)
  refine ok_ite (fun c1 => ?_) (fun c1 => ?_)
  · rw [fa_le, e15] at c1
    have q := cT.cg (σ := σ) (s := s) fq
    refine ok_ret ⟨b1, b2, hQ.cg fq, ?_⟩
    unfold BK
    rw [q.1, q.2.1, q.2.2]
    rw [show x.toNatClampNeg = nC σ by omega] at b3
    exact b3
  · rw [fa_le, e15] at c1
    have hx : x.toNatClampNeg < nC σ := by omega
    have ex : (x + 1).toInt = x.toInt + 1 := i1 (by omega)
    have nx : (x + 1).toNatClampNeg = x.toNatClampNeg + 1 := by have := clamp_I (x := x + 1) (by omega); omega
    have g26 := gM_26 b1 0
    have hnb : (s.1 26 0).toInt.toNat ≤ x.toNatClampNeg := by rw [b3.1]; exact fb_ct_le _ _
    have cont : ∀ s6 : Sto, BM s6 → FR [22, 23, 24, 26] [] σ s6 → BKI (dP σ) (cT σ) (x.toNatClampNeg + 1) (ri (s6.1 22)) (ri (s6.1 23)) (ri (s6.1 24)) (s6.1 26 0).toInt.toNat → OK (lt (x + 1) fun x1_7 => ag x1_7 s6) _ := fun s6 a1 a2 a3 => ok_lt fun x7 e7 => by
      subst e7
      exact ih (41 - (x + 1).toInt).toNat (x + 1) s6 (by rw [hn, ex]; omega) ⟨rfl, by omega, by omega, a1, a2, by rw [nx]; exact a3⟩
    refine ok_ix (by omega) ?_
    refine ok_lt fun s4 e4 => ?_
    have B4 : BM s4 := by rw [e4]; exact pM_24 b1 (by omega)
    have F4 : FR [22, 23, 24, 26] [] σ s4 := by rw [e4]; exact FR.st b2 (by decide)
    have fq4 := frq s4 F4
    have e22 : s4.1 22 = s.1 22 := by rw [e4]; rfl
    have e23 : s4.1 23 = s.1 23 := by rw [e4]; rfl
    have e26 : s4.1 26 = s.1 26 := by rw [e4]; rfl
    have e24 : ri (s4.1 24) = upI (ri (s.1 24)) x.toNatClampNeg (-1) := by rw [e4, ri_upd, k_m1]
    refine ok_calp (s_X12_isCome (x1 := x) B4 (by omega)) (fun v5 h5 => ?_)
    rw [fq4 20 (by decide), ← dP_lt hx] at h5
    refine ok_jn ?_
    refine ok_ite (fun c2 => ?_) (fun c2 => ?_)
    · rw [fa_eq, k_0] at c2
      have hd : dP σ x.toNatClampNeg = -1 := by
        by_cases z : dP σ x.toNatClampNeg = -1
        · exact z
        · have := h5.2.mpr z; omega
      exact cont s4 B4 F4 (by rw [e22, e23, e26]; exact b3.no hd e24)
    · rw [fa_eq, k_0] at c2
      have h51 := h5.1
      have hd := h5.2.mp (by omega)
      have qq := cT.cg (σ := σ) (s := s4) fq4
      refine ok_calp (s_isCutAhead (x1 := x) B4 (hQ.cg fq4) ⟨x0, by rw [fq4 15 (by decide)]; omega⟩ (by rw [qq.2.1]; exact hd)) (fun v9 h9 => ?_)
      rw [qq.1, qq.2.1] at h9
      refine ok_jn ?_
      -- behind: the block's rows
      have row : ∀ (s10 : Sto) (nb : Nat), BM s10 → FR [22, 23, 24, 26] [] σ s10 → (s10.1 26 0).toInt = nb → 1 ≤ nb → nb ≤ 40 → (∀ s12 : Sto, s12.1 22 = s10.1 22 → ri (s12.1 24) = upI (ri (s10.1 24)) x.toNatClampNeg ((nb : Int) - 1) → ri (s12.1 23) = upI (ri (s10.1 23)) (nb - 1) x.toNatClampNeg → (s12.1 26 0).toInt.toNat = nb → BKI (dP σ) (cT σ) (x.toNatClampNeg + 1) (ri (s12.1 22)) (ri (s12.1 23)) (ri (s12.1 24)) (s12.1 26 0).toInt.toNat) → OK (ix 40 x <| lt (sti s10 24 x.toNatClampNeg (((s10.1 26 0) - 1))) fun s_11 => ix 40 ((s_11.1 26 0) - 1) <| lt (sti s_11 23 ((s_11.1 26 0) - 1).toNatClampNeg x) fun s_12 => lt (x + 1) fun x1_7 => ag x1_7 s_12) (fun s => BM s ∧ FR [22, 23, 24, 26] [] σ s ∧ QL s ∧ BK s) := by
        intro s10 nb a1 a2 a3 a4 a5 a6
        have es : ((s10.1 26 0) - 1).toInt = (nb : Int) - 1 := by
          have := i_sub (x := s10.1 26 0) (k := 1) (by decide) (by omega)
          rw [show (nI 1) = (1 : Int32) by decide +kernel] at this
          omega
        have en : ((s10.1 26 0) - 1).toNatClampNeg = nb - 1 := by have := clamp_I (x := (s10.1 26 0) - 1) (by omega); omega
        refine ok_ix (by omega) ?_
        refine ok_lt fun s11 e11 => ?_
        have e11' : s11.1 26 = s10.1 26 := by rw [e11]; rfl
        rw [e11']
        refine ok_ix (by omega) ?_
        refine ok_lt fun s12 e12 => ?_
        have B11 : BM s11 := by rw [e11]; exact pM_24 a1 (by omega)
        refine cont s12 (by rw [e12]; exact pM_23 B11 (by omega)) (by rw [e12, e11]; exact FR.st (FR.st a2 (by decide)) (by decide)) (a6 s12 (by rw [e12, e11]; rfl) ?_ ?_ ?_)
        · rw [e12, ri_o (by decide), e11, ri_upd, es]
        · rw [e12, ri_upd, en, e11, ri_o (by decide), cx]
        · rw [show s12.1 26 = s10.1 26 by rw [e12, e11]; rfl]; omega
      refine ok_ite (fun c3 => ?_) (fun c3 => ?_)
      · rw [fa_eq, k_0] at c3
        have hb : bgP (dP σ) (cT σ) x.toNatClampNeg = false := by
          cases z : bgP (dP σ) (cT σ) x.toNatClampNeg
          · rfl
          · have := h9.2.mpr z; omega
        have xp : 1 ≤ x.toNatClampNeg := by
          by_cases z : x.toNatClampNeg = 0
          · rw [z] at hb; rw [b0] at hb; exact absurd hb (by decide)
          · omega
        have nb1 : 1 ≤ (s.1 26 0).toInt.toNat := by
          have l := cbP_le (d := dP σ) (ct := cT σ) xp
          have l0 : cbP (dP σ) (cT σ) 1 = cbP (dP σ) (cT σ) 0 + 1 := cbP_t b0
          rw [b3.1]; omega
        refine row s4 (s.1 26 0).toInt.toNat B4 F4 (by rw [e26]; omega) nb1 (by omega) (fun s12 r1 r2 r3 r4 => ?_)
        rw [r1, r4, e22]
        refine b3.on hd hb nb1 ?_ ?_
        · rw [r2, e24, upI_upI]
        · rw [r3, e23]
      · rw [fa_eq, k_0] at c3
        have h91 := h9.1
        have hb := h9.2.mp (by omega)
        refine ok_ix (by rw [e26]; omega) ?_
        refine ok_lt fun s14 e14 => ?_
        refine ok_lt fun s15 e15' => ?_
        have e14' : s14.1 26 = s.1 26 := by rw [e14]; exact e26
        have ei : ((s14.1 26 0) + 1).toInt = (s.1 26 0).toInt + 1 := by rw [e14']; exact i1 (by omega)
        have cn := clamp_I (x := s.1 26 0) (by omega)
        have B14 : BM s14 := by rw [e14]; exact pM_22 B4 (by omega)
        refine row s15 ((s.1 26 0).toInt.toNat + 1) (by rw [e15']; exact pM_26 B14 (by omega)) (by rw [e15', e14]; exact FR.st (FR.st F4 (by decide)) (by decide)) (by rw [e15', sti_s, ei]; omega) (by omega) (by omega) (fun s12 r1 r2 r3 r4 => ?_)
        rw [r4]
        refine b3.bg hb ?_ ?_ ?_
        · rw [r1, show s15.1 22 = s14.1 22 by rw [e15']; rfl, e14, ri_upd, e26, e22, cx]
          rw [show (s.1 26 0).toNatClampNeg = (s.1 26 0).toInt.toNat by omega]
        · rw [r2, show s15.1 24 = s4.1 24 by rw [e15', e14]; rfl, e24, upI_upI]
          congr 1; omega
        · rw [r3, show s15.1 23 = s4.1 23 by rw [e15', e14]; rfl, e23]
          rw [show (s.1 26 0).toInt.toNat + 1 - 1 = (s.1 26 0).toInt.toNat by omega]
