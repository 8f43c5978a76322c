abbrev laR (σ : Sto) (b : Nat) : Nat := (σ.1 23 b).toInt.toNat
abbrev fiR (σ : Sto) (b : Nat) : Nat := (σ.1 22 b).toInt.toNat
abbrev nB (σ : Sto) : Nat := (σ.1 26 0).toInt.toNat
def FORK (σ : Sto) (b : Nat) : Prop := sG σ (laR σ b) = 122 ∧ (σ.1 24 (laR σ b + 1)).toInt ≠ (σ.1 24 (nM σ (laR σ b)).toNat).toInt
/-- a block's rows -/
theorem BK.at_ {σ : Sto} (hB : BM σ) (hQ : QL σ) (hK : BK σ) {b : Nat} (hb : b < nB σ) : (σ.1 22 b).toInt = fiR σ b ∧ (σ.1 23 b).toInt = laR σ b ∧ fiR σ b ≤ laR σ b ∧ laR σ b < nC σ ∧ bgP (dP σ) (cT σ) (fiR σ b) = true ∧ cbP (dP σ) (cT σ) (fiR σ b) = b ∧ cbP (dP σ) (cT σ) (laR σ b + 1) = b + 1 ∧ (∀ i, fiR σ b ≤ i → i ≤ laR σ b → dP σ i ≠ -1 ∧ (i < laR σ b → (gOnI (sG σ i) ∧ ¬ gElI (sG σ i) ∧ dP σ (i + 1) = dP σ i - ndI (sG σ i) + gvI (sG σ i)) ∧ bgP (dP σ) (cT σ) (i + 1) = false)) ∧ (laR σ b + 1 < nC σ → dP σ (laR σ b + 1) ≠ -1 → bgP (dP σ) (cT σ) (laR σ b + 1) = true) := by
  obtain ⟨f, l, h1, h2, h3⟩ := BKI.blk hK hQ.nx hb
  have e1 : (σ.1 22 b).toInt = f := h1
  have e2 : (σ.1 23 b).toInt = l := h2
  have q1 : fiR σ b = f := by unfold fiR; omega
  have q2 : laR σ b = l := by unfold laR; omega
  rw [q1, q2]
  exact ⟨e1, e2, h3⟩
theorem BK.nx_ {σ : Sto} (hB : BM σ) (hQ : QL σ) (hK : BK σ) {b : Nat} (hb : b + 1 < nB σ) : laR σ b + 1 ≤ fiR σ (b + 1) := by
  have h1 := hK.at_ hB hQ (show b < nB σ by omega)
  have h2 := hK.at_ hB hQ hb
  by_cases q : fiR σ (b + 1) ≤ laR σ b
  · have l := cbP_le (d := dP σ) (ct := cT σ) (show fiR σ (b + 1) + 1 ≤ laR σ b + 1 by omega)
    have t := cbP_t h2.2.2.2.2.1
    have a := h2.2.2.2.2.2.1
    have c := h1.2.2.2.2.2.2.1
    omega
  · omega
theorem nB_le {σ : Sto} (hB : BM σ) : nB σ ≤ 40 ∧ (nB σ : Int) = (σ.1 26 0).toInt := by
  have := gM_26 hB 0
  unfold nB; omega
/-- an instruction that is come to: what its row asks -/
theorem QL.ok {σ : Sto} (hB : BM σ) (hQ : QL σ) {i : Nat} (hi : i < nC σ) (hd : dP σ i ≠ -1) : OKP (nC σ) (nH σ) (sG σ) (nM σ) (fR σ) (uP σ) (gO σ) (dP σ) i := hQ.2.2.2.1 i hi hd
theorem s_isForked {σ : Sto} {x1 : Int32} (hB : BM σ) (hQ : QL σ) (hK : BK σ) (hx : 0 ≤ x1.toInt) (hb : x1.toNatClampNeg < nB σ) : OK (f_X12_isForked x1 σ) (fun v => (0 ≤ v.toInt ∧ v.toInt ≤ 1) ∧ (v.toInt = 1 ↔ FORK σ x1.toNatClampNeg)) := by
  have k_0 : (0 : Int32).toInt = 0 := by decide +kernel
  have k_1 : (1 : Int32).toInt = 1 := by decide +kernel
  have k_122 : (122 : Int32).toInt = 122 := by decide +kernel
  have c1 := clamp_I hx
  have hn := nB_le hB
  have hC := nC_le hB
  obtain ⟨h1, h2, h3, h4, h5, h6, h7, h8, h9⟩ := hK.at_ hB hQ hb
  have hl := h8 (laR σ x1.toNatClampNeg) h3 (Nat.le_refl _)
  have ho := hQ.ok hB h4 hl.1
  have g23 := gM_23 hB x1.toNatClampNeg
  have e23 : (σ.1 23 x1.toNatClampNeg).toNatClampNeg = laR σ x1.toNatClampNeg := rfl
  have no : ¬ FORK σ x1.toNatClampNeg → OK (some (0 : Int32)) (fun v => (0 ≤ v.toInt ∧ v.toInt ≤ 1) ∧ (v.toInt = 1 ↔ FORK σ x1.toNatClampNeg)) := fun z => ok_ret ⟨by omega, fun q => by omega, fun q => absurd q z⟩
  unfold f_X12_isForked
  refine ok_ix (by omega) ?_
  refine ok_lt fun v1 e1 => ?_
  subst e1
  refine ok_ix (by omega) ?_
  refine ok_lt fun v2 e2 => ?_
  refine ok_jn ?_
  refine ok_ite (fun c2 => ?_) (fun c2 => ?_)
  · rw [fa_eq, k_122, e2] at c2
    have c2' : sG σ (laR σ x1.toNatClampNeg) = 122 := c2
    have hgo : laR σ x1.toNatClampNeg + 1 < nC σ := (ho.2.2.1 ⟨by omega, by omega, by omega⟩).1
    have hv := (hQ.2.1 _ h4).2.1 (Or.inr c2')
    have g10 := gM_10 hB (laR σ x1.toNatClampNeg)
    have ev : nM σ (laR σ x1.toNatClampNeg) = (σ.1 10 (laR σ x1.toNatClampNeg)).toInt := rfl
    refine ok_ix (by omega) ?_
    refine ok_lt fun v5 e5 => ?_
    subst e5
    have ei : ((σ.1 23 x1.toNatClampNeg) + 1).toInt = (σ.1 23 x1.toNatClampNeg).toInt + 1 := i1 (by omega)
    have en : ((σ.1 23 x1.toNatClampNeg) + 1).toNatClampNeg = laR σ x1.toNatClampNeg + 1 := by have := clamp_I (x := (σ.1 23 x1.toNatClampNeg) + 1) (by omega); omega
    refine ok_ix (by omega) ?_
    rw [en]
    refine ok_lt fun v6 e6 => ?_
    refine ok_ix (by omega) ?_
    refine ok_lt fun v7 e7 => ?_
    subst e7
    refine ok_ix (by omega) ?_
    refine ok_lt fun v8 e8 => ?_
    subst e8
    rw [e23]
    refine ok_ix (by omega) ?_
    refine ok_lt fun v9 e9 => ?_
    have q9 : v9.toInt = (σ.1 24 (nM σ (laR σ x1.toNatClampNeg)).toNat).toInt := by rw [e9]; rfl
    refine ok_ite (fun c3 => ?_) (fun c3 => ?_)
    · rw [fa_eq, e6, q9] at c3
      exact no (fun z => z.2 c3)
    · rw [fa_eq, e6, q9] at c3
      exact ok_ret ⟨by omega, fun _ => ⟨c2', c3⟩, fun _ => k_1⟩
  · rw [fa_eq, k_122, e2] at c2
    exact no (fun z => c2 z.1)
theorem FORK.cg {σ s : Sto} {b : Nat} (e9 : s.1 9 = σ.1 9) (e10 : s.1 10 = σ.1 10) (e23 : s.1 23 = σ.1 23) (e24 : s.1 24 = σ.1 24) : FORK s b ↔ FORK σ b := by
  unfold FORK sG nM laR
  rw [e9, e10, e23, e24]
theorem BK.cg {σ s : Sto} (h : BK σ) (e : ∀ k, k = 9 ∨ k = 10 ∨ k = 11 ∨ k = 15 ∨ k = 16 ∨ k = 20 → s.1 k = σ.1 k) (e22 : s.1 22 = σ.1 22) (e23 : s.1 23 = σ.1 23) (e24 : s.1 24 = σ.1 24) (e26 : s.1 26 = σ.1 26) : BK s := by
  have q := cT.cg (σ := σ) (s := s) e
  unfold BK at h ⊢
  rw [q.1, q.2.1, q.2.2, e22, e23, e24, e26]
  exact h
/-- statements as they are laid -/
def STS (s : Sto) : Prop := WSt s ∧ OCt s ≤ 40 ∧ (s.1 48 0).toInt ≤ (s.1 47 0).toInt ∧ (∀ b, b < nB s → 0 ≤ (s.1 45 b).toInt ∧ (s.1 45 b).toInt ≤ (s.1 45 (b + 1)).toInt ∧ (s.1 45 (b + 1)).toInt ≤ (s.1 47 0).toInt ∧ (enI (sG s (laR s b)) → (s.1 45 b).toInt + 1 ≤ (s.1 45 (b + 1)).toInt ∧ 5 ≤ (s.1 42 ((s.1 45 (b + 1)).toInt.toNat - 1)).toInt)) ∧ (∀ b, b < nB s → (s.1 46 b).toInt = -1 ∨ (0 ≤ (s.1 46 b).toInt ∧ TT s 60 (s.1 46 b).toNatClampNeg)) ∧ (∀ b, b < nB s → FORK s b → (s.1 46 b).toInt ≠ -1)
abbrev FT_ : List Nat := [38, 39, 40, 41, 42, 43, 44, 45, 46, 47, 48, 49, 50, 51]
theorem frT {σ s : Sto} (h : FR FT_ [] σ s) {k : Nat} (hk : k < 38 ∨ 51 < k) : s.1 k = σ.1 k := h.1 k (by simp [FT_]; omega)
theorem LSt.zero {s : Sto} {p m c : Int} (hl : (s.1 50 0).toInt = 0) (h1 : (s.1 47 0).toInt ≤ p) (h2 : (s.1 41 0).toInt ≤ (s.1 47 0).toInt + m) (h3 : (OCt s : Int) ≤ c) (h4 : (s.1 48 0).toInt ≤ (s.1 47 0).toInt) (h5 : WSt s) : LSt s 0 0 p m c :=
  ⟨hl, ⟨fun _ => 0, fun k hk => by omega, Int.le_refl _⟩, by have a : PH s 0 = 0 := rfl; have b : PS s 0 = 0 := rfl; omega, h2, h3, h4, h5⟩
