theorem i_m1g {x y : Int32} (hy : y.toInt = -1) (h : -2147483648 < x.toInt) (h2 : x.toInt ≤ 2147483647) : (x + y).toInt = x.toInt - 1 := by
  have h := fb_addI (x := x) (y := y) (by omega) (by omega)
  omega
theorem i_m1 {x : Int32} (h : -2147483648 < x.toInt) (h2 : x.toInt ≤ 2147483647) : (x + (-1)).toInt = x.toInt - 1 := i_m1g (by decide +kernel) h h2
def bI (x : Int32) (i : Nat) : Bool := x.toBitVec.getLsbD i
theorem bI_or (x y : Int32) (i : Nat) : bI (x ||| y) i = (bI x i || bI y i) := BitVec.getLsbD_or
theorem bI_m1 : (-1 : Int32).toBitVec = BitVec.allOnes 32 := by decide +kernel
theorem bI_an (x y : Int32) {i : Nat} (h : i < 32) : bI (x &&& (y ^^^ (-1))) i = (bI x i && !bI y i) := by
  have a : (x &&& (y ^^^ (-1))).toBitVec = x.toBitVec &&& (y.toBitVec ^^^ (-1 : Int32).toBitVec) := rfl
  unfold bI
  rw [a, bI_m1, BitVec.getLsbD_and, BitVec.getLsbD_xor, BitVec.getLsbD_allOnes]
  simp [h]
theorem bI_0 (i : Nat) : bI 0 i = false := by unfold bI; exact BitVec.getLsbD_zero
theorem bI_eq {x y : Int32} (h : ∀ i, i < 32 → bI x i = bI y i) : x = y := by
  have : x.toBitVec = y.toBitVec := BitVec.eq_of_getLsbD_eq (fun i hi => h i hi)
  exact Int32.toBitVec_inj.mp this
theorem fb_ct_lt {p q : Nat → Bool} : ∀ {n : Nat}, (∀ k, k < n → p k = true → q k = true) → (∃ k, k < n ∧ q k = true ∧ p k = false) → fb_ct p n + 1 ≤ fb_ct q n
  | 0, _, ⟨k, hk, _⟩ => by omega
  | n + 1, h, ⟨k, hk, h1, h2⟩ => by
    rw [fb_ct_succ, fb_ct_succ]
    by_cases z : k = n
    · subst z
      have := fb_ct_sub (p := p) (q := q) (n := k) (fun i hi => h i (by omega))
      rw [if_pos h1, h2, if_neg (by decide)]; omega
    · have a := fb_ct_lt (p := p) (q := q) (n := n) (fun i hi => h i (by omega)) ⟨k, by omega, h1, h2⟩
      by_cases w : p n = true
      · rw [if_pos w, if_pos (h n (by omega) w)]; omega
      · rw [if_neg w]; omega
/-- behind a block: bits -/
noncomputable def bhP (σ s : Sto) (b i : Nat) : Bool := @decide (∃ e, e < nE σ ∧ eA σ e = b ∧ bI (s.1 55 (eB σ e)) i = true) (Classical.propDecidable _)
theorem bhP_t {σ s : Sto} {b i : Nat} : bhP σ s b i = true ↔ ∃ e, e < nE σ ∧ eA σ e = b ∧ bI (s.1 55 (eB σ e)) i = true := @decide_eq_true_iff _ (Classical.propDecidable _)
/-- always: what the handler's block needs -/
noncomputable def alP (σ s : Sto) (b i : Nat) : Bool := if (σ.1 25 b).toInt = -1 then false else bI (s.1 55 (σ.1 25 b).toNatClampNeg) i
def mkL (σ : Sto) (j : Nat) : Int32 := (1 : Int32) <<< ((σ.1 10 j) &&& 31)
def stL (σ : Sto) (al : Nat → Bool) (j : Nat) (S : Nat → Bool) (i : Nat) : Bool := if sG σ j = 115 then ((S i && !bI (mkL σ j) i) || al i) else if sG σ j = 108 then (S i || bI (mkL σ j) i) else S i
def goL (σ : Sto) (al : Nat → Bool) (l : Nat) : Nat → (Nat → Bool) → Nat → Bool
  | 0, S => S
  | m + 1, S => stL σ al (l - m) (goL σ al l m S)
theorem goL_0 (σ : Sto) (al : Nat → Bool) (l : Nat) (S : Nat → Bool) : goL σ al l 0 S = S := rfl
theorem goL_s (σ : Sto) (al : Nat → Bool) (l m : Nat) (S : Nat → Bool) : goL σ al l (m + 1) S = stL σ al (l - m) (goL σ al l m S) := rfl
theorem goL_mono {σ : Sto} {al al2 : Nat → Bool} {l : Nat} {S S2 : Nat → Bool} (h : ∀ i, al i = true → al2 i = true) (h2 : ∀ i, S i = true → S2 i = true) : ∀ m i, goL σ al l m S i = true → goL σ al2 l m S2 i = true := by
  intro m
  induction m with
  | zero => exact h2
  | succ m ih =>
    intro i hi
    rw [goL_s] at hi ⊢
    unfold stL at hi ⊢
    by_cases c : sG σ (l - m) = 115
    · rw [if_pos c] at hi ⊢
      rcases Bool.or_eq_true_iff.mp hi with z | z
      · have := Bool.and_eq_true_iff.mp z
        rw [ih i this.1, this.2]; rfl
      · rw [h i z, Bool.or_true]
    · rw [if_neg c] at hi ⊢
      by_cases c2 : sG σ (l - m) = 108
      · rw [if_pos c2] at hi ⊢
        rcases Bool.or_eq_true_iff.mp hi with z | z
        · rw [ih i z]; rfl
        · rw [z, Bool.or_true]
      · rw [if_neg c2] at hi ⊢; exact ih i hi
noncomputable def lvP (σ s : Sto) (b i : Nat) : Bool := goL σ (alP σ s b) (laR σ b) (laR σ b + 1 - fiR σ b) (bhP σ s b) i || alP σ s b i
theorem lvP_mono {σ s t : Sto} (h : ∀ b i, bI (s.1 55 b) i = true → bI (t.1 55 b) i = true) {b i : Nat} (hi : lvP σ s b i = true) : lvP σ t b i = true := by
  have ha : ∀ i, alP σ s b i = true → alP σ t b i = true := fun i z => by
    unfold alP at z ⊢
    by_cases c : (σ.1 25 b).toInt = -1
    · rw [if_pos c] at z; exact absurd z (by decide)
    · rw [if_neg c] at z ⊢; exact h _ i z
  have hb : ∀ i, bhP σ s b i = true → bhP σ t b i = true := fun i z => by
    obtain ⟨e, e1, e2, e3⟩ := bhP_t.mp z
    exact bhP_t.mpr ⟨e, e1, e2, h _ i e3⟩
  unfold lvP at hi ⊢
  rcases Bool.or_eq_true_iff.mp hi with z | z
  · rw [goL_mono ha hb _ i z]; rfl
  · rw [ha i z, Bool.or_true]
abbrev FLV : List Nat := [55, 56, 57]
theorem frL {σ s : Sto} (h : FR FLV [] σ s) {k : Nat} (hk : k < 55 ∨ 57 < k) : s.1 k = σ.1 k := h.1 k (by simp [FLV]; omega)
theorem s_behind {σ s : Sto} {x1 : Int32} (hB : BM s) (hFR : FR FLV [] σ s) (hx : 0 ≤ x1.toInt ∧ x1.toInt ≤ 39) : OK (f_X12_behind x1 s) (fun v => ∀ i, bI v i = bhP σ s x1.toNatClampNeg i) := by
  have k_0 : (0 : Int32).toInt = 0 := by decide +kernel
  have c1 := clamp_I hx.1
  have q32 := frL hFR (show (32 : Nat) < 55 ∨ 57 < 32 by decide)
  have q27 := frL hFR (show (27 : Nat) < 55 ∨ 57 < 27 by decide)
  have q28 := frL hFR (show (28 : Nat) < 55 ∨ 57 < 28 by decide)
  have g32 := gM_32 hB 0
  unfold f_X12_behind
  refine ok_itr2 (fun n v e => n = (121 - e.toInt).toNat ∧ 0 ≤ e.toInt ∧ e.toInt ≤ (s.1 32 0).toInt ∧ ∀ i, bI v i = true ↔ ∃ d : Nat, (d : Int) < e.toInt ∧ eA σ d = x1.toNatClampNeg ∧ bI (s.1 55 (eB σ d)) i = true) ?_ (n := (121 - (0 : Int32).toInt).toNat) ⟨rfl, by omega, by omega, fun i => by rw [bI_0]; exact ⟨fun z => absurd z (by decide), fun ⟨d, h, _⟩ => by omega⟩⟩ (by rw [k_0]; decide)
  intro ag n v e I ih
  obtain ⟨hn, e0, eE, hv⟩ := I
  have ce := clamp_I e0
  refine ok_ite (fun c2 => ?_) (fun c2 => ?_)
  · rw [fa_le] at c2
    refine ok_ret (fun i => ?_)
    have : bI v i = true ↔ bhP σ s x1.toNatClampNeg i = true := by
      rw [hv i, bhP_t]
      constructor
      · rintro ⟨d, d1, d2, d3⟩
        exact ⟨d, by unfold nE; rw [← q32]; omega, d2, d3⟩
      · rintro ⟨d, d1, d2, d3⟩
        exact ⟨d, by unfold nE at d1; rw [← q32] at d1; omega, d2, d3⟩
    cases h1 : bI v i
    · cases h2 : bhP σ s x1.toNatClampNeg i
      · rfl
      · rw [this.mpr h2] at h1; exact absurd h1 (by decide)
    · exact (this.mp h1).symm
  · rw [fa_le] at c2
    have ie : 0 ≤ e.toInt ∧ e.toInt < 120 := by omega
    have ex : (e + 1).toInt = e.toInt + 1 := i1 (by omega)
    have ee := e39 hB e.toNatClampNeg
    have g28 := gM_28 hB e.toNatClampNeg
    have go : ∀ t : Int32, (∀ i, bI t i = true ↔ (eA σ e.toNatClampNeg = x1.toNatClampNeg ∧ bI (s.1 55 (eB σ e.toNatClampNeg)) i = true)) → OK (lt (v ||| t) fun x2_5 => lt (e + 1) fun x3_6 => ag x2_5 x3_6) (fun v => ∀ i, bI v i = bhP σ s x1.toNatClampNeg i) := fun t ht => by
      refine ok_lt fun w ew => ?_
      refine ok_lt fun x6 e6 => ?_
      subst e6
      refine ih (121 - (e + 1).toInt).toNat w (e + 1) (by rw [hn, ex]; omega) ⟨rfl, by omega, by omega, fun i => ?_⟩
      rw [ew, bI_or, Bool.or_eq_true, hv i, ht i]
      constructor
      · rintro (⟨d, d1, d2, d3⟩ | ⟨d2, d3⟩)
        · exact ⟨d, by omega, d2, d3⟩
        · exact ⟨e.toNatClampNeg, by omega, d2, d3⟩
      · rintro ⟨d, d1, d2, d3⟩
        by_cases q : d = e.toNatClampNeg
        · rw [q] at d2 d3; exact Or.inr ⟨d2, d3⟩
        · exact Or.inl ⟨d, by omega, d2, d3⟩
    refine ok_ix ie ?_
    refine ok_lt fun v3 e3 => ?_
    refine ok_jn ?_
    refine ok_ite (fun c3 => ?_) (fun c3 => ?_)
    · rw [fa_eq, e3] at c3
      refine ok_ix ie ?_
      refine ok_lt fun v8 e8 => ?_
      subst e8
      refine ok_ix (by omega) ?_
      refine ok_lt fun v9 e9 => ?_
      have hB2 : (s.1 28 e.toNatClampNeg).toNatClampNeg = eB σ e.toNatClampNeg := by rw [q28]
      rw [hB2] at e9
      have he : eA σ e.toNatClampNeg = x1.toNatClampNeg := by
        have cz := clamp_I (gM_27 hB e.toNatClampNeg).1
        unfold eA; rw [← q27]; omega
      exact go v9 (fun i => by rw [e9]; exact ⟨fun z => ⟨he, z⟩, fun z => z.2⟩)
    · rw [fa_eq, e3] at c3
      have he : eA σ e.toNatClampNeg ≠ x1.toNatClampNeg := fun z => c3 (by
        have cz := clamp_I (gM_27 hB e.toNatClampNeg).1
        unfold eA at z; rw [← q27] at z; omega)
      exact go 0 (fun i => by rw [bI_0]; exact ⟨fun z => absurd z (by decide), fun z => absurd z.1 he⟩)
theorem s_liveAhead {σ s : Sto} {x1 : Int32} (hB0 : BM σ) (hQ : QL σ) (hK : BK σ) (hT : ∀ b, b < nB σ → -1 ≤ (σ.1 25 b).toInt ∧ (σ.1 25 b).toInt < (nB σ : Int)) (hB : BM s) (hFR : FR FLV [] σ s) (hx : 0 ≤ x1.toInt) (hb : x1.toNatClampNeg < nB σ) : OK (f_X12_liveAhead x1 s) (fun r => BM r.2 ∧ FR [57] [] s r.2 ∧ ∀ i, i < 32 → bI r.1 i = lvP σ s x1.toNatClampNeg i) := by
  have k_0 : (0 : Int32).toInt = 0 := by decide +kernel
  have k_1 : (1 : Int32).toInt = 1 := by decide +kernel
  have k_m1 : ((-1) : Int32).toInt = -1 := by decide +kernel
  have k_108 : (108 : Int32).toInt = 108 := by decide +kernel
  have k_115 : (115 : Int32).toInt = 115 := by decide +kernel
  have hn := nB_le hB0
  have hC := nC_le hB0
  have c1 := clamp_I hx
  obtain ⟨k1, k2, k3, k4, k5, k6, k7, k8, k9⟩ := hK.at_ hB0 hQ hb
  have xi : 0 ≤ x1.toInt ∧ x1.toInt < 40 := by omega
  have fr : ∀ {k : Nat}, k < 55 ∨ 57 < k → s.1 k = σ.1 k := fun hk => frL hFR hk
  have hTb := hT _ hb
  unfold f_X12_liveAhead
  refine ok_ix xi ?_
  rw [fr (show (25 : Nat) < 55 ∨ 57 < 25 by decide)]
  refine ok_lt fun v1 e1 => ?_
  refine ok_jn ?_
  have main : ∀ t : Int32, (∀ i, bI t i = alP σ s x1.toNatClampNeg i) → OK (calp (f_X12_behind x1 s) fun v_3 =>
    ix 40 x1 <| lt (s.1 23 x1.toNatClampNeg) fun v_4 =>
    itr (fun _ _ _ => none) (fun (a_40 : Int32 → Int32 → Sto → Option (Int32 × Sto)) (x3_5 : Int32) (x4_5 : Int32) (s_5 : Sto) => (
      ix 40 x1 <| lt (s_5.1 22 x1.toNatClampNeg) fun v_6 =>
      if x4_5 < v_6 then (
        some ((x3_5 ||| t), s_5)
      ) else (
        ix 40 x4_5 <| lt (s_5.1 9 x4_5.toNatClampNeg) fun v_8 =>
        jn (fun (x3_9 : Int32) (s_9 : Sto) => (
          ix 40 x4_5 <| lt (s_9.1 9 x4_5.toNatClampNeg) fun v_10 =>
          jn (fun (x3_11 : Int32) => (
            lt (x4_5 + (-1)) fun x4_12 =>
            a_40 x3_11 x4_12 s_9
          )) fun k_129 =>
          if v_10 = 108 then (
            ix 40 x4_5 <| lt (s_9.1 10 x4_5.toNatClampNeg) fun v_14 =>
            lt (x3_9 ||| ((1 : Int32) <<< (v_14 &&& 31))) fun x3_15 =>
            k_129 x3_15
          ) else (
            k_129 x3_9
          )
        )) fun k_105 =>
        if v_8 = 115 then (
          ix 40 x4_5 <| lt (s_5.1 10 x4_5.toNatClampNeg) fun v_17 =>
          jn (fun (t0_18 : Int32) => (
            bz t0_18 <|
            ix 40 x4_5 <| lt (sti s_5 57 x4_5.toNatClampNeg t0_18) fun s_19 =>
            ix 40 x4_5 <| lt (s_19.1 10 x4_5.toNatClampNeg) fun v_21 =>
            lt ((x3_5 &&& (((1 : Int32) <<< (v_21 &&& 31)) ^^^ (-1))) ||| t) fun x3_22 =>
            k_105 x3_22 s_19
          )) fun k_88 =>
          if ((x3_5 >>> (v_17 &&& 31)) &&& 1) = 0 then (
            k_88 (1 : Int32)
          ) else (
            k_88 (0 : Int32)
          )
        ) else (
          k_105 x3_5 s_5
        )
      )
    )) LF v_3 v_4 s) (fun r => BM r.2 ∧ FR [57] [] s r.2 ∧ ∀ i, i < 32 → bI r.1 i = lvP σ s x1.toNatClampNeg i) := by
    intro t ht
    refine ok_calp (s_behind (σ := σ) hB hFR (by omega)) (fun v3 h3 => ?_)
    refine ok_ix xi ?_
    rw [fr (show (23 : Nat) < 55 ∨ 57 < 23 by decide)]
    refine ok_lt fun v4 e4 => ?_
    refine ok_itr3 (fun n S j u => n = (j.toInt + 2).toNat ∧ (fiR σ x1.toNatClampNeg : Int) - 1 ≤ j.toInt ∧ j.toInt ≤ (laR σ x1.toNatClampNeg : Int) ∧ BM u ∧ FR [57] [] s u ∧ ∀ i, i < 32 → bI S i = goL σ (alP σ s x1.toNatClampNeg) (laR σ x1.toNatClampNeg) ((laR σ x1.toNatClampNeg : Int) - j.toInt).toNat (bhP σ s x1.toNatClampNeg) i) ?_ (n := (v4.toInt + 2).toNat) ⟨rfl, by rw [e4]; omega, by rw [e4]; omega, hB, FR.rf, fun i _ => by rw [h3 i, show ((laR σ x1.toNatClampNeg : Int) - v4.toInt).toNat = 0 by rw [e4]; omega, goL_0]⟩ (by unfold LF; rw [e4]; omega)
    intro ag n S j u I ih
    obtain ⟨hnn, j0, jl, u1, u2, u3⟩ := I
    have fu : ∀ {k : Nat}, k < 55 ∨ 57 < k → u.1 k = σ.1 k := fun {k} hk => by rw [u2.1 k (by simp; omega)]; exact fr hk
    refine ok_ix xi ?_
    rw [fu (show (22 : Nat) < 55 ∨ 57 < 22 by decide)]
    refine ok_lt fun v6 e6 => ?_
    refine ok_ite (fun c2 => ?_) (fun c2 => ?_)
    · rw [fa_lt, e6] at c2
      refine ok_ret ⟨u1, u2, fun i hi => ?_⟩
      (try dsimp only)
      unfold lvP
      rw [bI_or, ht i, u3 i hi, show ((laR σ x1.toNatClampNeg : Int) - j.toInt).toNat = laR σ x1.toNatClampNeg + 1 - fiR σ x1.toNatClampNeg by omega]
    · rw [fa_lt, e6] at c2
      have cj := clamp_I (x := j) (by omega)
      have ij : 0 ≤ j.toInt ∧ j.toInt < 40 := by omega
      have lj : laR σ x1.toNatClampNeg - ((laR σ x1.toNatClampNeg : Int) - j.toInt).toNat = j.toNatClampNeg := by omega
      -- the next one down
      have cont : ∀ (T : Int32) (w : Sto), BM w → FR [57] [] s w → (∀ i, i < 32 → bI T i = stL σ (alP σ s x1.toNatClampNeg) j.toNatClampNeg (goL σ (alP σ s x1.toNatClampNeg) (laR σ x1.toNatClampNeg) ((laR σ x1.toNatClampNeg : Int) - j.toInt).toNat (bhP σ s x1.toNatClampNeg)) i) → OK (lt (j + (-1)) fun x4_12 => ag T x4_12 w) _ := fun T w w1 w2 w3 => ok_lt fun x12 e12 => by
        have em : x12.toInt = j.toInt - 1 := by rw [e12]; exact i_m1 (by omega) (by omega)
        refine ih (x12.toInt + 2).toNat T x12 w (by rw [hnn, em]; omega) ⟨rfl, by omega, by omega, w1, w2, fun i hi => ?_⟩
        rw [w3 i hi, em, show ((laR σ x1.toNatClampNeg : Int) - (j.toInt - 1)).toNat = ((laR σ x1.toNatClampNeg : Int) - j.toInt).toNat + 1 by omega, goL_s, lj]
      have es : (σ.1 9 j.toNatClampNeg).toInt = sG σ j.toNatClampNeg := rfl
      have second : ∀ (T : Int32) (w : Sto), BM w → FR [57] [] s w → (∀ {k : Nat}, k < 55 ∨ 57 < k → w.1 k = σ.1 k) → (sG σ j.toNatClampNeg = 108 → ∀ i, i < 32 → bI T i = goL σ (alP σ s x1.toNatClampNeg) (laR σ x1.toNatClampNeg) ((laR σ x1.toNatClampNeg : Int) - j.toInt).toNat (bhP σ s x1.toNatClampNeg) i) → (sG σ j.toNatClampNeg ≠ 108 → ∀ i, i < 32 → bI T i = stL σ (alP σ s x1.toNatClampNeg) j.toNatClampNeg (goL σ (alP σ s x1.toNatClampNeg) (laR σ x1.toNatClampNeg) ((laR σ x1.toNatClampNeg : Int) - j.toInt).toNat (bhP σ s x1.toNatClampNeg)) i) → OK (ix 40 j <| lt (w.1 9 j.toNatClampNeg) fun v_10 =>
          jn (fun (x3_11 : Int32) => (
            lt (j + (-1)) fun x4_12 =>
            ag x3_11 x4_12 w
          )) fun k_129 =>
          if v_10 = 108 then (
            ix 40 j <| lt (w.1 10 j.toNatClampNeg) fun v_14 =>
            lt (T ||| ((1 : Int32) <<< (v_14 &&& 31))) fun x3_15 =>
            k_129 x3_15
          ) else (
            k_129 T
          )) (fun r => BM r.2 ∧ FR [57] [] s r.2 ∧ ∀ i, i < 32 → bI r.1 i = lvP σ s x1.toNatClampNeg i) := by
        intro T w w1 w2 fw h108 hno
        refine ok_ix ij ?_
        rw [fw (show (9 : Nat) < 55 ∨ 57 < 9 by decide)]
        refine ok_lt fun v10 e10 => ?_
        refine ok_jn ?_
        refine ok_ite (fun c3 => ?_) (fun c3 => ?_)
        · rw [fa_eq, k_108, e10, es] at c3
          refine ok_ix ij ?_
          rw [fw (show (10 : Nat) < 55 ∨ 57 < 10 by decide)]
          refine ok_lt fun v14 e14 => ?_
          refine ok_lt fun x15 e15 => ?_
          refine cont x15 w w1 w2 (fun i hi => ?_)
          unfold stL mkL
          rw [if_neg (by omega), if_pos c3, e15, bI_or, h108 c3 i hi, e14]
        · rw [fa_eq, k_108, e10, es] at c3
          exact cont T w w1 w2 (hno c3)
      refine ok_ix ij ?_
      rw [fu (show (9 : Nat) < 55 ∨ 57 < 9 by decide)]
      refine ok_lt fun v8 e8 => ?_
      refine ok_jn ?_
      refine ok_ite (fun c3 => ?_) (fun c3 => ?_)
      · rw [fa_eq, k_115, e8, es] at c3
        refine ok_ix ij ?_
        refine ok_lt fun v17 e17 => ?_
        have wr : ∀ b : Int32, (b.toInt = 0 ∨ b.toInt = 1) → OK (bz b <| ix 40 j <| lt (sti u 57 j.toNatClampNeg b) fun s_19 => ix 40 j <| lt (s_19.1 10 j.toNatClampNeg) fun v_21 => lt ((S &&& (((1 : Int32) <<< (v_21 &&& 31)) ^^^ (-1))) ||| t) fun x3_22 => (fun (x3_9 : Int32) (s_9 : Sto) => (
          ix 40 j <| lt (s_9.1 9 j.toNatClampNeg) fun v_10 =>
          jn (fun (x3_11 : Int32) => (
            lt (j + (-1)) fun x4_12 =>
            ag x3_11 x4_12 s_9
          )) fun k_129 =>
          if v_10 = 108 then (
            ix 40 j <| lt (s_9.1 10 j.toNatClampNeg) fun v_14 =>
            lt (x3_9 ||| ((1 : Int32) <<< (v_14 &&& 31))) fun x3_15 =>
            k_129 x3_15
          ) else (
            k_129 x3_9
          )
        )) x3_22 s_19) (fun r => BM r.2 ∧ FR [57] [] s r.2 ∧ ∀ i, i < 32 → bI r.1 i = lvP σ s x1.toNatClampNeg i) := by
          intro b hbz
          refine ok_bz (by rw [fa_eq, fa_eq, k_0, k_1]; exact hbz) ?_
          refine ok_ix ij ?_
          refine ok_lt fun s19 e19 => ?_
          have f19 : ∀ {k : Nat}, k < 55 ∨ 57 < k → s19.1 k = σ.1 k := fun {k} hk => by rw [e19, sti_o (by omega)]; exact fu hk
          refine ok_ix ij ?_
          rw [f19 (show (10 : Nat) < 55 ∨ 57 < 10 by decide)]
          refine ok_lt fun v21 e21 => ?_
          refine ok_lt fun x22 e22 => ?_
          refine second x22 s19 (by rw [e19]; exact pM_57 u1 (by omega)) (by rw [e19]; exact FR.st u2 (by decide)) f19 (fun z => by omega) (fun _ i hi => ?_)
          unfold stL mkL
          rw [if_pos c3, e22, bI_or, bI_an _ _ hi, ht i, u3 i hi, e21]
        refine ok_jn ?_
        exact ok_ite (fun _ => wr 1 (Or.inr k_1)) (fun _ => wr 0 (Or.inl k_0))
      · rw [fa_eq, k_115, e8, es] at c3
        refine second S u u1 u2 fu (fun _ => u3) (fun z i hi => ?_)
        unfold stL
        rw [if_neg c3, if_neg z]; exact u3 i hi
  refine ok_ite (fun c2 => ?_) (fun c2 => ?_)
  · rw [fa_eq, k_m1, e1] at c2
    exact main 0 (fun i => by unfold alP; rw [bI_0, if_pos c2])
  · rw [fa_eq, k_m1, e1] at c2
    refine ok_ix xi ?_
    refine ok_lt fun v25 e25 => ?_
    subst e25
    refine ok_ix (by omega) ?_
    refine ok_lt fun v26 e26 => ?_
    exact main v26 (fun i => by unfold alP; rw [if_neg c2, e26])
def LSm (σ s : Sto) : Int := fb_si (fun b => (fb_ct (bI (s.1 55 b)) 32 : Int)) (nB σ)
theorem LSm_le (σ s : Sto) : 0 ≤ LSm σ s ∧ LSm σ s ≤ 32 * (nB σ : Int) := by
  refine ⟨fb_si_nn (fun k _ => by omega), ?_⟩
  have : ∀ n : Nat, fb_si (fun b => (fb_ct (bI (s.1 55 b)) 32 : Int)) n ≤ 32 * (n : Int) := fun n => by
    induction n with
    | zero => exact Int.le_refl _
    | succ n ih =>
      rw [fb_si_succ]
      have := fb_ct_le (bI (s.1 55 n)) 32
      omega
  exact this _
theorem s_laysLive {σ : Sto} (hB : BM σ) (hQ : QL σ) (hK : BK σ) (hT : ∀ b, b < nB σ → -1 ≤ (σ.1 25 b).toInt ∧ (σ.1 25 b).toInt < (nB σ : Int)) : OK (f_X12_laysLive σ) (fun s => BM s ∧ FR FLV [] σ s) := by
  have k_0 : (0 : Int32).toInt = 0 := by decide +kernel
  have k_1 : (1 : Int32).toInt = 1 := by decide +kernel
  have k_40 : (40 : Int32).toInt = 40 := by decide +kernel
  have k_m1 : ((-1) : Int32).toInt = -1 := by decide +kernel
  have hn := nB_le hB
  unfold f_X12_laysLive
  refine ok_itr2 (fun n b s => n = (41 - b.toInt).toNat ∧ 0 ≤ b.toInt ∧ b.toInt ≤ (nB σ : Int) ∧ BM s ∧ FR FLV [] σ s ∧ ∀ c : Nat, (c : Int) < b.toInt → s.1 55 c = 0) ?_ (n := (41 - (0 : Int32).toInt).toNat) ⟨rfl, by omega, by omega, hB, FR.rf, fun c hc => by omega⟩ (by rw [k_0]; decide)
  intro ag n b s I ih
  obtain ⟨hnn, b0, bb, b1, b2, b3⟩ := I
  have cb := clamp_I b0
  have q26 := frL b2 (show (26 : Nat) < 55 ∨ 57 < 26 by decide)
  refine ok_ite (fun c1 => ?_) (fun c1 => ?_)
  · rw [fa_le, q26] at c1
    refine ok_itr2 (fun n i t => n = (41 - i.toInt).toNat ∧ 0 ≤ i.toInt ∧ i.toInt ≤ 40 ∧ BM t ∧ FR FLV [] σ t ∧ ∀ c, c < nB σ → t.1 55 c = 0) ?_ (n := (41 - (0 : Int32).toInt).toNat) ⟨rfl, by omega, by omega, b1, b2, fun c hc => b3 c (by omega)⟩ (by rw [k_0]; decide)
    intro ag2 n2 i t I2 ih2
    obtain ⟨hn2, i0, i40, t1, t2, t3⟩ := I2
    have exi : (i + 1).toInt = i.toInt + 1 := i1 (by omega)
    refine ok_ite (fun c2 => ?_) (fun c2 => ?_)
    · -- rounds
      refine ok_itr2 (fun n g u => n = (2 * (1281 - LSm σ u)).toNat + g.toInt.toNat ∧ (g.toInt = 0 ∨ g.toInt = 1) ∧ BM u ∧ FR FLV [] σ u ∧ ∀ c, c < nB σ → ∀ i, i < 32 → bI (u.1 55 c) i = true → lvP σ u c i = true) ?_ (n := (2 * (1281 - LSm σ t)).toNat + (1 : Int32).toInt.toNat) ⟨rfl, Or.inr k_1, t1, t2, fun c hc i _ hi => by rw [t3 c hc, bI_0] at hi; exact absurd hi (by decide)⟩ (by have := LSm_le σ t; rw [k_1]; unfold LF; omega)
      intro ag3 n3 g u I3 ih3
      obtain ⟨hn3, g01, u1, u2, u3⟩ := I3
      have p26 := frL u2 (show (26 : Nat) < 55 ∨ 57 < 26 by decide)
      refine ok_ite (fun c3 => ?_) (fun c3 => ?_)
      · -- behind blocks
        refine ok_itr2 (fun n b s => n = (41 - b.toInt).toNat ∧ 0 ≤ b.toInt ∧ b.toInt ≤ (nB σ : Int) ∧ BM s ∧ FR FLV [] σ s) ?_ (n := (41 - (0 : Int32).toInt).toNat) ⟨rfl, by omega, by omega, u1, u2⟩ (by rw [k_0]; decide)
        intro ag4 n4 d w I4 ih4
        obtain ⟨hn4, d0, db, w1, w2⟩ := I4
        have r26 := frL w2 (show (26 : Nat) < 55 ∨ 57 < 26 by decide)
        refine ok_ite (fun c4 => ok_ret ⟨w1, w2⟩) (fun c4 => ?_)
        rw [fa_le, r26] at c4
        have exd : (d + 1).toInt = d.toInt + 1 := i1 (by omega)
        refine ok_calp (s_behind (σ := σ) w1 w2 (by omega)) (fun v9 h9 => ?_)
        refine ok_ix (by omega) ?_
        refine ok_lt fun s10 e10 => ?_
        refine ok_lt fun x11 e11 => ?_
        subst e11
        exact ih4 (41 - (d + 1).toInt).toNat (d + 1) s10 (by rw [hn4, exd]; omega) ⟨rfl, by omega, by omega, by rw [e10]; exact pM_56 w1 (tI_rng _), by rw [e10]; exact FR.st w2 (by decide)⟩
      · rw [fa_eq, k_0] at c3
        refine ok_lt fun x12 e12 => ?_
        have v12 : x12.toInt = (nB σ : Int) - 1 := by
          rw [e12, p26]
          have := i_sub (x := σ.1 26 0) (k := 1) (by decide) (by omega)
          rw [show (nI 1) = (1 : Int32) by decide +kernel] at this
          omega
        refine ok_itr3 (fun n f c w => n = (c.toInt + 2).toNat ∧ -1 ≤ c.toInt ∧ c.toInt < (nB σ : Int) ∧ (f.toInt = 0 ∨ f.toInt = 1) ∧ BM w ∧ FR FLV [] σ w ∧ (∀ c, c < nB σ → ∀ i, i < 32 → bI (w.1 55 c) i = true → lvP σ w c i = true) ∧ LSm σ u ≤ LSm σ w ∧ (f.toInt = 1 → LSm σ u + 1 ≤ LSm σ w)) ?_ (n := (x12.toInt + 2).toNat) ⟨rfl, by omega, by omega, Or.inl k_0, u1, u2, u3, Int.le_refl _, fun z => by omega⟩ (by unfold LF; omega)
        intro ag4 n4 f c w I4 ih4
        obtain ⟨hn4, c0, cn, f01, w1, w2, w3, w4, w5⟩ := I4
        refine ok_ite (fun c4 => ?_) (fun c4 => ?_)
        · refine ih3 ((2 * (1281 - LSm σ w)).toNat + f.toInt.toNat) f w ?_ ⟨rfl, f01, w1, w2, w3⟩
          have a1 := LSm_le σ u
          have a2 := LSm_le σ w
          rcases f01 with z | z
          · omega
          · have := w5 z; omega
        · rw [fa_lt, k_0] at c4
          have cc := clamp_I (x := c) (by omega)
          have hc : c.toNatClampNeg < nB σ := by omega
          refine ok_calv (s_liveAhead hB hQ hK hT w1 w2 (by omega) hc) (fun v15 s15 q => ?_)
          obtain ⟨q1, q2, q3⟩ := q
          (try dsimp only at q1 q2 q3)
          have F15 : FR FLV [] σ s15 := FR.cal w2 q2 rfl rfl
          have e55 : s15.1 55 = w.1 55 := q2.1 55 (by decide)
          have sub : ∀ i, i < 32 → bI (w.1 55 c.toNatClampNeg) i = true → bI v15 i = true := fun i hi z => by rw [q3 i hi]; exact w3 _ hc i hi z
          have ctle : fb_ct (bI (w.1 55 c.toNatClampNeg)) 32 ≤ fb_ct (bI v15) 32 := fb_ct_sub sub
          -- written
          have wr : ∀ t : Int32, (t.toInt = 0 ∨ t.toInt = 1) → (t.toInt = 1 → f.toInt = 1 ∨ v15 ≠ w.1 55 c.toNatClampNeg) → OK (ix 40 c <| lt (sti s15 55 c.toNatClampNeg v15) fun s_17 => lt (c + (-1)) fun x2_18 => ag4 t x2_18 s_17) (fun s => BM s ∧ FR FLV [] σ s) := by
            intro t ht0 ht1
            refine ok_ix (by omega) ?_
            refine ok_lt fun s17 e17 => ?_
            refine ok_lt fun x18 e18 => ?_
            have emc : x18.toInt = c.toInt - 1 := by rw [e18]; exact i_m1 (by omega) (by omega)
            have r55 : ∀ k, s17.1 55 k = if k = c.toNatClampNeg then v15 else w.1 55 k := fun k => by rw [e17, sti_if, e55]
            have grow : ∀ k i, bI (w.1 55 k) i = true → bI (s17.1 55 k) i = true := fun k i z => by
              rw [r55]
              by_cases r : k = c.toNatClampNeg
              · rw [if_pos r]
                by_cases r2 : i < 32
                · rw [r] at z; exact sub i r2 z
                · exfalso
                  unfold bI at z
                  rw [BitVec.getLsbD_of_ge _ _ (by omega)] at z
                  exact absurd z (by decide)
              · rw [if_neg r]; exact z
            have sm : LSm σ s17 = LSm σ w - (fb_ct (bI (w.1 55 c.toNatClampNeg)) 32 : Int) + (fb_ct (bI v15) 32 : Int) := by
              have a : LSm σ s17 = fb_si (fun k => if k = c.toNatClampNeg then (fb_ct (bI v15) 32 : Int) else (fb_ct (bI (w.1 55 k)) 32 : Int)) (nB σ) := fb_si_cong (fun k _ => by
                rw [r55]
                by_cases r : k = c.toNatClampNeg
                · rw [if_pos r, if_pos r]
                · rw [if_neg r, if_neg r])
              rw [a, fb_si_upd (fun k => (fb_ct (bI (w.1 55 k)) 32 : Int)) _ hc]
              rfl
            refine ih4 (x18.toInt + 2).toNat t x18 s17 (by rw [hn4, emc]; omega) ⟨rfl, by omega, by omega, ht0, by rw [e17]; exact pM_55 q1 (tI_rng _), by rw [e17]; exact FR.st F15 (by decide), fun k hk i hi z => ?_, by omega, fun z => ?_⟩
            · refine lvP_mono grow ?_
              rw [r55] at z
              by_cases r : k = c.toNatClampNeg
              · rw [if_pos r] at z; rw [r, ← q3 i hi]; exact z
              · rw [if_neg r] at z; exact w3 k hk i hi z
            · rcases ht1 z with r | r
              · have := w5 r; omega
              · have : fb_ct (bI (w.1 55 c.toNatClampNeg)) 32 + 1 ≤ fb_ct (bI v15) 32 := by
                  refine fb_ct_lt sub (Classical.byContradiction fun hno => r ?_)
                  refine bI_eq (fun i hi => ?_)
                  cases h1 : bI v15 i
                  · cases h2 : bI (w.1 55 c.toNatClampNeg) i
                    · rfl
                    · rw [sub i hi h2] at h1; exact h1.symm
                  · cases h2 : bI (w.1 55 c.toNatClampNeg) i
                    · exact absurd ⟨i, hi, h1, h2⟩ hno
                    · rfl
                omega
          refine ok_jn ?_
          refine ok_jn ?_
          refine ok_ite (fun c5 => ?_) (fun c5 => ?_)
          · refine ok_ix (by omega) ?_
            refine ok_lt fun v21 e21 => ?_
            rw [e55] at e21
            refine ok_ite (fun c6 => ?_) (fun c6 => ?_)
            · exact wr 0 (Or.inl k_0) (fun z => by omega)
            · exact wr 1 (Or.inr k_1) (fun _ => Or.inr (by rw [← e21]; exact c6))
          · rw [fa_eq, k_0] at c5
            exact wr 1 (Or.inr k_1) (fun _ => Or.inl (by omega))
    · rw [fa_le, k_40] at c2
      refine ok_ix (by omega) ?_
      refine ok_lt fun s23 e23 => ?_
      refine ok_lt fun x24 e24 => ?_
      subst e24
      exact ih2 (41 - (i + 1).toInt).toNat (i + 1) s23 (by rw [hn2, exi]; omega) ⟨rfl, by omega, by omega, by rw [e23]; exact pM_57 t1 (by omega), by rw [e23]; exact FR.st t2 (by decide), fun c hc => by rw [e23]; exact t3 c hc⟩
  · rw [fa_le, q26] at c1
    have exb : (b + 1).toInt = b.toInt + 1 := i1 (by omega)
    refine ok_ix (by omega) ?_
    refine ok_lt fun s25 e25 => ?_
    refine ok_lt fun x26 e26 => ?_
    subst e26
    refine ih (41 - (b + 1).toInt).toNat (b + 1) s25 (by rw [hnn, exb]; omega) ⟨rfl, by omega, by omega, by rw [e25]; exact pM_55 b1 (tI_rng _), by rw [e25]; exact FR.st b2 (by decide), fun c hc => ?_⟩
    rw [e25, sti_if]
    by_cases q : c = b.toNatClampNeg
    · rw [if_pos q]
    · rw [if_neg q]; exact b3 c (by omega)
