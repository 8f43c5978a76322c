/-- weight of a set of blocks -/
noncomputable def wS (σ : Sto) (f : Nat → Int) (S : Nat → Prop) : Int := fb_si (fun c => @ite Int (S c) (Classical.propDecidable _) (f c) 0) (nB σ)
theorem wS_nn {σ : Sto} {f : Nat → Int} {S : Nat → Prop} (hf : ∀ c, c < nB σ → 0 ≤ f c) : 0 ≤ wS σ f S := by
  refine fb_si_nn (fun c hc => ?_)
  by_cases q : S c
  · rw [if_pos q]; exact hf c hc
  · rw [if_neg q]; exact Int.le_refl _
theorem wS_le {σ : Sto} {f : Nat → Int} {S T : Nat → Prop} (hf : ∀ c, c < nB σ → 0 ≤ f c) (h : ∀ c, c < nB σ → S c → T c) : wS σ f S ≤ wS σ f T := by
  refine fb_si_le (fun c hc => ?_)
  have := hf c hc
  by_cases q : S c
  · rw [if_pos q, if_pos (h c hc q)]; exact Int.le_refl _
  · rw [if_neg q]
    by_cases r : T c
    · rw [if_pos r]; exact this
    · rw [if_neg r]; exact Int.le_refl _
theorem wS_two {σ : Sto} {f : Nat → Int} {S U T : Nat → Prop} (hf : ∀ c, c < nB σ → 0 ≤ f c) (h1 : ∀ c, c < nB σ → S c → T c) (h2 : ∀ c, c < nB σ → U c → T c) (hd : ∀ c, c < nB σ → S c → U c → False) : wS σ f S + wS σ f U ≤ wS σ f T := by
  unfold wS
  rw [← fb_si_add]
  refine fb_si_le (fun c hc => ?_)
  have := hf c hc
  by_cases q : S c
  · rw [if_pos q, if_pos (h1 c hc q), if_neg (fun r => hd c hc q r)]; omega
  · rw [if_neg q]
    by_cases r : U c
    · rw [if_pos r, if_pos (h2 c hc r)]; omega
    · rw [if_neg r]
      by_cases z : T c
      · rw [if_pos z]; omega
      · rw [if_neg z]; omega
theorem wS_pt {σ : Sto} {f : Nat → Int} {b : Nat} (hf : ∀ c, c < nB σ → 0 ≤ f c) (hb : b < nB σ) : f b ≤ wS σ f (fun c => c = b) := by
  have := fb_si_at (f := fun c => @ite Int (c = b) (Classical.propDecidable _) (f c) 0) (n := nB σ) (k := b) (fun c hc => by
    by_cases q : c = b
    · rw [if_pos q]; exact hf c hc
    · rw [if_neg q]; exact Int.le_refl _) hb
  rw [if_pos rfl] at this
  exact this
theorem wS_three {σ : Sto} {f : Nat → Int} {S U T : Nat → Prop} {b : Nat} (hf : ∀ c, c < nB σ → 0 ≤ f c) (hb : b < nB σ) (h0 : T b) (h1 : ∀ c, c < nB σ → S c → T c) (h2 : ∀ c, c < nB σ → U c → T c) (hd : ∀ c, c < nB σ → S c → U c → False) (hs : ¬ S b) (hu : ¬ U b) : f b + wS σ f S + wS σ f U ≤ wS σ f T := by
  have a := wS_two (σ := σ) (f := f) (S := S) (U := U) (T := fun c => S c ∨ U c) hf (fun c _ q => Or.inl q) (fun c _ q => Or.inr q) hd
  have b1 := wS_two (σ := σ) (f := f) (S := fun c => c = b) (U := fun c => S c ∨ U c) (T := T) hf (fun c _ q => by rw [q]; exact h0) (fun c hc q => q.elim (h1 c hc) (h2 c hc)) (fun c _ q r => by rw [q] at r; exact r.elim hs hu)
  have c1 := wS_pt (σ := σ) (f := f) hf hb
  omega
theorem wS_all {σ : Sto} {f : Nat → Int} {S : Nat → Prop} (hf : ∀ c, c < nB σ → 0 ≤ f c) : wS σ f S ≤ fb_si f (nB σ) := by
  refine fb_si_le (fun c hc => ?_)
  by_cases q : S c
  · rw [if_pos q]; exact Int.le_refl _
  · rw [if_neg q]; exact hf c hc
/-- lines -/
abbrev Ln := Int × Int × Int
abbrev LNS : List Nat := [58, 59, 60, 61, 62, 63]
def lnA (s : Sto) (i : Nat) : Ln := ((s.1 58 i).toInt, (s.1 59 i).toInt, (s.1 61 i).toInt)
abbrev nL (s : Sto) : Nat := (s.1 62 0).toInt.toNat
def APP (s t : Sto) (l : List Ln) : Prop := nL t = nL s + l.length ∧ (∀ i, i < nL s → lnA t i = lnA s i) ∧ ∀ i x, l[i]? = some x → lnA t (nL s + i) = x
theorem APP.nil {s t : Sto} (e58 : t.1 58 = s.1 58) (e59 : t.1 59 = s.1 59) (e61 : t.1 61 = s.1 61) (e62 : t.1 62 = s.1 62) : APP s t [] :=
  ⟨by unfold nL; rw [e62]; rfl, fun i _ => by unfold lnA; rw [e58, e59, e61], fun i x h => by simp at h⟩
theorem APP.app {s t u : Sto} {l m : List Ln} (h : APP s t l) (g : APP t u m) : APP s u (l ++ m) := by
  refine ⟨by rw [g.1, h.1, List.length_append]; omega, fun i hi => by rw [g.2.1 i (by rw [h.1]; omega), h.2.1 i hi], fun i x hx => ?_⟩
  rw [List.getElem?_append] at hx
  by_cases q : i < l.length
  · rw [if_pos q] at hx
    rw [g.2.1 _ (by rw [h.1]; omega)]
    exact h.2.2 i x hx
  · rw [if_neg q] at hx
    have := g.2.2 _ x hx
    rw [h.1, show nL s + l.length + (i - l.length) = nL s + i by omega] at this
    exact this
theorem APP.to {s t : Sto} {l m : List Ln} (h : APP s t l) (e : l = m) : APP s t m := e ▸ h
theorem nL_le {s : Sto} (h : BM s) : (nL s : Int) = (s.1 62 0).toInt := by
  have := gM_62 h 0
  unfold nL; omega
theorem s_line {s : Sto} {x1 x2 x3 : Int32} (hB : BM s) (h1 : 0 ≤ x1.toInt ∧ x1.toInt ≤ 11) (h2 : 0 ≤ x2.toInt ∧ x2.toInt ≤ 39) (h3 : -1 ≤ x3.toInt ∧ x3.toInt ≤ 399) (hn : nL s < 1400) : OK (f_X12_line x1 x2 x3 s) (fun t => BM t ∧ FR LNS [] s t ∧ APP s t [(x1.toInt, x2.toInt, x3.toInt)]) := by
  have hl := nL_le hB
  have i0 : 0 ≤ (s.1 62 0).toInt ∧ (s.1 62 0).toInt < 1400 := by omega
  have cl := clamp_I i0.1
  unfold f_X12_line
  refine ok_ix i0 ?_
  refine ok_lt fun s1 e1 => ?_
  have q1 : s1.1 62 = s.1 62 := by rw [e1, sti_o (by decide)]
  refine ok_ix (by rw [q1]; exact i0) ?_
  refine ok_lt fun s2 e2 => ?_
  have q2 : s2.1 62 = s.1 62 := by rw [e2, sti_o (by decide), q1]
  refine ok_ix (by rw [q2]; exact i0) ?_
  refine ok_lt fun s3 e3 => ?_
  have q3 : s3.1 62 = s.1 62 := by rw [e3, sti_o (by decide), q2]
  refine ok_ix (by rw [q3]; exact i0) ?_
  refine ok_lt fun s4 e4 => ?_
  have q4 : s4.1 62 = s.1 62 := by rw [e4, sti_o (by decide), q3]
  refine ok_lt fun s5 e5 => ?_
  rw [q1] at e2
  rw [q2] at e3
  rw [q3] at e4
  rw [q4] at e5
  have ex : ((s.1 62 0) + 1).toInt = (s.1 62 0).toInt + 1 := i1 (by omega)
  have b4 : BM s4 := by
    rw [e4]; refine pM_60 ?_ (tI_rng _)
    rw [e3]; refine pM_61 ?_ h3
    rw [e2]; refine pM_59 ?_ h2
    rw [e1]; exact pM_58 hB h1
  have f4 : FR LNS [] s s4 := by
    rw [e4]; refine FR.st ?_ (by decide)
    rw [e3]; refine FR.st ?_ (by decide)
    rw [e2]; refine FR.st ?_ (by decide)
    rw [e1]; exact FR.st FR.rf (by decide)
  have r58 : ∀ j, s5.1 58 j = if j = (s.1 62 0).toNatClampNeg then x1 else s.1 58 j := fun j => by
    rw [e5, sti_o (by decide), e4, sti_o (by decide), e3, sti_o (by decide), e2, sti_o (by decide), e1, sti_if]
  have r59 : ∀ j, s5.1 59 j = if j = (s.1 62 0).toNatClampNeg then x2 else s.1 59 j := fun j => by
    rw [e5, sti_o (by decide), e4, sti_o (by decide), e3, sti_o (by decide), e2, sti_if, e1, sti_o (by decide)]
  have r61 : ∀ j, s5.1 61 j = if j = (s.1 62 0).toNatClampNeg then x3 else s.1 61 j := fun j => by
    rw [e5, sti_o (by decide), e4, sti_o (by decide), e3, sti_if, e2, sti_o (by decide), e1, sti_o (by decide)]
  have r62 : (s5.1 62 0).toInt = (s.1 62 0).toInt + 1 := by rw [e5, sti_if, if_pos rfl, ex]
  refine ok_ret ⟨by rw [e5]; exact pM_62 b4 (by omega), by rw [e5]; exact FR.st f4 (by decide), ?_, fun i hi => ?_, fun i x hx => ?_⟩
  · show nL s5 = nL s + 1
    unfold nL; omega
  · have ne : i ≠ (s.1 62 0).toNatClampNeg := by omega
    unfold lnA
    rw [r58, r59, r61, if_neg ne, if_neg ne, if_neg ne]
  · cases i with
    | succ i => simp at hx
    | zero =>
      have e : nL s + 0 = (s.1 62 0).toNatClampNeg := by omega
      simp at hx
      rw [← hx, e]
      unfold lnA
      rw [r58, r59, r61, if_pos rfl, if_pos rfl, if_pos rfl]
theorem s_opens {s : Sto} {x1 x2 : Int32} (hB : BM s) (h1 : 0 ≤ x1.toInt ∧ x1.toInt ≤ 11) (h2 : 0 ≤ x2.toInt ∧ x2.toInt ≤ 39) (hn : nL s < 1400) : OK (f_X12_opens x1 x2 s) (fun t => BM t ∧ FR LNS [] s t ∧ APP s t [(x1.toInt, x2.toInt, -1)]) := by
  have k_m1 : ((-1) : Int32).toInt = -1 := by decide +kernel
  unfold f_X12_opens
  refine ok_cals (s_line hB h1 h2 (by rw [k_m1]; omega) hn) (fun s1 q => ?_)
  obtain ⟨q1, q2, q3⟩ := q
  refine ok_lt fun s2 e2 => ?_
  rw [k_m1] at q3
  exact ok_ret ⟨by rw [e2]; exact pM_63 q1 (tI_rng _), by rw [e2]; exact FR.st q2 (by decide), (q3.app (APP.nil (by rw [e2, sti_o (by decide)]) (by rw [e2, sti_o (by decide)]) (by rw [e2, sti_o (by decide)]) (by rw [e2, sti_o (by decide)]))).to rfl⟩
theorem s_closes {s : Sto} {x1 x2 : Int32} (hB : BM s) (h2 : 0 ≤ x1.toInt ∧ x1.toInt ≤ 39) (h3 : -1 ≤ x2.toInt ∧ x2.toInt ≤ 399) (hn : nL s < 1400) : OK (f_X12_closes x1 x2 s) (fun t => BM t ∧ FR LNS [] s t ∧ APP s t [(5, x1.toInt, x2.toInt)]) := by
  have k_5 : (5 : Int32).toInt = 5 := by decide +kernel
  unfold f_X12_closes
  refine ok_lt fun s1 e1 => ?_
  have e62 : s1.1 62 = s.1 62 := by rw [e1, sti_o (by decide)]
  refine ok_cals (s_line (x1 := 5) (by rw [e1]; exact pM_63 hB (tI_rng _)) (by rw [k_5]; omega) h2 h3 (by unfold nL; rw [e62]; exact hn)) (fun s2 q => ?_)
  obtain ⟨q1, q2, q3⟩ := q
  rw [k_5] at q3
  exact ok_ret ⟨q1, FR.cal (by rw [e1]; exact FR.st FR.rf (by decide)) q2 rfl rfl, ((APP.nil (by rw [e1, sti_o (by decide)]) (by rw [e1, sti_o (by decide)]) (by rw [e1, sti_o (by decide)]) e62).app q3).to rfl⟩
theorem s_edgeOf {s : Sto} {x1 x2 : Int32} (hB : BM s) (h : ∃ e, e < nE s ∧ eF s e = x1.toInt ∧ eT s e = x2.toInt) : OK (f_X12_edgeOf x1 x2 s) (fun v => 0 ≤ v.toInt ∧ v.toNatClampNeg < nE s ∧ eF s v.toNatClampNeg = x1.toInt ∧ eT s v.toNatClampNeg = x2.toInt) := by
  have k_0 : (0 : Int32).toInt = 0 := by decide +kernel
  have hE := nE_le hB
  obtain ⟨e, h1, h2, h3⟩ := h
  unfold f_X12_edgeOf
  refine ok_itr1 (fun n i => n = (121 - i.toInt).toNat ∧ 0 ≤ i.toInt ∧ i.toInt ≤ (e : Int)) ?_ (n := (121 - (0 : Int32).toInt).toNat) ⟨rfl, by omega, by omega⟩ (by rw [k_0]; decide)
  intro ag n i I ih
  obtain ⟨hn, i0, ie⟩ := I
  have ci := clamp_I i0
  have skip : i.toInt ≠ e → OK (lt (i + 1) fun x3_4 => ag x3_4) _ := fun ne => ok_lt fun x4 e4 => by
    have ex : x4.toInt = i.toInt + 1 := by rw [e4]; exact i1 (by omega)
    exact ih (121 - x4.toInt).toNat x4 (by omega) ⟨rfl, by omega, by omega⟩
  refine ok_ix (by omega) ?_
  refine ok_lt fun v2 e2 => ?_
  refine ok_jn ?_
  refine ok_ite (fun c1 => ?_) (fun c1 => ?_)
  · rw [fa_eq, e2] at c1
    refine ok_ix (by omega) ?_
    refine ok_lt fun v6 e6 => ?_
    refine ok_ite (fun c2 => ?_) (fun c2 => ?_)
    · rw [fa_eq, e6] at c2
      exact ok_ret ⟨i0, by omega, c1, c2⟩
    · rw [fa_eq, e6] at c2
      refine skip (fun q => c2 ?_)
      have : i.toNatClampNeg = e := by omega
      rw [this]; exact h3
  · rw [fa_eq, e2] at c1
    refine skip (fun q => c1 ?_)
    have : i.toNatClampNeg = e := by omega
    rw [this]; exact h2
