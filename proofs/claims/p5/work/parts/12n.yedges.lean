theorem BK.of_ {σ : Sto} (hB : BM σ) (hQ : QL σ) (hK : BK σ) {j : Nat} (hj : j < nC σ) (hd : dP σ j ≠ -1) : 0 ≤ (σ.1 24 j).toInt ∧ (σ.1 24 j).toInt < (nB σ : Int) := by
  have h1 := BKI.ofl hK hj
  have h2 : ri (σ.1 24) j = if dP σ j ≠ -1 then (cbP (dP σ) (cT σ) (j + 1) : Int) - 1 else -1 := hK.2.2.1 j hj
  rw [if_pos hd] at h2
  have b0 : bgP (dP σ) (cT σ) 0 = true := bgP_t.mpr ⟨by rw [hQ.d0]; decide, Or.inr rfl⟩
  have l0 : cbP (dP σ) (cT σ) 1 = cbP (dP σ) (cT σ) 0 + 1 := cbP_t b0
  have l1 := cbP_le (d := dP σ) (ct := cT σ) (show 1 ≤ j + 1 by omega)
  have e : ri (σ.1 24) j = (σ.1 24 j).toInt := rfl
  have h3 : ri (σ.1 24) j < (nB σ : Int) := h1.2
  omega
/-- where a block goes on -/
def ESU (σ : Sto) (b : Nat) (t : Int) : Prop := (gOnI (sG σ (laR σ b)) ∧ t = (σ.1 24 (laR σ b + 1)).toInt) ∨ (gElI (sG σ (laR σ b)) ∧ t = (σ.1 24 (nM σ (laR σ b)).toNat).toInt)
theorem ESU.cg {σ s : Sto} {b : Nat} {t : Int} (e9 : s.1 9 = σ.1 9) (e10 : s.1 10 = σ.1 10) (e23 : s.1 23 = σ.1 23) (e24 : s.1 24 = σ.1 24) : ESU s b t ↔ ESU σ b t := by
  unfold ESU sG nM laR
  rw [e9, e10, e23, e24]
abbrev nE (σ : Sto) : Nat := (σ.1 32 0).toInt.toNat
abbrev eF (σ : Sto) (e : Nat) : Int := (σ.1 27 e).toInt
abbrev eT (σ : Sto) (e : Nat) : Int := (σ.1 28 e).toInt
abbrev eX (σ : Sto) (e : Nat) : Prop := (σ.1 29 e).toInt ≠ 0
/-- edges as they are laid, of the first k blocks wholly, of those below kk in part -/
def EDg (σ s : Sto) (k kk m : Nat) : Prop := (∀ e, e < nE s → (0 ≤ eF s e ∧ eF s e < kk) ∧ (0 ≤ eT s e ∧ eT s e < nB σ) ∧ (ESU σ (eF s e).toNat (eT s e) ∨ eX s e)) ∧ (∀ e d, e < nE s → d < nE s → eF s e = eF s d → eT s e = eT s d → e = d) ∧ (∀ b t, b < k → ESU σ b t → ∃ e, e < nE s ∧ eF s e = b ∧ eT s e = t) ∧ (∀ b, b < k → (s.1 25 b).toInt ≠ -1 → ∃ e, e < nE s ∧ eF s e = b ∧ eT s e = (s.1 25 b).toInt ∧ eX s e) ∧ nE s ≤ m ∧ (∀ b, b < k → -1 ≤ (s.1 25 b).toInt ∧ (s.1 25 b).toInt < nB σ)
/-- an edge more, or one that is known -/
def LEg (s t : Sto) (b : Nat) (g : Int) (x : Prop) : Prop := nE s ≤ nE t ∧ nE t ≤ nE s + 1 ∧ (∀ e, e < nE s → eF t e = eF s e ∧ eT t e = eT s e ∧ (eX s e → eX t e) ∧ (eX t e → eX s e ∨ x)) ∧ (∀ e, nE s ≤ e → e < nE t → (eF t e = b ∧ eT t e = g ∧ (eX t e ↔ x)) ∧ ∀ d, d < nE s → ¬ (eF s d = b ∧ eT s d = g)) ∧ ∃ e, e < nE t ∧ eF t e = b ∧ eT t e = g ∧ (x → eX t e)
theorem s_laysEdge {s : Sto} {x1 x2 x3 : Int32} (hB : BM s) (h1 : 0 ≤ x1.toInt ∧ x1.toInt ≤ 39) (h2 : 0 ≤ x2.toInt ∧ x2.toInt ≤ 39) (h3 : x3.toInt = 0 ∨ x3.toInt = 1) (hE : (s.1 32 0).toInt < 120) : OK (f_X12_laysEdge x1 x2 x3 s) (fun t => BM t ∧ FR [27, 28, 29, 32] [] s t ∧ LEg s t x1.toNatClampNeg x2.toInt (x3.toInt = 1)) := by
  have k_0 : (0 : Int32).toInt = 0 := by decide +kernel
  have k_1 : (1 : Int32).toInt = 1 := by decide +kernel
  have g32 := gM_32 hB 0
  have c1 := clamp_I h1.1
  have cE := clamp_I g32.1
  have nE' : (nE s : Int) = (s.1 32 0).toInt := by unfold nE; omega
  unfold f_X12_laysEdge
  refine ok_itr1 (fun n k => n = (121 - k.toInt).toNat ∧ 0 ≤ k.toInt ∧ k.toInt ≤ (s.1 32 0).toInt ∧ ∀ d : Nat, (d : Int) < k.toInt → ¬ (eF s d = x1.toNatClampNeg ∧ eT s d = x2.toInt)) ?_ (n := (121 - (0 : Int32).toInt).toNat) ⟨rfl, by omega, by omega, fun d hd => by omega⟩ (by rw [k_0]; decide)
  intro ag n k I ih
  obtain ⟨hn, k0, kE, hno⟩ := I
  have ck := clamp_I k0
  refine ok_ite (fun c2 => ?_) (fun c2 => ?_)
  · rw [fa_le] at c2
    have iE : 0 ≤ (s.1 32 0).toInt ∧ (s.1 32 0).toInt < 120 := ⟨g32.1, hE⟩
    refine ok_ix iE ?_
    refine ok_lt fun s3 e3 => ?_
    have q3 : s3.1 32 = s.1 32 := by rw [e3]; rfl
    rw [q3]
    refine ok_ix iE ?_
    refine ok_lt fun s4 e4 => ?_
    have q4 : s4.1 32 = s.1 32 := by rw [e4]; exact q3
    refine ok_bz (by rw [fa_eq, fa_eq, k_0, k_1]; exact h3) ?_
    rw [q4]
    refine ok_ix iE ?_
    refine ok_lt fun s5 e5 => ?_
    refine ok_lt fun s7 e7 => ?_
    have q5 : s5.1 32 = s.1 32 := by rw [e5]; exact q4
    rw [q5] at e7
    have ei : ((s.1 32 0) + 1).toInt = (s.1 32 0).toInt + 1 := i1 (by omega)
    have r27 : s7.1 27 = (sti s 27 (nE s) x1).1 27 := by rw [e7, e5, e4, e3]; rfl
    have r28 : s7.1 28 = (sti s3 28 (nE s) x2).1 28 := by rw [e7, e5, e4]; rfl
    have r29 : s7.1 29 = (sti s4 29 (nE s) x3).1 29 := by rw [e7, e5]; rfl
    have o28 : s3.1 28 = s.1 28 := by rw [e3]; rfl
    have o29 : s4.1 29 = s.1 29 := by rw [e4, e3]; rfl
    have n7 : nE s7 = nE s + 1 := by unfold nE; rw [e7, sti_s, ei]; omega
    have xx : ∀ v : Int32, v = x3 → ((v.toInt ≠ 0) ↔ x3.toInt = 1) := fun v hv => by rw [hv]; omega
    refine ok_ret ⟨?_, ?_, by omega, by omega, fun e he => ?_, fun e he he2 => ?_, nE s, by omega, ?_, ?_, fun z => ?_⟩
    · rw [e7]; refine pM_32 ?_ (by omega)
      rw [e5]; refine pM_29 ?_ (by omega)
      rw [e4]; refine pM_28 ?_ (by omega)
      rw [e3]; exact pM_27 hB (by omega)
    · rw [e7, e5, e4, e3]; exact FR.st (FR.st (FR.st (FR.st FR.rf (by decide)) (by decide)) (by decide)) (by decide)
    · unfold eF eT eX
      rw [r27, r28, r29, sti_j (by omega), sti_j (by omega), sti_j (by omega), o28, o29]
      exact ⟨rfl, rfl, id, Or.inl⟩
    · have : e = nE s := by omega
      subst this
      refine ⟨?_, fun d hd => hno d (by omega)⟩
      unfold eF eT eX
      rw [r27, r28, r29, sti_s, sti_s, sti_s]
      exact ⟨by omega, rfl, by omega⟩
    · unfold eF; rw [r27, sti_s]; omega
    · unfold eT; rw [r28, sti_s]
    · unfold eX; rw [r29, sti_s]; omega
  · rw [fa_le] at c2
    have ik : 0 ≤ k.toInt ∧ k.toInt < 120 := by omega
    have ex : (k + 1).toInt = k.toInt + 1 := i1 (by omega)
    have cont : ¬ (eF s k.toNatClampNeg = x1.toNatClampNeg ∧ eT s k.toNatClampNeg = x2.toInt) → OK (lt (k + 1) fun x4_10 => ag x4_10) _ := fun hno2 => ok_lt fun x10 e10 => by
      subst e10
      refine ih (121 - (k + 1).toInt).toNat (k + 1) (by rw [hn, ex]; omega) ⟨rfl, by omega, by omega, fun d hd => ?_⟩
      by_cases q : d = k.toNatClampNeg
      · rw [q]; exact hno2
      · exact hno d (by omega)
    refine ok_ix ik ?_
    refine ok_lt fun v8 e8 => ?_
    refine ok_jn ?_
    refine ok_ite (fun c3 => ?_) (fun c3 => ?_)
    · rw [fa_eq, e8] at c3
      refine ok_ix ik ?_
      refine ok_lt fun v12 e12 => ?_
      refine ok_ite (fun c4 => ?_) (fun c4 => ?_)
      · rw [fa_eq, e12] at c4
        have hk : k.toNatClampNeg < nE s := by omega
        have fin : ∀ (w : Int32), (w.toInt = 0 ∨ w.toInt = 1) → (w.toInt ≠ 0 ↔ (eX s k.toNatClampNeg ∨ x3.toInt = 1)) → OK (ix 120 k <| lt (sti s 29 k.toNatClampNeg w) fun s_16 => some s_16) (fun t => BM t ∧ FR [27, 28, 29, 32] [] s t ∧ LEg s t x1.toNatClampNeg x2.toInt (x3.toInt = 1)) := by
          intro w hw hw2
          refine ok_ix ik ?_
          refine ok_lt fun s16 e16 => ?_
          have n16 : nE s16 = nE s := by rw [e16]; rfl
          refine ok_ret ⟨by rw [e16]; exact pM_29 hB (by omega), by rw [e16]; exact FR.st FR.rf (by decide), by omega, by omega, fun e he => ?_, fun e he he2 => by omega, k.toNatClampNeg, by omega, ?_, ?_, fun z => ?_⟩
          · have r27 : s16.1 27 = s.1 27 := by rw [e16]; rfl
            have r28 : s16.1 28 = s.1 28 := by rw [e16]; rfl
            unfold eF eT eX
            rw [r27, r28, e16, sti_if]
            refine ⟨rfl, rfl, ?_⟩
            by_cases q : e = k.toNatClampNeg
            · rw [if_pos q, q]
              exact ⟨fun z => hw2.mpr (Or.inl z), fun z => hw2.mp z⟩
            · rw [if_neg q]; exact ⟨id, Or.inl⟩
          · show (s16.1 27 k.toNatClampNeg).toInt = _
            rw [show s16.1 27 = s.1 27 by rw [e16]; rfl]; omega
          · show (s16.1 28 k.toNatClampNeg).toInt = _
            rw [show s16.1 28 = s.1 28 by rw [e16]; rfl]; exact c4
          · unfold eX; rw [e16, sti_s]; exact hw2.mpr (Or.inr z)
        refine ok_ix ik ?_
        refine ok_lt fun v14 e14 => ?_
        refine ok_jn ?_
        refine ok_ite (fun c5 => ?_) (fun c5 => ?_)
        · rw [fa_eq, k_0, e14] at c5
          refine ok_ite (fun c6 => ?_) (fun c6 => ?_)
          · rw [fa_eq, k_0] at c6
            exact fin 0 (by omega) ⟨fun z => by omega, fun z => by rcases z with z | z; exact absurd c5 z; omega⟩
          · rw [fa_eq, k_0] at c6
            exact fin 1 (by omega) ⟨fun _ => Or.inr (by omega), fun _ => by omega⟩
        · rw [fa_eq, k_0, e14] at c5
          exact fin 1 (by omega) ⟨fun _ => Or.inl c5, fun _ => by omega⟩
      · rw [fa_eq, e12] at c4
        exact cont (fun z => c4 z.2)
    · rw [fa_eq, e8] at c3
      exact cont (fun z => c3 (by have := z.1; unfold eF at this; omega))
theorem EDg.add {σ s t : Sto} {b m : Nat} {g : Int} {x : Prop} (h : EDg σ s b (b + 1) m) (l : LEg s t b g x) (e25 : t.1 25 = s.1 25) (hg : 0 ≤ g ∧ g < nB σ) (hx : ESU σ b g ∨ x) : EDg σ t b (b + 1) (m + 1) := by
  obtain ⟨h1, h2, h3, h4, h5, h6⟩ := h
  obtain ⟨l1, l2, l3, l4, l5⟩ := l
  refine ⟨fun e he => ?_, fun e d he hd hf ht => ?_, fun c u hc hu => ?_, fun c hc hu => ?_, by omega, by rw [e25]; exact h6⟩
  · by_cases q : e < nE s
    · obtain ⟨a1, a2, a3, a4⟩ := l3 e q
      obtain ⟨o1, o2, o3⟩ := h1 e q
      rw [a1, a2]
      exact ⟨o1, o2, o3.imp_right a3⟩
    · obtain ⟨⟨a1, a2, a3⟩, -⟩ := l4 e (by omega) he
      rw [a1, a2]
      exact ⟨by omega, hg, hx.imp (fun z => by rw [Int.toNat_natCast]; exact z) a3.mpr⟩
  · by_cases q : e < nE s
    · by_cases r : d < nE s
      · rw [(l3 e q).1, (l3 d r).1] at hf
        rw [(l3 e q).2.1, (l3 d r).2.1] at ht
        exact h2 e d q r hf ht
      · obtain ⟨⟨a1, a2, -⟩, a4⟩ := l4 d (by omega) hd
        exfalso
        refine a4 e q ⟨?_, ?_⟩
        · rw [← (l3 e q).1, hf]; exact a1
        · rw [← (l3 e q).2.1, ht]; exact a2
    · by_cases r : d < nE s
      · obtain ⟨⟨a1, a2, -⟩, a4⟩ := l4 e (by omega) he
        exfalso
        refine a4 d r ⟨?_, ?_⟩
        · rw [← (l3 d r).1, ← hf]; exact a1
        · rw [← (l3 d r).2.1, ← ht]; exact a2
      · omega
  · obtain ⟨e, q1, q2, q3⟩ := h3 c u hc hu
    exact ⟨e, by omega, by rw [(l3 e q1).1]; exact q2, by rw [(l3 e q1).2.1]; exact q3⟩
  · rw [e25] at hu ⊢
    obtain ⟨e, q1, q2, q3, q4⟩ := h4 c hc hu
    exact ⟨e, by omega, by rw [(l3 e q1).1]; exact q2, by rw [(l3 e q1).2.1]; exact q3, (l3 e q1).2.2.1 q4⟩
/-- edges as laid -/
def ED (s : Sto) : Prop := EDg s s (nB s) (nB s) 120
theorem EDg.fr {σ s t : Sto} {k kk m : Nat} (h : EDg σ s k kk m) (e27 : t.1 27 = s.1 27) (e28 : t.1 28 = s.1 28) (e29 : t.1 29 = s.1 29) (e32 : t.1 32 = s.1 32) (e25 : ∀ b, b < k → t.1 25 b = s.1 25 b) : EDg σ t k kk m := by
  obtain ⟨h1, h2, h3, h4, h5, h6⟩ := h
  have n : nE t = nE s := by unfold nE; rw [e32]
  unfold EDg eF eT eX
  rw [n, e27, e28, e29]
  refine ⟨h1, h2, h3, fun b hb hu => ?_, h5, fun b hb => by rw [e25 b hb]; exact h6 b hb⟩
  rw [e25 b hb] at hu ⊢
  exact h4 b hb hu
theorem LEg.esu {s t : Sto} {b : Nat} {g : Int} {x : Prop} (l : LEg s t b g x) : ∃ e, e < nE t ∧ eF t e = b ∧ eT t e = g ∧ (x → eX t e) := l.2.2.2.2
theorem LEg.old {s t : Sto} {b : Nat} {g : Int} {x : Prop} (l : LEg s t b g x) {c : Int} {u : Int} (h : ∃ e, e < nE s ∧ eF s e = c ∧ eT s e = u) : ∃ e, e < nE t ∧ eF t e = c ∧ eT t e = u := by
  obtain ⟨e, h1, h2, h3⟩ := h
  have q := l.2.2.1 e h1
  exact ⟨e, Nat.lt_of_lt_of_le h1 l.1, by rw [q.1]; exact h2, by rw [q.2.1]; exact h3⟩
