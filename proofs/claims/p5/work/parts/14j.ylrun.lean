theorem EN.cg {σ s : Sto} {o c : Int} {j : Nat} {ms ml : List Nat} (f : FR ms ml σ s) (hm : (!ms.contains 58 && !ms.contains 59 && !ms.contains 61 && !ms.contains 62) = true) : EN s o c j ↔ EN σ o c j := by
  simp only [Bool.and_eq_true, Bool.not_eq_true', List.contains_eq_mem, decide_eq_false_iff_not] at hm
  unfold EN nL kA oA mA
  rw [f.1 58 hm.1.1.1, f.1 59 hm.1.1.2, f.1 61 hm.1.2, f.1 62 hm.2]
theorem LWj.cg {σ s : Sto} {k c : Int} {j : Nat} {ms ml : List Nat} (f : FR ms ml σ s) (hm : (!ms.contains 58 && !ms.contains 59 && !ms.contains 61 && !ms.contains 62) = true) : LWj s k c j ↔ LWj σ k c j := by
  simp only [Bool.and_eq_true, Bool.not_eq_true', List.contains_eq_mem, decide_eq_false_iff_not] at hm
  unfold LWj nL kA mA
  rw [f.1 58 hm.1.1.1, f.1 59 hm.1.1.2, f.1 62 hm.2]
theorem GOb.c0 {t : Sto} {Q : Int → Nat → Prop} {o : Int} {k : Nat} (h : GOb t Q o k) (e : kA t k = 0) : ∃ s b : Nat, oA t k = s ∧ (s : Int) < (t.1 47 0).toInt ∧ mA t k = b ∧ b < nB t ∧ ((t.1 42 s).toInt ≠ 6 → ((t.1 42 s).toInt ≠ 5 → ∃ p, p + (if (t.1 42 s).toInt = 3 then 1 else 0) ≤ o ∧ Q p (k + 1)) ∧ ((t.1 25 b).toInt ≠ -1 → WY t Q b)) := by
  obtain ⟨_, h⟩ := h
  rcases h with z | ⟨_, z⟩ | ⟨z, _⟩ | ⟨z, _⟩ | ⟨z, _⟩ | ⟨z, _⟩ | ⟨z, _⟩ | ⟨z, _⟩
  · rw [e] at z; exact absurd z (by decide)
  · exact z
  · rw [e] at z; exact absurd z (by decide)
  · rw [e] at z; exact absurd z (by decide)
  · rw [e] at z; exact absurd z (by decide)
  · rw [e] at z; exact absurd z (by decide)
  · rw [e] at z; exact absurd z (by decide)
  · rw [e] at z; exact absurd z (by decide)
theorem GOb.c3 {t : Sto} {Q : Int → Nat → Prop} {o : Int} {k : Nat} (h : GOb t Q o k) (e : kA t k = 3) : ∃ b : Nat, mA t k = b ∧ b < nB t ∧ (t.1 46 b).toInt ≠ -1 ∧ Q o (k + 1) ∧ (∃ q, LWj t 3 b q) ∧ ∃ j, (∀ q, LWj t 3 b q → q < j ∧ ∀ i, q < i → i < j → ¬ (LWj t 4 b i ∨ EN t 3 b i)) ∧ (LWj t 4 b j ∨ EN t 3 b j) ∧ Q o (j + 1) := by
  obtain ⟨_, h⟩ := h
  rcases h with z | ⟨z, _⟩ | ⟨_, z⟩ | ⟨z, _⟩ | ⟨z, _⟩ | ⟨z, _⟩ | ⟨z, _⟩ | ⟨z, _⟩
  · rw [e] at z; exact absurd z (by decide)
  · rw [e] at z; exact absurd z (by decide)
  · exact z
  · rw [e] at z; exact absurd z (by decide)
  · rw [e] at z; exact absurd z (by decide)
  · rw [e] at z; exact absurd z (by decide)
  · rw [e] at z; exact absurd z (by decide)
  · rw [e] at z; exact absurd z (by decide)
theorem GOb.c4 {t : Sto} {Q : Int → Nat → Prop} {o : Int} {k : Nat} (h : GOb t Q o k) (e : kA t k = 4) : (∃ j, EN t 3 (mA t k) j) ∧ ∀ j, EN t 3 (mA t k) j → Q o (j + 1) := by
  obtain ⟨_, h⟩ := h
  rcases h with z | ⟨z, _⟩ | ⟨z, _⟩ | ⟨_, z⟩ | ⟨z, _⟩ | ⟨z, _⟩ | ⟨z, _⟩ | ⟨z, _⟩
  · rw [e] at z; exact absurd z (by decide)
  · rw [e] at z; exact absurd z (by decide)
  · rw [e] at z; exact absurd z (by decide)
  · exact z
  · rw [e] at z; exact absurd z (by decide)
  · rw [e] at z; exact absurd z (by decide)
  · rw [e] at z; exact absurd z (by decide)
  · rw [e] at z; exact absurd z (by decide)
theorem GOb.c6 {t : Sto} {Q : Int → Nat → Prop} {o : Int} {k : Nat} (h : GOb t Q o k) (e : kA t k = 6) : (∃ j, EN t 2 (mA t k) j) ∧ ∀ j, EN t 2 (mA t k) j → Q o (j + 1) := by
  obtain ⟨_, h⟩ := h
  rcases h with z | ⟨z, _⟩ | ⟨z, _⟩ | ⟨z, _⟩ | ⟨_, z⟩ | ⟨z, _⟩ | ⟨z, _⟩ | ⟨z, _⟩
  · rw [e] at z; exact absurd z (by decide)
  · rw [e] at z; exact absurd z (by decide)
  · rw [e] at z; exact absurd z (by decide)
  · rw [e] at z; exact absurd z (by decide)
  · exact z
  · rw [e] at z; exact absurd z (by decide)
  · rw [e] at z; exact absurd z (by decide)
  · rw [e] at z; exact absurd z (by decide)
theorem GOb.c7 {t : Sto} {Q : Int → Nat → Prop} {o : Int} {k : Nat} (h : GOb t Q o k) (e : kA t k = 7) : (∃ j, LWj t 1 (mA t k) j) ∧ ∀ j, LWj t 1 (mA t k) j → Q o j := by
  obtain ⟨_, h⟩ := h
  rcases h with z | ⟨z, _⟩ | ⟨z, _⟩ | ⟨z, _⟩ | ⟨z, _⟩ | ⟨_, z⟩ | ⟨z, _⟩ | ⟨z, _⟩
  · rw [e] at z; exact absurd z (by decide)
  · rw [e] at z; exact absurd z (by decide)
  · rw [e] at z; exact absurd z (by decide)
  · rw [e] at z; exact absurd z (by decide)
  · rw [e] at z; exact absurd z (by decide)
  · exact z
  · rw [e] at z; exact absurd z (by decide)
  · rw [e] at z; exact absurd z (by decide)
theorem GOb.c8 {t : Sto} {Q : Int → Nat → Prop} {o : Int} {k : Nat} (h : GOb t Q o k) (e : kA t k = 8) : (∃ j, LWj t 11 (mA t k) j) ∧ ∀ j, LWj t 11 (mA t k) j → Q o j := by
  obtain ⟨_, h⟩ := h
  rcases h with z | ⟨z, _⟩ | ⟨z, _⟩ | ⟨z, _⟩ | ⟨z, _⟩ | ⟨z, _⟩ | ⟨_, z⟩ | ⟨z, _⟩
  · rw [e] at z; exact absurd z (by decide)
  · rw [e] at z; exact absurd z (by decide)
  · rw [e] at z; exact absurd z (by decide)
  · rw [e] at z; exact absurd z (by decide)
  · rw [e] at z; exact absurd z (by decide)
  · rw [e] at z; exact absurd z (by decide)
  · exact z
  · rw [e] at z; exact absurd z (by decide)
theorem GOb.cn {t : Sto} {Q : Int → Nat → Prop} {o : Int} {k : Nat} (h : GOb t Q o k) (e0 : kA t k ≠ 0) (e3 : kA t k ≠ 3) (e4 : kA t k ≠ 4) (e6 : kA t k ≠ 6) (e7 : kA t k ≠ 7) (e8 : kA t k ≠ 8) (e11 : kA t k ≠ 11) : Q o (k + 1) := by
  obtain ⟨_, h⟩ := h
  rcases h with z | ⟨z, _⟩ | ⟨z, _⟩ | ⟨z, _⟩ | ⟨z, _⟩ | ⟨z, _⟩ | ⟨z, _⟩ | ⟨_, z⟩
  · exact absurd z e11
  · exact absurd z e0
  · exact absurd z e3
  · exact absurd z e4
  · exact absurd z e6
  · exact absurd z e7
  · exact absurd z e8
  · exact z
abbrev RLN : List Nat := [69, 70, 71, 72, 74, 75, 76, 78, 79, 82, 83]
abbrev RLX : List Nat := [69, 70, 71, 72, 73, 74, 75, 76, 77, 78, 79, 80, 81, 82, 83]
theorem s_puts {s : Sto} {x v : Int32} (hB : BM s) (hx : 0 ≤ x.toInt) (hn : x.toInt < (s.1 47 0).toInt) (W : W1 s x.toNatClampNeg) (ho : (s.1 42 x.toNatClampNeg).toInt = 3 → (s.1 71 0).toInt < 8000) : OK (f_X12_puts x v s) (fun t => BM t ∧ FR RLN [] s t ∧ (t.1 71 0).toInt ≤ (s.1 71 0).toInt + (if (s.1 42 x.toNatClampNeg).toInt = 3 then 1 else 0) ∧ t.1 74 = s.1 74 ∧ ((s.1 42 x.toNatClampNeg).toInt = 5 → (t.1 78 0).toInt ≠ 0) ∧ ((s.1 42 x.toNatClampNeg).toInt ≠ 5 → t.1 78 = s.1 78)) := by
  have k_0 : (0 : Int32).toInt = 0 := by decide +kernel
  have g47 := gM_47 hB 0
  have g43 := gM_43 hB x.toNatClampNeg
  have xi : 0 ≤ x.toInt ∧ x.toInt < 400 := by omega
  unfold f_X12_puts
  refine ok_ix xi (ok_lt fun v1 e1 => ?_)
  subst e1
  refine ok_ite (fun c => ?_) (fun c0 => ?_)
  · have w := W.1 c
    refine ok_ix xi (ok_lt fun v3 e3 => ?_)
    refine ok_ix (by rw [e3]; omega) (ok_lt fun s4 e4 => ?_)
    exact ok_ret ⟨by rw [e4]; exact pM_69 hB (tI_rng _), by rw [e4]; exact FR.st FR.rf (by decide), by rw [e4, sti_o (by decide), if_neg (by omega)]; omega, by rw [e4, sti_o (by decide)], fun z => by omega, fun _ => by rw [e4, sti_o (by decide)]⟩
  refine ok_ite (fun c => ?_) (fun c1 => ?_)
  · have w := W.2.1 c
    refine ok_ix xi (ok_lt fun v3 e3 => ?_)
    refine ok_ix (by rw [e3]; omega) (ok_lt fun s4 e4 => ?_)
    exact ok_ret ⟨by rw [e4]; exact pM_82 hB (tI_rng _), by rw [e4]; exact FR.st FR.rf (by decide), by rw [e4, sti_o (by decide), if_neg (by omega)]; omega, by rw [e4, sti_o (by decide)], fun z => by omega, fun _ => by rw [e4, sti_o (by decide)]⟩
  refine ok_ite (fun c => ?_) (fun c2 => ?_)
  · have w := W.2.2.1 c
    refine ok_ix xi (ok_lt fun v3 e3 => ?_)
    refine ok_ix (by rw [e3]; omega) (ok_lt fun s4 e4 => ?_)
    exact ok_ret ⟨by rw [e4]; exact pM_83 hB (tI_rng _), by rw [e4]; exact FR.st FR.rf (by decide), by rw [e4, sti_o (by decide), if_neg (by omega)]; omega, by rw [e4, sti_o (by decide)], fun z => by omega, fun _ => by rw [e4, sti_o (by decide)]⟩
  refine ok_ite (fun c => ?_) (fun c3 => ?_)
  · refine ok_cals (s_outputs hB (ho c)) (fun s9 q => ?_)
    exact ok_ret ⟨q.1, FR.cal FR.rf q.2.1 rfl rfl, by rw [if_pos c]; omega, q.2.1.1 74 (by decide), fun z => by omega, fun _ => q.2.1.1 78 (by decide)⟩
  refine ok_ite (fun c => ?_) (fun c5 => ?_)
  · refine ok_cals (s_throwsIt hB) (fun s9 q => ?_)
    exact ok_ret ⟨q.1, FR.cal FR.rf q.2.1 rfl rfl, by rw [q.2.1.1 71 (by decide), if_neg c3]; omega, q.2.1.1 74 (by decide), fun _ => by omega, fun z => absurd c z⟩
  · exact ok_ret ⟨hB, FR.rf, by rw [if_neg c3]; omega, rfl, fun z => absurd z c5, fun _ => rfl⟩
theorem s_wayTo {σ s : Sto} {x1 x2 : Int32} {Q : Int → Nat → Prop} {b : Nat} (hB : BM s) (hF : FR RLX [] σ s) (e1 : x1.toInt = b) (e2 : x2.toInt = (σ.1 25 b).toInt) (h : WY σ Q b) : OK (f_X12_wayTo x1 x2 s) (fun v => 0 ≤ v.toInt ∧ Q 0 v.toNatClampNeg) := by
  have k_0 : (0 : Int32).toInt = 0 := by decide +kernel
  have k_1 : (1 : Int32).toInt = 1 := by decide +kernel
  have k_2 : (2 : Int32).toInt = 2 := by decide +kernel
  obtain ⟨⟨e, a1, a2, a3⟩, h⟩ := h
  have nE' : nE s = nE σ := by unfold nE; rw [hF.1 32 (by decide)]
  have eF' : ∀ i, eF s i = eF σ i := fun i => by unfold eF; rw [hF.1 27 (by decide)]
  have eT' : ∀ i, eT s i = eT σ i := fun i => by unfold eT; rw [hF.1 28 (by decide)]
  unfold f_X12_wayTo
  refine ok_calp (s_edgeOf hB ⟨e, by rw [nE']; exact a1, by rw [eF', e1]; exact a2, by rw [eT', e2]; exact a3⟩) (fun v1 q => ?_)
  obtain ⟨q1, q2, q3, q4⟩ := q
  rw [nE'] at q2
  rw [eF', e1] at q3
  rw [eT', e2] at q4
  have w := h v1.toNatClampNeg q2 q3 q4
  have cv := clamp_I q1
  have hE := nE_le hB
  rw [nE'] at hE
  refine ok_ix (by omega) ?_
  rw [hF.1 31 (by decide)]
  refine ok_lt fun v2 e2' => ?_
  refine ok_ite (fun c => ?_) (fun c => ?_)
  · rw [fa_eq, k_0, e2'] at c
    rcases w with ⟨z, _⟩ | ⟨_, z1, z2⟩
    · exact absurd c z
    · refine ok_calp (s_endOf (x1 := 2) (x2 := x2) hB (by rw [k_2, e2]; obtain ⟨j, hj⟩ := z1; exact ⟨j, (EN.cg hF rfl).mpr hj⟩)) (fun v4 r => ?_)
      rw [k_2, e2] at r
      obtain ⟨r1, r2, r3⟩ := r
      have ex : (v4 + 1).toInt = v4.toInt + 1 := i1 (by omega)
      have c4 := clamp_I r1
      have c5 := clamp_I (x := v4 + 1) (by omega)
      refine ok_ret ⟨by omega, ?_⟩
      rw [show (v4 + 1).toNatClampNeg = v4.toNatClampNeg + 1 by omega]
      exact z2 _ ((EN.cg hF rfl).mp r3)
  · rw [fa_eq, k_0, e2'] at c
    rcases w with ⟨_, z1, z2⟩ | ⟨z, _⟩
    · refine ok_calp (s_lineWith (x1 := 1) (x2 := x2) hB (by rw [k_1, e2]; obtain ⟨j, hj⟩ := z1; exact ⟨j, (LWj.cg hF rfl).mpr hj⟩)) (fun v4 r => ?_)
      rw [k_1, e2] at r
      obtain ⟨r1, r2, r3⟩ := r
      exact ok_ret ⟨r1, z2 _ ((LWj.cg hF rfl).mp r3)⟩
    · exact absurd z c
theorem s_caughtLine {σ s : Sto} {x1 x2 : Int32} {Q : Int → Nat → Prop} {b : Nat} (hB : BM s) (hF : FR RLX [] σ s) (hs : BM σ) (hb : b < nB σ) (e1 : x1.toInt = b) (h : (σ.1 25 b).toInt ≠ -1 → WY σ Q b) : OK (f_X12_caughtLine x1 x2 s) (fun r => BM r.2 ∧ FR RLN [] s r.2 ∧ r.2.1 71 = s.1 71 ∧ ((r.2.1 74 0).toInt ≠ -1 ∨ (0 ≤ r.1.toInt ∧ Q 0 r.1.toNatClampNeg))) := by
  have k_0 : (0 : Int32).toInt = 0 := by decide +kernel
  have k_1 : (1 : Int32).toInt = 1 := by decide +kernel
  have k_m1 : ((-1) : Int32).toInt = -1 := by decide +kernel
  have nb := nB_le hs
  have cb : x1.toNatClampNeg = b := nI_b e1
  have xi : 0 ≤ x1.toInt ∧ x1.toInt < 40 := by omega
  unfold f_X12_caughtLine
  refine ok_lt fun s1 q1 => ?_
  have b1 : BM s1 := by rw [q1]; exact pM_78 hB (by omega)
  have f1 : FR RLN [] s s1 := by rw [q1]; exact FR.st FR.rf (by decide)
  have F1 : FR RLX [] σ s1 := FR.cal hF f1 rfl rfl
  have t1 : s1.1 71 = s.1 71 := by rw [q1, sti_o (by decide)]
  refine ok_ix xi ?_
  rw [F1.1 25 (by decide), cb]
  refine ok_lt fun v2 e2 => ?_
  refine ok_ite (fun c => ?_) (fun c => ?_)
  · refine ok_lt fun s4 e4 => ?_
    have b4 : BM s4 := by rw [e4]; exact pM_74 b1 (by omega)
    refine ok_lt fun s5 e5 => ?_
    refine ok_ret ⟨by rw [e5]; exact pM_75 b4 (tI_rng _), ?_, ?_, Or.inl ?_⟩
    · rw [e5]; refine FR.st ?_ (by decide)
      rw [e4]; exact FR.st f1 (by decide)
    · rw [e5, sti_o (by decide), e4, sti_o (by decide)]; exact t1
    · rw [e5, sti_o (by decide), e4, sti_if, if_pos rfl, k_1]; decide
  · rw [fa_eq, k_m1, e2] at c
    refine ok_ix (by rw [k_0]; decide) ?_
    refine ok_lt fun s6 e6 => ?_
    have b6 : BM s6 := by rw [e6]; exact pM_82 b1 (tI_rng _)
    have f6 : FR RLN [] s s6 := by rw [e6]; exact FR.st f1 (by decide)
    have F6 : FR RLX [] σ s6 := FR.cal hF f6 rfl rfl
    refine ok_ix xi ?_
    rw [F6.1 25 (by decide)]
    refine ok_lt fun v7 e7 => ?_
    refine ok_calp (s_wayTo (σ := σ) (Q := Q) (b := b) b6 F6 e1 (by rw [e7]) (h c)) (fun v8 q => ?_)
    exact ok_ret ⟨b6, f6, by rw [e6, sti_o (by decide)]; exact t1, Or.inr q⟩
/-- behind a line -/
def NXL (σ s : Sto) (n : Nat) (r : Int32 × Sto) : Prop := BM r.2 ∧ FR (73 :: RLN) [] s r.2 ∧ (r.2.1 73 0).toInt ≤ (r.2.1 77 0).toInt ∧ ((r.2.1 74 0).toInt ≠ -1 ∨ (0 ≤ r.1.toInt ∧ ∃ m p, GO σ m p r.1.toNatClampNeg ∧ (r.2.1 71 0).toInt + p ≤ 40 * (r.2.1 73 0).toInt ∧ (((r.2.1 73 0).toInt = (s.1 73 0).toInt ∧ m = n) ∨ ((r.2.1 73 0).toInt = (s.1 73 0).toInt + 1 ∧ m = 2000))))
theorem s_states_ {σ s : Sto} {x y : Int32} {n : Nat} {o : Int} {j b k : Nat} (L : LAID σ) (hB : BM s) (hF : FR RLX [] σ s) (h37 : (s.1 73 0).toInt ≤ (s.1 77 0).toInt) (ho : (s.1 71 0).toInt + o ≤ 40 * (s.1 73 0).toInt) (o0 : 0 ≤ o) (ex : x.toInt = j) (ey : y.toInt = k) (ky : k < nL σ) (hj : (j : Int) < (σ.1 47 0).toInt) (hb : b < nB σ) (hm : mA σ k = b) (h : (σ.1 42 j).toInt ≠ 6 → ((σ.1 42 j).toInt ≠ 5 → ∃ p, p + (if (σ.1 42 j).toInt = 3 then 1 else 0) ≤ o ∧ GO σ n p (k + 1)) ∧ ((σ.1 25 b).toInt ≠ -1 → WY σ (GO σ n) b)) : OK (f_X12_states_ x y s) (NXL σ s n) := by
  have k_0 : (0 : Int32).toInt = 0 := by decide +kernel
  have k_6 : (6 : Int32).toInt = 6 := by decide +kernel
  have hs := L.1
  have S := L.2.2.2.2.2.2.2.2.2.1
  have g47 := gM_47 hs 0
  have hl := nL_le hs
  have g62 := gM_62 hs 0
  have cx : x.toNatClampNeg = j := nI_b ex
  have cy : y.toNatClampNeg = k := nI_b ey
  have xi : 0 ≤ x.toInt ∧ x.toInt < 400 := by omega
  have yi : 0 ≤ y.toInt ∧ y.toInt < 1400 := by omega
  have W := S.1 j hj
  have g73 := gM_73 hB 0
  have g71 := gM_71 hB 0
  unfold f_X12_states_
  refine ok_ix xi ?_
  rw [hF.1 44 (by decide), cx]
  refine ok_lt fun v1 e1 => ?_
  refine ok_ix xi ?_
  rw [hF.1 42 (by decide)]
  refine ok_lt fun v2 e2 => ?_
  refine ok_ite (fun c => ?_) (fun c => ?_)
  · refine ok_lt fun s4 e4 => ?_
    refine ok_ret ⟨by rw [e4]; exact pM_74 hB (by omega), by rw [e4]; exact FR.st FR.rf (by decide), by rw [e4, sti_o (by decide), sti_o (by decide)]; exact h37, Or.inl ?_⟩
    rw [e4, sti_if, if_pos rfl, k_0]; decide
  · rw [fa_eq, k_6, e2] at c
    obtain ⟨w1, w2⟩ := W.2.2.2.1 c
    obtain ⟨h1, h2⟩ := h c
    refine ok_calv (sd_valueOf 250 60 v1 s hB (by rw [e1]; exact w1) (by rw [hF.1 38 (by decide), hF.1 39 (by decide), hF.1 40 (by decide), hF.1 41 (by decide), e1]; exact w2.up (by decide) (Nat.le_refl _))) (fun v5 s5 q => ?_)
    obtain ⟨q1, q2⟩ := q
    (try dsimp only at q1 q2)
    have f5 : FR RLN [] s s5 := FR.cal FR.rf q2 rfl rfl
    have F5 : FR RLX [] σ s5 := FR.cal hF f5 rfl rfl
    have e71 : s5.1 71 = s.1 71 := q2.1 71 (by decide)
    have e73 : s5.1 73 = s.1 73 := q2.1 73 (by decide)
    have e77 : s5.1 77 = s.1 77 := q2.1 77 (by decide)
    have e74 : s5.1 74 = s.1 74 := q2.1 74 (by decide)
    refine ok_jnI1 (fun w => BM w ∧ FR RLN [] s w ∧ (((w.1 78 0).toInt = 0 ∧ (σ.1 42 j).toInt ≠ 5 ∧ (w.1 71 0).toInt ≤ (s.1 71 0).toInt + (if (σ.1 42 j).toInt = 3 then 1 else 0)) ∨ ((w.1 78 0).toInt ≠ 0 ∧ (w.1 71 0).toInt ≤ (s.1 71 0).toInt + o))) (fun w hw => ?_) (fun k1 hk1 => ?_)
    · obtain ⟨w3, w4, w5⟩ := hw
      have a73 : w.1 73 = s.1 73 := w4.1 73 (by decide)
      have a77 : w.1 77 = s.1 77 := w4.1 77 (by decide)
      have Fw : FR RLX [] σ w := FR.cal hF w4 rfl rfl
      refine ok_ite (fun c2 => ?_) (fun c2 => ?_)
      · rw [fa_eq, k_0] at c2
        rcases w5 with ⟨_, z2, z3⟩ | ⟨z, _⟩
        · obtain ⟨p, p1, p2⟩ := h1 z2
          have ey1 : (y + 1).toInt = y.toInt + 1 := i1 (by omega)
          have cy1 := clamp_I (x := y + 1) (by omega)
          refine ok_ret ⟨w3, FR.cal FR.rf w4 rfl rfl, by rw [a73, a77]; exact h37, Or.inr ⟨by (try dsimp only); omega, n, p, ?_, ?_, Or.inl ⟨by rw [a73], rfl⟩⟩⟩
          · (try dsimp only)
            rw [show (y + 1).toNatClampNeg = k + 1 by omega]; exact p2
          · (try dsimp only)
            rw [a73]; omega
        · exact absurd c2 z
      · rw [fa_eq, k_0] at c2
        refine ok_ix yi ?_
        rw [Fw.1 59 (by decide), cy]
        refine ok_lt fun v8 e8 => ?_
        have e8' : v8.toInt = b := by rw [e8]; exact hm
        refine ok_calv (s_caughtLine (σ := σ) (Q := GO σ n) (b := b) w3 Fw hs hb e8' h2) (fun v9 s9 r => ?_)
        obtain ⟨r1, r2, r3, r4⟩ := r
        (try dsimp only at r1 r2 r3 r4)
        have b73 : s9.1 73 = s.1 73 := by rw [r2.1 73 (by decide), a73]
        have b77 : s9.1 77 = s.1 77 := by rw [r2.1 77 (by decide), a77]
        have o8 : (w.1 71 0).toInt ≤ (s.1 71 0).toInt + o := by
          rcases w5 with ⟨z, _⟩ | ⟨_, z⟩
          · exact absurd z c2
          · exact z
        refine ok_ret ⟨r1, FR.cal (FR.cal FR.rf w4 rfl rfl) r2 rfl rfl, by (try dsimp only); rw [b73, b77]; exact h37, ?_⟩
        rcases r4 with z | ⟨z1, z2⟩
        · exact Or.inl z
        · exact Or.inr ⟨z1, n, 0, z2, by (try dsimp only); rw [r3, b73]; omega, Or.inl ⟨by (try dsimp only); rw [b73], rfl⟩⟩
    · refine ok_ite (fun c2 => ?_) (fun c2 => ?_)
      · rw [fa_eq, k_0] at c2
        have W5 : W1 s5 x.toNatClampNeg := by
          rw [cx]
          unfold W1 TT at W ⊢
          rw [F5.1 42 (by decide), F5.1 43 (by decide), F5.1 44 (by decide), F5.1 38 (by decide), F5.1 39 (by decide), F5.1 40 (by decide), F5.1 41 (by decide)]
          exact W
        have lt : (σ.1 42 j).toInt = 3 → (s.1 71 0).toInt + 1 ≤ 40 * (s.1 73 0).toInt := fun z => by
          obtain ⟨p, p1, p2⟩ := h1 (by omega)
          rw [if_pos z] at p1
          have p0 : 0 ≤ p := by
            cases n with
            | zero => exact p2.elim
            | succ n => exact p2.1.1
          omega
        refine ok_cals (s_puts (v := v5) q1 xi.1 (by rw [F5.1 47 (by decide), ex]; exact hj) W5 (fun z => ?_)) (fun s11 r => ?_)
        · rw [F5.1 42 (by decide), cx] at z
          have := lt z
          rw [e71]; omega
        · obtain ⟨r1, r2, r3, r4, r5, r6⟩ := r
          rw [F5.1 42 (by decide), cx] at r3 r5 r6
          refine hk1 s11 ⟨r1, FR.cal f5 r2 rfl rfl, ?_⟩
          rw [e71] at r3
          by_cases z : (σ.1 42 j).toInt = 5
          · refine Or.inr ⟨r5 z, ?_⟩
            rw [if_neg (by omega)] at r3
            omega
          · exact Or.inl ⟨by rw [r6 z]; exact c2, z, r3⟩
      · rw [fa_eq, k_0] at c2
        exact hk1 s5 ⟨q1, f5, Or.inr ⟨c2, by rw [e71]; omega⟩⟩
theorem s_nextLine {σ s : Sto} {x : Int32} {n : Nat} {o : Int} (L : LAID σ) (hR : RUNL σ) (hB : BM s) (hF : FR RLX [] σ s) (h37 : (s.1 73 0).toInt ≤ (s.1 77 0).toInt) (ho : (s.1 71 0).toInt + o ≤ 40 * (s.1 73 0).toInt) (x0 : 0 ≤ x.toInt) (hg : GO σ (n + 1) o x.toNatClampNeg) : OK (f_X12_nextLine x s) (NXL σ s n) := by
  have k_0 : (0 : Int32).toInt = 0 := by decide +kernel
  have k_1 : (1 : Int32).toInt = 1 := by decide +kernel
  have k_2 : (2 : Int32).toInt = 2 := by decide +kernel
  have k_3 : (3 : Int32).toInt = 3 := by decide +kernel
  have k_11 : (11 : Int32).toInt = 11 := by decide +kernel
  have hs := L.1
  have S := L.2.2.2.2.2.2.2.2.2.1
  have nb := nB_le hs
  have cx := clamp_I x0
  rw [GO.s] at hg
  have hl := nL_le hs
  have g62 := gM_62 hs 0
  have xl := hg.1.2
  have o0 := hg.1.1
  have xi : 0 ≤ x.toInt ∧ x.toInt < 1400 := by omega
  have ex1 : (x + 1).toInt = x.toInt + 1 := i1 (by omega)
  have cx1 := clamp_I (x := x + 1) (by omega)
  have nx1 : (x + 1).toNatClampNeg = x.toNatClampNeg + 1 := by omega
  -- the line goes on, nothing is done
  have on : ∀ v : Int32, 0 ≤ v.toInt → GO σ n o v.toNatClampNeg → OK (some (v, s)) (NXL σ s n) := fun v v0 g => ok_ret ⟨hB, FR.rf, h37, Or.inr ⟨v0, n, o, g, ho, Or.inl ⟨rfl, rfl⟩⟩⟩
  unfold f_X12_nextLine
  refine ok_ix xi ?_
  rw [hF.1 59 (by decide)]
  refine ok_lt fun v1 e1 => ?_
  have e1' : v1.toInt = mA σ x.toNatClampNeg := by rw [e1]
  refine ok_ix xi ?_
  rw [hF.1 58 (by decide)]
  refine ok_lt fun v2 e2 => ?_
  have e2' : v2.toInt = kA σ x.toNatClampNeg := by rw [e2]
  refine ok_ite (fun c => ?_) (fun c0 => ?_)
  · rw [e2'] at c
    obtain ⟨j, b, a1, a2, a3, a4, a5⟩ := hg.c0 c
    clear hg
    refine ok_ix xi ?_
    rw [hF.1 61 (by decide)]
    refine ok_lt fun v4 e4 => ?_
    have e4' : v4.toInt = j := by rw [e4]; exact a1
    refine ok_calv (s_states_ (σ := σ) (n := n) (o := o) (j := j) (b := b) (k := x.toNatClampNeg) L hB hF h37 ho o0 e4' cx.symm xl a2 a4 a3 a5) (fun v5 s5 q => ?_)
    exact ok_ret q
  rw [e2'] at c0
  refine ok_ite (fun c => ?_) (fun c3 => ?_)
  · rw [e2'] at c
    obtain ⟨b, a1, a2, a3, a4, a5, j, a6, a7, a8⟩ := hg.c3 c
    clear hg
    have v1b : v1.toInt = b := by rw [e1', a1]
    have cv : v1.toNatClampNeg = b := nI_b v1b
    obtain ⟨w1, w2⟩ := (S.2.2.2.2.1 b a2).resolve_left a3
    refine ok_ix (by omega) ?_
    rw [hF.1 46 (by decide), cv]
    refine ok_lt fun v6 e6 => ?_
    refine ok_calv (sd_valueOf 250 60 v6 s hB (by rw [e6]; exact w1) (by rw [hF.1 38 (by decide), hF.1 39 (by decide), hF.1 40 (by decide), hF.1 41 (by decide), e6]; exact w2.up (by decide) (Nat.le_refl _))) (fun v7 s7 q => ?_)
    obtain ⟨q1, q2⟩ := q
    (try dsimp only at q1 q2)
    have F7 : FR RLX [] σ s7 := FR.cal hF q2 rfl rfl
    have e71 : s7.1 71 = s.1 71 := q2.1 71 (by decide)
    have e73 : s7.1 73 = s.1 73 := q2.1 73 (by decide)
    have e77 : s7.1 77 = s.1 77 := q2.1 77 (by decide)
    have on7 : ∀ v : Int32, 0 ≤ v.toInt → GO σ n o v.toNatClampNeg → OK (some (v, s7)) (NXL σ s n) := fun v v0 g => ok_ret ⟨q1, FR.cal FR.rf q2 rfl rfl, by (try dsimp only); rw [e73, e77]; exact h37, Or.inr ⟨v0, n, o, g, by (try dsimp only); rw [e71, e73]; exact ho, Or.inl ⟨by (try dsimp only); rw [e73], rfl⟩⟩⟩
    refine ok_ite (fun _ => ?_) (fun _ => on7 (x + 1) (by omega) (by rw [nx1]; exact a4))
    refine ok_calp (s_otherwiseOf (j := j) q1 (by rw [v1b]; obtain ⟨q, hq⟩ := a5; exact ⟨q, (LWj.cg F7 rfl).mpr hq⟩) (fun q hq => ?_) (by rw [v1b]; exact a7.imp (fun z => (LWj.cg F7 rfl).mpr z) (fun z => (EN.cg F7 rfl).mpr z))) (fun v9 r => ?_)
    · rw [v1b] at hq
      obtain ⟨u1, u2⟩ := a6 q ((LWj.cg F7 rfl).mp hq)
      refine ⟨u1, fun i i1 i2 i3 => u2 i i1 i2 ?_⟩
      rw [v1b] at i3
      exact i3.imp (fun z => (LWj.cg F7 rfl).mp z) (fun z => (EN.cg F7 rfl).mp z)
    · have c9 : v9.toNatClampNeg = j + 1 := nI_b (by rw [r]; rfl)
      exact on7 v9 (by omega) (by rw [c9]; exact a8)
  rw [e2'] at c3
  refine ok_ite (fun c => ?_) (fun c4 => ?_)
  · rw [e2'] at c
    obtain ⟨⟨j, a1⟩, a2⟩ := hg.c4 c
    clear hg
    refine ok_calp (s_endOf (x1 := 3) (x2 := v1) hB (by rw [k_3, e1']; exact ⟨j, (EN.cg hF rfl).mpr a1⟩)) (fun v r => ?_)
    rw [k_3, e1'] at r
    obtain ⟨r1, r2, r3⟩ := r
    have ev : (v + 1).toInt = v.toInt + 1 := i1 (by omega)
    have c1 := clamp_I r1
    have c2 := clamp_I (x := v + 1) (by omega)
    exact on (v + 1) (by omega) (by rw [show (v + 1).toNatClampNeg = v.toNatClampNeg + 1 by omega]; exact a2 _ ((EN.cg hF rfl).mp r3))
  rw [e2'] at c4
  refine ok_ite (fun c => ?_) (fun c6 => ?_)
  · rw [e2'] at c
    obtain ⟨⟨j, a1⟩, a2⟩ := hg.c6 c
    clear hg
    refine ok_calp (s_endOf (x1 := 2) (x2 := v1) hB (by rw [k_2, e1']; exact ⟨j, (EN.cg hF rfl).mpr a1⟩)) (fun v r => ?_)
    rw [k_2, e1'] at r
    obtain ⟨r1, r2, r3⟩ := r
    have ev : (v + 1).toInt = v.toInt + 1 := i1 (by omega)
    have c1 := clamp_I r1
    have c2 := clamp_I (x := v + 1) (by omega)
    exact on (v + 1) (by omega) (by rw [show (v + 1).toNatClampNeg = v.toNatClampNeg + 1 by omega]; exact a2 _ ((EN.cg hF rfl).mp r3))
  rw [e2'] at c6
  refine ok_ite (fun c => ?_) (fun c7 => ?_)
  · rw [e2'] at c
    obtain ⟨⟨j, a1⟩, a2⟩ := hg.c7 c
    clear hg
    refine ok_calp (s_lineWith (x1 := 1) (x2 := v1) hB (by rw [k_1, e1']; exact ⟨j, (LWj.cg hF rfl).mpr a1⟩)) (fun v r => ?_)
    rw [k_1, e1'] at r
    exact on v r.1 (a2 _ ((LWj.cg hF rfl).mp r.2.2))
  rw [e2'] at c7
  refine ok_ite (fun c => ?_) (fun c8 => ?_)
  · rw [e2'] at c
    obtain ⟨⟨j, a1⟩, a2⟩ := hg.c8 c
    clear hg
    refine ok_calp (s_lineWith (x1 := 11) (x2 := v1) hB (by rw [k_11, e1']; exact ⟨j, (LWj.cg hF rfl).mpr a1⟩)) (fun v r => ?_)
    rw [k_11, e1'] at r
    exact on v r.1 (a2 _ ((LWj.cg hF rfl).mp r.2.2))
  rw [e2'] at c8
  refine ok_ite (fun c => ?_) (fun c11 => ?_)
  · rw [e2'] at c
    clear hg
    have g := hR.2.1 _ xl c
    have g73 := gM_73 hB 0
    refine ok_cals (s_enters hB h37) (fun s14 q => ?_)
    obtain ⟨q1, q2, q3⟩ := q
    have e77 : s14.1 77 = s.1 77 := q2.1 77 (by decide)
    have e71 : s14.1 71 = s.1 71 := q2.1 71 (by decide)
    rcases q3 with ⟨z1, z2⟩ | ⟨z1, z2, z3⟩
    · exact ok_ret ⟨q1, FR.cal FR.rf q2 rfl rfl, by (try dsimp only); rw [e77, z2]; exact h37, Or.inl (by (try dsimp only); omega)⟩
    · exact ok_ret ⟨q1, FR.cal FR.rf q2 rfl rfl, by (try dsimp only); rw [e77]; exact z3, Or.inr ⟨by (try dsimp only); omega, 2000, 40, by (try dsimp only); rw [nx1]; exact g, by (try dsimp only); rw [e71, z2]; omega, Or.inr ⟨z2, rfl⟩⟩⟩
  · rw [e2'] at c11
    have g := hg.cn c0 c3 c4 c6 c7 c8 c11
    clear hg
    exact on (x + 1) (by omega) (by rw [nx1]; exact g)
