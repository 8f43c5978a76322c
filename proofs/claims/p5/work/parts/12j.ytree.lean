def SKf (σ : Sto) (y : Nat) (f : Nat → Nat) : Prop := ∀ k, k < y → TT σ (f k) (ly σ k)
/-- what is changed from a place on -/
def TL (σ : Sto) (k y : Nat) : Int := fb_si (fun j => if k ≤ j then chI σ j (ly σ j) else 0) y
theorem TL.nn (σ : Sto) (k y : Nat) : 0 ≤ TL σ k y := fb_si_nn fun j _ => by have := ch_01 σ j (ly σ j); (try dsimp only); split <;> omega
theorem TL.z (σ : Sto) (y : Nat) : TL σ 0 y = PS σ y := fb_si_cong fun j _ => if_pos (Nat.zero_le _)
theorem TL.st {σ : Sto} {k y : Nat} (hk : k < y) : TL σ k y = TL σ (k + 1) y + chI σ k (ly σ k) := by
  have a : TL σ k y = fb_si (fun j => if j = k then chI σ k (ly σ k) else (if k + 1 ≤ j then chI σ j (ly σ j) else 0)) y := fb_si_cong (fun j _ => by
    by_cases q : j = k
    · subst q; rw [if_pos (Nat.le_refl _), if_pos rfl]
    · rw [if_neg q]
      by_cases r : k ≤ j
      · rw [if_pos r, if_pos (by omega)]
      · rw [if_neg r, if_neg (by omega)])
  rw [a, fb_si_upd (fun j => if k + 1 ≤ j then chI σ j (ly σ j) else 0) _ hk]
  (try dsimp only)
  rw [if_neg (by omega)]
  show TL σ (k + 1) y - 0 + _ = _
  omega
theorem fb_si_le {f g : Nat → Int} : ∀ {n : Nat}, (∀ k, k < n → f k ≤ g k) → fb_si f n ≤ fb_si g n
  | 0, _ => Int.le_refl _
  | n + 1, h => by
    rw [fb_si_succ, fb_si_succ]
    have := fb_si_le (f := f) (g := g) (n := n) (fun k hk => h k (by omega))
    have := h n (by omega)
    omega
theorem TL.le {σ s : Sto} {k y : Nat} (h : ∀ j, k ≤ j → j < y → chI s j (ly s j) ≤ chI σ j (ly σ j)) : TL s k y ≤ TL σ k y := fb_si_le fun j hj => by
  (try dsimp only)
  by_cases q : k ≤ j
  · rw [if_pos q, if_pos q]; exact h j q hj
  · rw [if_neg q, if_neg q]; exact Int.le_refl _
theorem PH.le {σ : Sto} {y : Nat} : PH σ y ≤ y := by
  have := fb_si_le (f := fun k => spI σ (ly σ k)) (g := fun _ => 1) (n := y) (fun k _ => (sp_01 σ _).2)
  have e : ∀ n : Nat, fb_si (fun _ => (1 : Int)) n = n := fun n => by
    induction n with
    | zero => rfl
    | succ n ih => rw [fb_si_succ, ih]; omega
  rw [e] at this; exact this
theorem PS.le {σ : Sto} {y : Nat} : PS σ y ≤ y := by
  have := fb_si_le (f := fun k => chI σ k (ly σ k)) (g := fun _ => 1) (n := y) (fun k _ => (ch_01 σ _ _).2)
  have e : ∀ n : Nat, fb_si (fun _ => (1 : Int)) n = n := fun n => by
    induction n with
    | zero => rfl
    | succ n ih => rw [fb_si_succ, ih]; omega
  rw [e] at this; exact this
/-- at a block's end: what is put aside no more, what still may come -/
def EI (σ : Sto) (y : Nat) (f : Nat → Nat) (b C : Nat) (q : Int) (m c : Int) (s : Sto) : Prop := BM s ∧ FR [38, 39, 40, 41, 42, 43, 44, 46, 47, 48, 49] [] σ s ∧ (NGr σ s ∧ SGr σ s) ∧ SKf s y f ∧ (∀ d : Nat, d ≠ b → s.1 46 d = σ.1 46 d) ∧ ((s.1 46 b).toInt = -1 ∨ (0 ≤ (s.1 46 b).toInt ∧ TT s C (s.1 46 b).toNatClampNeg)) ∧ (s.1 47 0).toInt ≤ q ∧ (s.1 41 0).toInt ≤ (s.1 47 0).toInt + m ∧ (OCt s : Int) ≤ c ∧ (s.1 48 0).toInt ≤ (s.1 47 0).toInt ∧ WSt s
theorem EI.ls {σ : Sto} {y : Nat} {f : Nat → Nat} {b C : Nat} {q m c B : Int} {s : Sto} (h : EI σ y f b C q m c s) (hl : (σ.1 50 0).toInt = y) (hB : fb_si (fun k => (f k : Int)) y ≤ B) : LSt s y B (q + 3 * y) m c := by
  obtain ⟨h1, h2, h3, h4, h5, h6, h7, h8, h9, h10, h11⟩ := h
  have a := PH.le (σ := s) (y := y)
  have b := PS.le (σ := s) (y := y)
  exact ⟨by rw [h2.1 50 (by decide)]; exact hl, ⟨f, h4, hB⟩, by omega, h8, h9, h10, h11⟩
/-- after a statement, after an X -/
theorem EI.ls2 {σ s t : Sto} {y : Nat} {f : Nat → Nat} {b C : Nat} {q q2 m m2 c c2 B p : Int} {ms : List Nat} (h : EI σ y f b C q m c s) (b1 : BM t) (fr : FR ms [] s t) (hm : ms.all (fun k => ([38, 39, 40, 41, 42, 43, 44, 47, 48] : List Nat).contains k) = true) (g : NGr s t) (g2 : SGr s t) (L : LSt t y B p m2 c2) (hq : (t.1 47 0).toInt ≤ q2) : EI σ y f b C q2 m2 c2 t := by
  obtain ⟨h1, h2, h3, h4, h5, h6, h7, h8, h9, h10, h11⟩ := h
  obtain ⟨l1, l2, l3, l4, l5, l6, l7⟩ := L
  have nm : ∀ k, k = 46 ∨ k = 49 → t.1 k = s.1 k := fun k hk => fr.1 k (fun z => by
    have := List.all_eq_true.mp hm k z
    rcases hk with r | r <;> subst r <;> exact absurd this (by decide))
  have e46 := nm 46 (Or.inl rfl)
  have e49 := nm 49 (Or.inr rfl)
  refine ⟨b1, FR.cal h2 (ms2 := ms) (ml2 := []) fr ?_ rfl, ⟨h3.1.tr g, h3.2.tr g2⟩, fun k hk => ?_, fun d hd => by rw [e46]; exact h5 d hd, ?_, hq, l4, l5, l6, l7⟩
  · refine List.all_eq_true.mpr (fun k hk => ?_)
    have := List.all_eq_true.mp hm k hk
    simp only [List.contains_eq_mem, decide_eq_true_eq] at this ⊢
    simp only [List.mem_cons, List.mem_nil_iff, or_false] at this ⊢
    omega
  · unfold ly; rw [e49]; exact (h4 k hk).ng g (Nat.le_refl _)
  · rw [e46]
    rcases h6 with z | ⟨z, z2⟩
    · exact Or.inl z
    · exact Or.inr ⟨z, z2.ng g (Nat.le_refl _)⟩
def mulN (D : Int) (k : Nat) : Int := fb_si (fun _ => D) k
theorem mulN_s (D : Int) (k : Nat) : mulN D (k + 1) = mulN D k + D := rfl
theorem mulN_le {D : Int} (h : 0 ≤ D) {k : Nat} (hk : k ≤ 6) : 0 ≤ mulN D k ∧ mulN D k ≤ 6 * D := by
  have : k = 0 ∨ k = 1 ∨ k = 2 ∨ k = 3 ∨ k = 4 ∨ k = 5 ∨ k = 6 := by omega
  have z : mulN D 0 = 0 := rfl
  rcases this with q | q | q | q | q | q | q <;> subst q <;> (simp only [mulN_s, z]; omega)
theorem s_endsBlock {σ : Sto} {y : Nat} {B p m c : Int} {x1 : Int32} {C : Nat} (hB : BM σ) (h : LSt σ y B p m c) (hy : y ≤ 6) (hx : 0 ≤ x1.toInt ∧ x1.toInt < 40) (hC : (σ.1 46 x1.toNatClampNeg).toInt = -1 ∨ (0 ≤ (σ.1 46 x1.toNatClampNeg).toInt ∧ TT σ C (σ.1 46 x1.toNatClampNeg).toNatClampNeg)) (hBC : B + C ≤ 60) {D : Int} (hD : B + C + 2 ≤ D ∧ D ≤ 62) (hp : p ≤ 300) (hm : m ≤ 3000) : OK (f_X12_endsBlock x1 σ) (fun s => BM s ∧ FR [38, 39, 40, 41, 42, 43, 44, 46, 47, 48, 49] [] σ s ∧ (NGr σ s ∧ SGr σ s) ∧ (∀ d : Nat, d ≠ x1.toNatClampNeg → s.1 46 d = σ.1 46 d) ∧ ((s.1 46 x1.toNatClampNeg).toInt = -1 ∨ (0 ≤ (s.1 46 x1.toNatClampNeg).toInt ∧ TT s 60 (s.1 46 x1.toNatClampNeg).toNatClampNeg)) ∧ ((s.1 46 x1.toNatClampNeg).toInt = -1 ↔ (σ.1 46 x1.toNatClampNeg).toInt = -1) ∧ (s.1 47 0).toInt ≤ p + 1 ∧ (s.1 41 0).toInt ≤ (s.1 47 0).toInt + m + 6 * D ∧ (OCt s : Int) ≤ c ∧ (s.1 48 0).toInt ≤ (s.1 47 0).toInt ∧ WSt s) := by
  have k_0 : (0 : Int32).toInt = 0 := by decide +kernel
  have k_1 : (1 : Int32).toInt = 1 := by decide +kernel
  have k_2 : (2 : Int32).toInt = 2 := by decide +kernel
  have k_m1 : ((-1) : Int32).toInt = -1 := by decide +kernel
  obtain ⟨h1, ⟨f, f1, f2⟩, h3, h4, h5, h6, h7⟩ := h
  have hph := PH.nn σ y
  have hB0 : 0 ≤ B := by
    have := fb_si_nn (f := fun k => (f k : Int)) (n := y) (fun k _ => by omega)
    omega
  have fk : ∀ k, k < y → (f k : Int) ≤ B := fun k hk => by
    have := fb_si_at (f := fun k => (f k : Int)) (n := y) (k := k) (fun k _ => by omega) hk
    omega
  have hC60 : C ≤ 60 := by omega
  unfold f_X12_endsBlock
  -- the state at place k: D says whether there is a z's expression
  have key : ∀ (ag : Int32 → Sto → Option Sto) (n : Nat) (x : Int32) (s : Sto), True := fun _ _ _ _ => trivial
  refine ok_itr2 (fun n x s => n = (9 - x.toInt).toNat ∧ 0 ≤ x.toInt ∧ x.toInt ≤ (y : Int) ∧ EI σ y f x1.toNatClampNeg C (p - 2 * TL s x.toNatClampNeg y) (m + mulN D x.toNatClampNeg) c s ∧ ((s.1 46 x1.toNatClampNeg).toInt = -1 ↔ (σ.1 46 x1.toNatClampNeg).toInt = -1)) ?_ (n := (9 - (0 : Int32).toInt).toNat) ⟨rfl, by omega, by omega, ⟨hB, FR.rf, ⟨NGr.rf, SGr.rf⟩, f1, fun _ _ => rfl, hC, by rw [show (0 : Int32).toNatClampNeg = 0 from rfl, TL.z]; omega, by have z : mulN D (0 : Int32).toNatClampNeg = 0 := rfl; omega, h5, h6, h7⟩, Iff.rfl⟩ (by rw [k_0]; decide)
  intro ag n x s I ih
  obtain ⟨hn, x0, xy, hE, hI⟩ := I
  have hE' := hE
  obtain ⟨e1, e2, e3, e4, e5, e6, e7, e8, e9, e10, e11⟩ := hE
  have hl50 : (s.1 50 0).toInt = y := by rw [e2.1 50 (by decide)]; exact h1
  have cx := clamp_I x0
  have hL := hE'.ls h1 f2
  have mm := mulN_le (D := D) (k := x.toNatClampNeg) (by omega) (by omega)
  have ms := mulN_s D x.toNatClampNeg
  have tl0 := TL.nn s x.toNatClampNeg y
  have g46 := gM_46 e1 x1.toNatClampNeg
  refine ok_ite (fun cc => ?_) (fun cc => ?_)
  · -- the end: the z's expression
    have ret : OK (some s) (fun s => BM s ∧ FR [38, 39, 40, 41, 42, 43, 44, 46, 47, 48, 49] [] σ s ∧ (NGr σ s ∧ SGr σ s) ∧ (∀ d : Nat, d ≠ x1.toNatClampNeg → s.1 46 d = σ.1 46 d) ∧ ((s.1 46 x1.toNatClampNeg).toInt = -1 ∨ (0 ≤ (s.1 46 x1.toNatClampNeg).toInt ∧ TT s 60 (s.1 46 x1.toNatClampNeg).toNatClampNeg)) ∧ ((s.1 46 x1.toNatClampNeg).toInt = -1 ↔ (σ.1 46 x1.toNatClampNeg).toInt = -1) ∧ (s.1 47 0).toInt ≤ p + 1 ∧ (s.1 41 0).toInt ≤ (s.1 47 0).toInt + m + 6 * D ∧ (OCt s : Int) ≤ c ∧ (s.1 48 0).toInt ≤ (s.1 47 0).toInt ∧ WSt s) :=
      ok_ret ⟨e1, e2, e3, e5, e6.imp_right (fun z => ⟨z.1, z.2.up hC60 hC60⟩), hI, by omega, by omega, e9, e10, e11⟩
    refine ok_ix hx ?_
    refine ok_lt fun v3 ev3 => ?_
    refine ok_ite (fun _ => ret) (fun c3 => ?_)
    rw [fa_eq, k_m1, ev3] at c3
    have hc := e6.resolve_left c3
    refine ok_ix hx ?_
    refine ok_lt fun v5 ev5 => ?_
    subst ev5
    refine ok_calp (sd_hasEffects e1 250 60 _ hc.1 (hc.2.up (by omega) hC60)) (fun v6 h6b => ?_)
    refine ok_ite (fun _ => ret) (fun _ => ?_)
    refine ok_ix hx ?_
    refine ok_lt fun v8 ev8 => ?_
    subst ev8
    refine ok_calv (s_fresh e1 hL (by omega) (by omega) hc.1 (hc.2.up hC60 hC60)) (fun v9 s9 q => ?_)
    obtain ⟨q1, q2, q3, q4, q5, q6, q7, q8, q9⟩ := q
    (try dsimp only at q1 q2 q3 q4 q5 q6 q7 q8 q9)
    have hEt := hE'.ls2 q1 q2 rfl q3 q9 q4 (q2 := p - 2 * TL s x.toNatClampNeg y + 1) (by omega)
    obtain ⟨t1, t2, t3, t4, t5, t6, t7, t8, t9, t10, t11⟩ := hEt
    refine ok_ix hx ?_
    refine ok_lt fun s10 e10' => ?_
    have l9 := idx q5 q6.lt
    have g41 := gM_41 q1 0
    have ng10 : NGr s9 s10 := NGr.of (by rw [e10']; rfl) (by rw [e10']; rfl) (by rw [e10']; rfl) (by rw [e10']; rfl)
    have sg10 : SGr s9 s10 := SGr.of (by rw [e10']; rfl) (by rw [e10']; rfl) (by rw [e10']; rfl) (by rw [e10']; rfl)
    have c46 : s10.1 46 x1.toNatClampNeg = v9 := by rw [e10', sti_s]
    refine ok_ret ⟨by rw [e10']; exact pM_46 q1 ⟨by omega, by omega⟩, by rw [e10']; exact FR.st t2 (by decide), ⟨t3.1.tr ng10, t3.2.tr sg10⟩, fun d hd => by rw [e10', sti_j hd]; exact t5 d hd, Or.inr ⟨by rw [c46]; exact q5, by rw [c46]; exact (q6.ng ng10 (Nat.le_refl _)).up (by decide) (by decide)⟩, ?_, ?_, ?_, ?_, ?_, ?_⟩
    · rw [c46]; exact ⟨fun z => by omega, fun z => absurd (hI.mpr z) c3⟩
    · rw [show s10.1 47 = s9.1 47 by rw [e10']; rfl]; omega
    · rw [show s10.1 47 = s9.1 47 by rw [e10']; rfl, show s10.1 41 = s9.1 41 by rw [e10']; rfl]; omega
    · rw [show OCt s10 = OCt s9 by rw [e10']; rfl]; exact t9
    · rw [show s10.1 47 = s9.1 47 by rw [e10']; rfl, show s10.1 48 = s9.1 48 by rw [e10']; rfl]; exact t10
    · exact t11.ng ng10 (by rw [e10']; rfl) (by rw [e10']; rfl) (by rw [e10']; rfl) (by rw [e10']; rfl)
  · rw [fa_le, hl50] at cc
    have hk : x.toNatClampNeg < y := by omega
    have hi : 0 ≤ x.toInt ∧ x.toInt < 8 := by omega
    have ex : (x + 1).toInt = x.toInt + 1 := i1 (by omega)
    have nx : (x + 1).toNatClampNeg = x.toNatClampNeg + 1 := by have := clamp_I (x := x + 1) (by omega); omega
    have tls := TL.st (σ := s) hk
    have cont : ∀ s5 : Sto, EI σ y f x1.toNatClampNeg C (p - 2 * TL s5 (x.toNatClampNeg + 1) y) (m + mulN D (x.toNatClampNeg + 1)) c s5 → ((s5.1 46 x1.toNatClampNeg).toInt = -1 ↔ (σ.1 46 x1.toNatClampNeg).toInt = -1) → OK (ag (x + 1) s5) _ := fun s5 a1 a2 => ih (9 - (x + 1).toInt).toNat (x + 1) s5 (by rw [hn, ex]; omega) ⟨rfl, by omega, by omega, by rw [nx]; exact a1, a2⟩
    have tk := e4 x.toNatClampNeg hk
    have fkx := fk x.toNatClampNeg hk
    have g49 := gM_49 e1 x.toNatClampNeg
    have l49 := idx g49.1 tk.lt
    have g41s := gM_41 e1 0
    refine ok_ix hi ?_
    refine ok_lt fun v11 ev11 => ?_
    subst ev11
    refine ok_ix ⟨g49.1, by omega⟩ ?_
    refine ok_lt fun v12 ev12 => ?_
    -- behind: the T is told
    have tell : chI s x.toNatClampNeg (ly s x.toNatClampNeg) = 1 → ∀ s21 : Sto, EI σ y f x1.toNatClampNeg C ((s.1 47 0).toInt + 1) (m + mulN D (x.toNatClampNeg + 1)) c s21 → ((s21.1 46 x1.toNatClampNeg).toInt = -1 ↔ (σ.1 46 x1.toNatClampNeg).toInt = -1) → TL s21 (x.toNatClampNeg + 1) y ≤ TL s (x.toNatClampNeg + 1) y → OK (ix 8 x <| lt (s21.1 49 x.toNatClampNeg) fun v_22 => cals (f_X12_states 1 x v_22 s21) fun s_23 => lt (x + 1) fun x2_14 => ag x2_14 s_23) (fun s => BM s ∧ FR [38, 39, 40, 41, 42, 43, 44, 46, 47, 48, 49] [] σ s ∧ (NGr σ s ∧ SGr σ s) ∧ (∀ d : Nat, d ≠ x1.toNatClampNeg → s.1 46 d = σ.1 46 d) ∧ ((s.1 46 x1.toNatClampNeg).toInt = -1 ∨ (0 ≤ (s.1 46 x1.toNatClampNeg).toInt ∧ TT s 60 (s.1 46 x1.toNatClampNeg).toNatClampNeg)) ∧ ((s.1 46 x1.toNatClampNeg).toInt = -1 ↔ (σ.1 46 x1.toNatClampNeg).toInt = -1) ∧ (s.1 47 0).toInt ≤ p + 1 ∧ (s.1 41 0).toInt ≤ (s.1 47 0).toInt + m + 6 * D ∧ (OCt s : Int) ≤ c ∧ (s.1 48 0).toInt ≤ (s.1 47 0).toInt ∧ WSt s) := by
      intro hch s21 a1 a2 a3
      have aL := a1.ls h1 f2
      have a1' := a1
      obtain ⟨b1, b2, b3, b4, b5, b6, b7, b8, b9, b10, b11⟩ := a1
      have t21 := b4 x.toNatClampNeg hk
      have g21 := gM_49 b1 x.toNatClampNeg
      have l21 := idx g21.1 t21.lt
      have g41 := gM_41 b1 0
      refine ok_ix hi ?_
      refine ok_lt fun v22 ev22 => ?_
      subst ev22
      refine ok_cals (s_stat b1 aL (by omega) (k := 1) (w := x) (x := s21.1 49 x.toNatClampNeg) (by omega) (by omega) (by omega) ⟨fun z => by omega, fun _ => by omega, fun z => by omega, fun _ => ⟨g21.1, t21.up (by omega) (by omega)⟩, fun z => by omega⟩) (fun s23 q => ?_)
      obtain ⟨q1, q2, q3, q4, q5, q6, q7⟩ := q
      refine ok_lt fun x14 e14 => ?_
      subst e14
      have tl23 : TL s23 (x.toNatClampNeg + 1) y ≤ TL s21 (x.toNatClampNeg + 1) y := TL.le (fun j hj hj2 => by
        have e : ly s23 j = ly s21 j := by unfold ly; rw [q2.1 49 (by decide)]
        rw [e, ch_ng q3 (b4 j hj2).lt]; exact Int.le_refl _)
      have L := q4.up (Int.le_refl _) (Int.le_refl _) (Int.le_refl _) (show c + (if (1 : Int32).toInt = 3 then 1 else 0) ≤ c by rw [k_1]; simp)
      refine cont s23 (a1'.ls2 q1 q2 rfl q3 q7 L (by omega)) (by rw [q2.1 46 (by decide)]; exact a2)
    refine ok_jn ?_
    refine ok_jn ?_
    -- whether it is the T itself
    have asked : chI s x.toNatClampNeg (ly s x.toNatClampNeg) = 1 → OK (ix 40 x1 <| lt (s.1 46 x1.toNatClampNeg) fun v_16 => jn (fun (t0_17 : Int32) => (lt (x + 1) fun x4_18 => itr (fun _ _ => none) (fun (a_79 : Int32 → Int32 → Option Sto) (x3_19 : Int32) (x4_19 : Int32) => (
            if (s.1 50 0) ≤ x4_19 then (
              jn (fun (s_21 : Sto) => (
                ix 8 x <| lt (s_21.1 49 x.toNatClampNeg) fun v_22 =>
                cals (f_X12_states (1 : Int32) x v_22 s_21) fun s_23 =>
                lt (x + 1) fun x2_14 => ag x2_14 s_23
              )) fun k_213 =>
              if x3_19 = 0 then (
                k_213 s
              ) else (
                lt (s.1 48 0) fun x4_25 =>
                calv (f_X12_makes (2 : Int32) x (0 : Int32) s) fun v_26 s_26 =>
                calv (f_X12_freshX v_26 s_26) fun v_27 s_27 =>
                lt (x + 1) fun x6_28 =>
                itr (fun _ _ => none) (fun (a_148 : Int32 → Sto → Option Sto) (x6_29 : Int32) (s_29 : Sto) => (
                  if (s_29.1 50 0) ≤ x6_29 then (
                    ix 40 x1 <| lt (s_29.1 46 x1.toNatClampNeg) fun v_31 =>
                    if v_31 = (-1) then (
                      k_213 s_29
                    ) else (
                      ix 40 x1 <| lt (s_29.1 46 x1.toNatClampNeg) fun v_33 =>
                      calv (f_X12_with 250 v_33 x x4_25 s_29) fun v_34 s_34 =>
                      ix 40 x1 <| lt (sti s_34 46 x1.toNatClampNeg v_34) fun s_35 =>
                      k_213 s_35
                    )
                  ) else (
                    ix 8 x6_29 <| lt (s_29.1 49 x6_29.toNatClampNeg) fun v_36 =>
                    calv (f_X12_with 250 v_36 x x4_25 s_29) fun v_37 s_37 =>
                    ix 8 x6_29 <| lt (sti s_37 49 x6_29.toNatClampNeg v_37) fun s_38 =>
                    lt (x6_29 + 1) fun x6_39 =>
                    a_148 x6_39 s_38
                  )
                )) LF x6_28 s_27
              )
            ) else (
              jn (fun (t0_40 : Int32) => (
                lt (x4_19 + 1) fun x4_41 =>
                a_79 t0_40 x4_41
              )) fun k_113 =>
              jn (
                k_113 (1 : Int32)
              ) fun k_108 =>
              if x3_19 = 0 then (
                ix 8 x4_19 <| lt (s.1 49 x4_19.toNatClampNeg) fun v_44 =>
                calp (f_X12_hasName 250 v_44 (2 : Int32) x s) fun v_45 =>
                if v_45 = 0 then (
                  k_113 (0 : Int32)
                ) else (
                  k_108
                )
              ) else (
                k_108
              )
            )
          )) LF t0_17 x4_18
        )) fun k_73 =>
        jn (
          k_73 (0 : Int32)
        ) fun k_72 =>
        if v_16 = (-1) then (
          k_72
        ) else (
          ix 40 x1 <| lt (s.1 46 x1.toNatClampNeg) fun v_49 =>
          calp (f_X12_hasName 250 v_49 (2 : Int32) x s) fun v_50 =>
          if v_50 = 0 then (
            k_72
          ) else (
            k_73 (1 : Int32)
          )
        )) (fun s => BM s ∧ FR [38, 39, 40, 41, 42, 43, 44, 46, 47, 48, 49] [] σ s ∧ (NGr σ s ∧ SGr σ s) ∧ (∀ d : Nat, d ≠ x1.toNatClampNeg → s.1 46 d = σ.1 46 d) ∧ ((s.1 46 x1.toNatClampNeg).toInt = -1 ∨ (0 ≤ (s.1 46 x1.toNatClampNeg).toInt ∧ TT s 60 (s.1 46 x1.toNatClampNeg).toNatClampNeg)) ∧ ((s.1 46 x1.toNatClampNeg).toInt = -1 ↔ (σ.1 46 x1.toNatClampNeg).toInt = -1) ∧ (s.1 47 0).toInt ≤ p + 1 ∧ (s.1 41 0).toInt ≤ (s.1 47 0).toInt + m + 6 * D ∧ (OCt s : Int) ≤ c ∧ (s.1 48 0).toInt ≤ (s.1 47 0).toInt ∧ WSt s) := by
      intro hch
      -- the stack's places are asked
      have gone : ∀ (s0 : Sto) (q0 m0 : Int), s0 = s → q0 = (s.1 47 0).toInt + 1 → m0 = m + mulN D (x.toNatClampNeg + 1) → EI σ y f x1.toNatClampNeg C q0 m0 c s0 := fun s0 q0 m0 r1 r2 r3 => by
        subst r1; subst r2; subst r3
        exact ⟨e1, e2, e3, e4, e5, e6, by omega, by omega, e9, e10, e11⟩
      have walk : ∀ t0 : Int32, OK (lt (x + 1) fun x4_18 => itr (fun _ _ => none) (fun (a_79 : Int32 → Int32 → Option Sto) (x3_19 : Int32) (x4_19 : Int32) => (
            if (s.1 50 0) ≤ x4_19 then (
              jn (fun (s_21 : Sto) => (
                ix 8 x <| lt (s_21.1 49 x.toNatClampNeg) fun v_22 =>
                cals (f_X12_states (1 : Int32) x v_22 s_21) fun s_23 =>
                lt (x + 1) fun x2_14 => ag x2_14 s_23
              )) fun k_213 =>
              if x3_19 = 0 then (
                k_213 s
              ) else (
                lt (s.1 48 0) fun x4_25 =>
                calv (f_X12_makes (2 : Int32) x (0 : Int32) s) fun v_26 s_26 =>
                calv (f_X12_freshX v_26 s_26) fun v_27 s_27 =>
                lt (x + 1) fun x6_28 =>
                itr (fun _ _ => none) (fun (a_148 : Int32 → Sto → Option Sto) (x6_29 : Int32) (s_29 : Sto) => (
                  if (s_29.1 50 0) ≤ x6_29 then (
                    ix 40 x1 <| lt (s_29.1 46 x1.toNatClampNeg) fun v_31 =>
                    if v_31 = (-1) then (
                      k_213 s_29
                    ) else (
                      ix 40 x1 <| lt (s_29.1 46 x1.toNatClampNeg) fun v_33 =>
                      calv (f_X12_with 250 v_33 x x4_25 s_29) fun v_34 s_34 =>
                      ix 40 x1 <| lt (sti s_34 46 x1.toNatClampNeg v_34) fun s_35 =>
                      k_213 s_35
                    )
                  ) else (
                    ix 8 x6_29 <| lt (s_29.1 49 x6_29.toNatClampNeg) fun v_36 =>
                    calv (f_X12_with 250 v_36 x x4_25 s_29) fun v_37 s_37 =>
                    ix 8 x6_29 <| lt (sti s_37 49 x6_29.toNatClampNeg v_37) fun s_38 =>
                    lt (x6_29 + 1) fun x6_39 =>
                    a_148 x6_39 s_38
                  )
                )) LF x6_28 s_27
              )
            ) else (
              jn (fun (t0_40 : Int32) => (
                lt (x4_19 + 1) fun x4_41 =>
                a_79 t0_40 x4_41
              )) fun k_113 =>
              jn (
                k_113 (1 : Int32)
              ) fun k_108 =>
              if x3_19 = 0 then (
                ix 8 x4_19 <| lt (s.1 49 x4_19.toNatClampNeg) fun v_44 =>
                calp (f_X12_hasName 250 v_44 (2 : Int32) x s) fun v_45 =>
                if v_45 = 0 then (
                  k_113 (0 : Int32)
                ) else (
                  k_108
                )
              ) else (
                k_108
              )
            )
          )) LF t0 x4_18) (fun s => BM s ∧ FR [38, 39, 40, 41, 42, 43, 44, 46, 47, 48, 49] [] σ s ∧ (NGr σ s ∧ SGr σ s) ∧ (∀ d : Nat, d ≠ x1.toNatClampNeg → s.1 46 d = σ.1 46 d) ∧ ((s.1 46 x1.toNatClampNeg).toInt = -1 ∨ (0 ≤ (s.1 46 x1.toNatClampNeg).toInt ∧ TT s 60 (s.1 46 x1.toNatClampNeg).toNatClampNeg)) ∧ ((s.1 46 x1.toNatClampNeg).toInt = -1 ↔ (σ.1 46 x1.toNatClampNeg).toInt = -1) ∧ (s.1 47 0).toInt ≤ p + 1 ∧ (s.1 41 0).toInt ≤ (s.1 47 0).toInt + m + 6 * D ∧ (OCt s : Int) ≤ c ∧ (s.1 48 0).toInt ≤ (s.1 47 0).toInt ∧ WSt s) := by
        intro t0
        refine ok_lt fun x18 e18 => ?_
        subst e18
        refine ok_itr2 (fun n _ j => n = (9 - j.toInt).toNat ∧ x.toInt + 1 ≤ j.toInt ∧ j.toInt ≤ (y : Int)) ?_ (n := (9 - (x + 1).toInt).toNat) ⟨rfl, by omega, by omega⟩ (by unfold LF; omega)
        intro ag2 n2 x3 j I2 ih2
        obtain ⟨hn2, j0, jy⟩ := I2
        have cj := clamp_I (x := j) (by omega)
        refine ok_ite (fun c5 => ?_) (fun c5 => ?_)
        · refine ok_jn ?_
          refine ok_ite (fun _ => ?_) (fun _ => ?_)
          · exact tell hch s (gone s _ _ rfl rfl rfl) hI (Int.le_refl _)
          · refine ok_lt fun x25 e25 => ?_
            have g48 := gM_48 e1 0
            have hq : (s.1 47 0).toInt ≤ p := by omega
            have p25 : 0 ≤ x25.toInt ∧ x25.toInt ≤ 399 := by rw [e25]; omega
            refine ok_calv (mk_one e1 (x1 := 2) (x2 := x) (x3 := 0) (z := 1) (by omega) (by omega) (by omega) (by omega) (Or.inl ⟨rfl, by omega, by unfold LFB; omega⟩)) (fun v26 s26 q => ?_)
            obtain ⟨q1, q2, q3, q4, q5, q6, q7, -⟩ := q
            (try dsimp only at q1 q2 q3 q4 q5 q6 q7)
            have L26 := hL.nodes (q := 1) q3 q2 (by omega)
            have E26 := hE'.ls2 q1 q2 rfl q3 (SGr.fr q2 rfl) L26 (q2 := (s.1 47 0).toInt) (by rw [q2.1 47 (by decide)]; omega)
            refine ok_calv (s_fresh q1 L26 (by omega) (by omega) q6 (q7.up (by decide) (by decide))) (fun v27 s27 u => ?_)
            obtain ⟨u1, u2, u3, u4, u5, u6, u7, u8, u9⟩ := u
            (try dsimp only at u1 u2 u3 u4 u5 u6 u7 u8 u9)
            have e26 : (s26.1 47 0).toInt = (s.1 47 0).toInt := by rw [q2.1 47 (by decide)]
            have E27 := E26.ls2 u1 u2 rfl u3 u9 u4 (q2 := (s.1 47 0).toInt + 1) (by omega)
            have n27 : (s27.1 41 0).toInt ≤ (s27.1 47 0).toInt + (m + mulN D x.toNatClampNeg + 1) := E27.2.2.2.2.2.2.2.1
            have I27 : ((s27.1 46 x1.toNatClampNeg).toInt = -1 ↔ (σ.1 46 x1.toNatClampNeg).toInt = -1) := by rw [u2.1 46 (by decide), q2.1 46 (by decide)]; exact hI
            have tl27 : TL s27 (x.toNatClampNeg + 1) y ≤ TL s (x.toNatClampNeg + 1) y := TL.le (fun j hj hj2 => by
              have e : ly s27 j = ly s j := by unfold ly; rw [u2.1 49 (by decide), q2.1 49 (by decide)]
              rw [e, ch_ng (q3.tr u3) (e4 j hj2).lt]; exact Int.le_refl _)
            refine ok_lt fun x28 e28 => ?_
            subst e28
            -- T's are replaced: the sum of what was
            refine ok_itr2 (fun n j t => n = (9 - j.toInt).toNat ∧ x.toInt + 1 ≤ j.toInt ∧ j.toInt ≤ (y : Int) ∧ EI σ y f x1.toNatClampNeg C ((s.1 47 0).toInt + 1) (m + mulN D x.toNatClampNeg + 1 + fb_si (fun k => (f k : Int)) j.toNatClampNeg) c t ∧ ((t.1 46 x1.toNatClampNeg).toInt = -1 ↔ (σ.1 46 x1.toNatClampNeg).toInt = -1) ∧ TL t (x.toNatClampNeg + 1) y ≤ TL s (x.toNatClampNeg + 1) y) ?_ (n := (9 - (x + 1).toInt).toNat) ⟨rfl, by omega, by omega, ?_, I27, tl27⟩ (by unfold LF; omega)
            · intro ag3 n3 j3 t I3 ih3
              obtain ⟨hn3, a0, a1, a2, a3, a4⟩ := I3
              have a2' := a2
              obtain ⟨b1, b2, b3, b4, b5, b6, b7, b8, b9, b10, b11⟩ := a2
              have cj3 := clamp_I (x := j3) (by omega)
              have t50 : (t.1 50 0).toInt = y := by rw [b2.1 50 (by decide)]; exact h1
              have g41 := gM_41 b1 0
              refine ok_ite (fun c6 => ?_) (fun c6 => ?_)
              · rw [fa_le, t50] at c6
                have fy : fb_si (fun k => (f k : Int)) j3.toNatClampNeg ≤ B := by rw [show j3.toNatClampNeg = y by omega]; exact f2
                refine ok_ix hx ?_
                refine ok_lt fun v31 e31 => ?_
                refine ok_ite (fun _ => ?_) (fun c7 => ?_)
                · exact tell hch t ⟨b1, b2, b3, b4, b5, b6, b7, by omega, b9, b10, b11⟩ a3 a4
                · rw [fa_eq, k_m1, e31] at c7
                  have hc := b6.resolve_left c7
                  refine ok_ix hx ?_
                  refine ok_lt fun v33 e33 => ?_
                  subst e33
                  refine ok_calv (sd_with (x2 := x) (x3 := x25) (by omega) p25 250 C _ t b1 hc.1 (hc.2.up (by omega) (Nat.le_refl _)) (by omega)) (fun v34 s34 w => ?_)
                  obtain ⟨w1, w2, w3, w4, w5, w6, -⟩ := w
                  (try dsimp only at w1 w2 w3 w4 w5 w6)
                  refine ok_ix hx ?_
                  refine ok_lt fun s35 e35 => ?_
                  have l34 := idx w5 w6.lt
                  have g41b := gM_41 w1 0
                  have ng35 : NGr t s35 := w3.tr (NGr.of (by rw [e35]; rfl) (by rw [e35]; rfl) (by rw [e35]; rfl) (by rw [e35]; rfl))
                  have sg35 : SGr t s35 := SGr.tr (SGr.fr w2 rfl) (SGr.of (by rw [e35]; rfl) (by rw [e35]; rfl) (by rw [e35]; rfl) (by rw [e35]; rfl))
                  have c46 : s35.1 46 x1.toNatClampNeg = v34 := by rw [e35, sti_s]
                  have e47 : s35.1 47 = t.1 47 := by rw [e35]; exact w2.1 47 (by decide)
                  have e42 : s35.1 42 = t.1 42 := by rw [e35]; exact w2.1 42 (by decide)
                  have e43 : s35.1 43 = t.1 43 := by rw [e35]; exact w2.1 43 (by decide)
                  have e44 : s35.1 44 = t.1 44 := by rw [e35]; exact w2.1 44 (by decide)
                  have e48 : s35.1 48 = t.1 48 := by rw [e35]; exact w2.1 48 (by decide)
                  have e49 : s35.1 49 = t.1 49 := by rw [e35]; exact w2.1 49 (by decide)
                  have e41 : s35.1 41 = s34.1 41 := by rw [e35]; rfl
                  refine tell hch s35 ⟨by rw [e35]; exact pM_46 w1 ⟨by omega, by omega⟩, by rw [e35]; exact FR.st (FR.cal b2 w2 rfl rfl) (by decide), ⟨b3.1.tr ng35, b3.2.tr sg35⟩, fun k hk => by unfold ly; rw [e49]; exact (b4 k hk).ng ng35 (Nat.le_refl _), fun d hd => by rw [e35, sti_j hd, w2.1 46 (by decide)]; exact b5 d hd, Or.inr ⟨by rw [c46]; exact w5, by rw [c46]; exact w6.ng (NGr.of (by rw [e35]; rfl) (by rw [e35]; rfl) (by rw [e35]; rfl) (by rw [e35]; rfl)) (Nat.le_refl _)⟩, by rw [e47]; exact b7, by rw [e47, e41]; omega, by unfold OCt; rw [e42, e47]; exact b9, by rw [e47, e48]; exact b10, b11.ng ng35 e42 e43 e44 e47⟩ ?_ ?_
                  · rw [c46]; exact ⟨fun z => by omega, fun z => absurd (a3.mpr z) c7⟩
                  · refine Int.le_trans (TL.le (fun j hj hj2 => ?_)) a4
                    have e : ly s35 j = ly t j := by unfold ly; rw [e49]
                    rw [e, ch_ng ng35 (b4 j hj2).lt]; exact Int.le_refl _
              · rw [fa_le, t50] at c6
                have hj3 : j3.toNatClampNeg < y := by omega
                have ti := b4 j3.toNatClampNeg hj3
                have fkj := fk j3.toNatClampNeg hj3
                have g49t := gM_49 b1 j3.toNatClampNeg
                have l49t := idx g49t.1 ti.lt
                refine ok_ix (by omega) ?_
                refine ok_lt fun v36 e36 => ?_
                subst e36
                have fle : fb_si (fun k => (f k : Int)) (j3.toNatClampNeg + 1) ≤ B := by
                  have := fb_si_split (fun k => (f k : Int)) (j3.toNatClampNeg + 1) (y - (j3.toNatClampNeg + 1))
                  rw [show j3.toNatClampNeg + 1 + (y - (j3.toNatClampNeg + 1)) = y by omega] at this
                  have nn := fb_si_nn (f := fun k => (f (j3.toNatClampNeg + 1 + k) : Int)) (n := y - (j3.toNatClampNeg + 1)) (fun k _ => by omega)
                  omega
                rw [fb_si_succ] at fle
                refine ok_calv (sd_with (x2 := x) (x3 := x25) (by omega) p25 250 (f j3.toNatClampNeg) _ t b1 g49t.1 (ti.up (by omega) (Nat.le_refl _)) (by omega)) (fun v37 s37 w => ?_)
                obtain ⟨w1, w2, w3, w4, w5, w6, w7⟩ := w
                (try dsimp only at w1 w2 w3 w4 w5 w6 w7)
                refine ok_ix (by omega) ?_
                refine ok_lt fun s38 e38 => ?_
                refine ok_lt fun x39 e39' => ?_
                subst e39'
                have ex3 : (j3 + 1).toInt = j3.toInt + 1 := i1 (by omega)
                have nx3 : (j3 + 1).toNatClampNeg = j3.toNatClampNeg + 1 := by have := clamp_I (x := j3 + 1) (by omega); omega
                have l37 := idx w5 w6.lt
                have g41b := gM_41 w1 0
                have ng0 : NGr s37 s38 := NGr.of (by rw [e38]; rfl) (by rw [e38]; rfl) (by rw [e38]; rfl) (by rw [e38]; rfl)
                have ng38 : NGr t s38 := w3.tr ng0
                have sg38 : SGr t s38 := SGr.tr (SGr.fr w2 rfl) (SGr.of (by rw [e38]; rfl) (by rw [e38]; rfl) (by rw [e38]; rfl) (by rw [e38]; rfl))
                have e47 : s38.1 47 = t.1 47 := by rw [e38]; exact w2.1 47 (by decide)
                have e42 : s38.1 42 = t.1 42 := by rw [e38]; exact w2.1 42 (by decide)
                have e43 : s38.1 43 = t.1 43 := by rw [e38]; exact w2.1 43 (by decide)
                have e44 : s38.1 44 = t.1 44 := by rw [e38]; exact w2.1 44 (by decide)
                have e48 : s38.1 48 = t.1 48 := by rw [e38]; exact w2.1 48 (by decide)
                have e46 : s38.1 46 = t.1 46 := by rw [e38]; exact w2.1 46 (by decide)
                have e49 : ∀ k, s38.1 49 k = if k = j3.toNatClampNeg then v37 else t.1 49 k := fun k => by rw [e38, sti_if, w2.1 49 (by decide)]
                have e41 : s38.1 41 = s37.1 41 := by rw [e38]; rfl
                refine ih3 (9 - (j3 + 1).toInt).toNat (j3 + 1) s38 (by rw [hn3, ex3]; omega) ⟨rfl, by omega, by omega, ⟨by rw [e38]; exact pM_49 w1 ⟨by omega, by omega⟩, by rw [e38]; exact FR.st (FR.cal b2 w2 rfl rfl) (by decide), ⟨b3.1.tr ng38, b3.2.tr sg38⟩, fun k hk => ?_, fun d hd => by rw [e46]; exact b5 d hd, ?_, by rw [e47]; exact b7, by rw [e47, e41, nx3, fb_si_succ]; omega, by unfold OCt; rw [e42, e47]; exact b9, by rw [e47, e48]; exact b10, b11.ng ng38 e42 e43 e44 e47⟩, by rw [e46]; exact a3, ?_⟩
                · unfold ly
                  rw [e49]
                  by_cases q : k = j3.toNatClampNeg
                  · rw [if_pos q]; subst q; exact w6.ng ng0 (Nat.le_refl _)
                  · rw [if_neg q]; exact (b4 k hk).ng ng38 (Nat.le_refl _)
                · rw [e46]
                  exact b6.imp_right (fun z => ⟨z.1, z.2.ng ng38 (Nat.le_refl _)⟩)
                · refine Int.le_trans (TL.le (fun j hj hj2 => ?_)) a4
                  by_cases q : j = j3.toNatClampNeg
                  · subst q
                    have e : ly s38 j3.toNatClampNeg = v37.toNatClampNeg := by unfold ly; rw [e49, if_pos rfl]
                    rw [e]
                    by_cases r : (t.1 38 (ly t j3.toNatClampNeg)).toInt = 2 ∧ (t.1 39 (ly t j3.toNatClampNeg)).toInt = (j3.toNatClampNeg : Int)
                    · have r2 := w7 r.1 (by have r2 := r.2; unfold ly at r2; omega)
                      rw [r2, ch_ng ng38 ti.lt]; exact Int.le_refl _
                    · have : chI t j3.toNatClampNeg (ly t j3.toNatClampNeg) = 1 := by unfold chI; rw [if_neg r]
                      rw [this]; exact (ch_01 _ _ _).2
                  · have e : ly s38 j = ly t j := by unfold ly; rw [e49, if_neg q]
                    rw [e, ch_ng ng38 (b4 j hj2).lt]; exact Int.le_refl _
            · have nn := fb_si_nn (f := fun k => (f k : Int)) (n := (x + 1).toNatClampNeg) (fun k _ => by omega)
              obtain ⟨b1, b2, b3, b4, b5, b6, b7, b8, b9, b10, b11⟩ := E27
              exact ⟨b1, b2, b3, b4, b5, b6, b7, by omega, b9, b10, b11⟩
        · rw [fa_le, hl50] at c5
          have ex2 : (j + 1).toInt = j.toInt + 1 := i1 (by omega)
          have again : ∀ t : Int32, OK (ag2 t (j + 1)) _ := fun t => ih2 (9 - (j + 1).toInt).toNat t (j + 1) (by rw [hn2, ex2]; omega) ⟨rfl, by omega, by omega⟩
          refine ok_jn ?_
          refine ok_jn ?_
          have yes : OK (lt (j + 1) fun x4_41 => ag2 (1 : Int32) x4_41) _ := ok_lt fun x41 e41 => by subst e41; exact again 1
          refine ok_ite (fun _ => ?_) (fun _ => yes)
          have tj := e4 j.toNatClampNeg (by omega)
          have fj := fk j.toNatClampNeg (by omega)
          have gj := gM_49 e1 j.toNatClampNeg
          refine ok_ix (by omega) ?_
          refine ok_lt fun v44 e44 => ?_
          subst e44
          refine ok_calp (sd_hasName e1 250 _ _ gj.1 (tj.up (by omega) (Nat.le_refl _))) (fun v45 h45 => ?_)
          refine ok_ite (fun _ => ?_) (fun _ => yes)
          exact ok_lt fun x41 e41 => by subst e41; exact again 0
      refine ok_ix hx ?_
      refine ok_lt fun v16 e16 => ?_
      refine ok_jn ?_
      refine ok_jn ?_
      refine ok_ite (fun _ => walk 0) (fun c4 => ?_)
      rw [fa_eq, k_m1, e16] at c4
      have hc := e6.resolve_left c4
      refine ok_ix hx ?_
      refine ok_lt fun v49 e49 => ?_
      subst e49
      refine ok_calp (sd_hasName e1 250 C _ hc.1 (hc.2.up (by omega) (Nat.le_refl _))) (fun v50 h50 => ?_)
      exact ok_ite (fun _ => walk 0) (fun _ => walk 1)
    have same : chI s x.toNatClampNeg (ly s x.toNatClampNeg) = 0 → OK (lt (x + 1) fun x2_14 => ag x2_14 s) _ := fun hz => ok_lt fun x14 e14 => by
      subst e14
      exact cont s ⟨e1, e2, e3, e4, e5, e6, by omega, by omega, e9, e10, e11⟩ hI
    have hch := ch_01 s x.toNatClampNeg (ly s x.toNatClampNeg)
    refine ok_ite (fun c3 => ?_) (fun c3 => ?_)
    · rw [fa_eq, k_2, ev12] at c3
      refine ok_ix hi ?_
      refine ok_lt fun v53 ev53 => ?_
      subst ev53
      refine ok_ix ⟨g49.1, by omega⟩ ?_
      refine ok_lt fun v54 ev54 => ?_
      refine ok_ite (fun c4 => ?_) (fun c4 => ?_)
      · rw [fa_eq, ev54] at c4
        refine same ?_
        unfold chI
        rw [if_pos ⟨c3, by unfold ly; omega⟩]
      · rw [fa_eq, ev54] at c4
        refine asked ?_
        unfold chI
        rw [if_neg (fun z => c4 (by have r2 := z.2; unfold ly at r2; omega))]
    · rw [fa_eq, k_2, ev12] at c3
      refine asked ?_
      unfold chI
      rw [if_neg (fun z => c3 z.1)]
