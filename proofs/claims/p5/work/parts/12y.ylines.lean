def PT (σ s : Sto) (d w b : Nat) (k B : Int) (t : Sto) : Prop := BM t ∧ FR LNS [] s t ∧ ∃ l, TEL σ d w b k l ∧ (l.length : Int) ≤ B ∧ APP s t l
abbrev one_ : Nat → Int := fun _ => 1
def STd (σ : Sto) (d : Nat) : Prop := ∀ (x : Int32) (s : Sto), 0 ≤ x.toInt → x.toNatClampNeg < nB σ → BM s → FR LNS [] σ s → (nL s : Int) + wS σ (csW σ) (SUBT σ x.toNatClampNeg) ≤ 1402 → 4 * (40 - oR σ x.toNatClampNeg) + wS σ one_ (SUBT σ x.toNatClampNeg) ≤ d → OK (f_X12_tells_ d x s) (PT σ s d 0 x.toNatClampNeg 0 (wS σ (csW σ) (SUBT σ x.toNatClampNeg) - 2))
def SMd (σ : Sto) (d : Nat) : Prop := ∀ (x k : Int32) (s : Sto), 0 ≤ x.toInt → x.toNatClampNeg < nB σ → BM s → FR LNS [] σ s → (nL s : Int) + wS σ (csW σ) (SMk σ x.toNatClampNeg k.toInt) ≤ 1404 → wS σ (csW σ) (SIn σ x.toNatClampNeg) ≤ wS σ (csW σ) (SMk σ x.toNatClampNeg k.toInt) → 4 * (40 - oR σ x.toNatClampNeg) - 1 + wS σ one_ (SMk σ x.toNatClampNeg k.toInt) ≤ d → OK (f_X12_merges d x k s) (PT σ s d 1 x.toNatClampNeg k.toInt (wS σ (csW σ) (SMk σ x.toNatClampNeg k.toInt) - 4))
def SId (σ : Sto) (d : Nat) : Prop := ∀ (x : Int32) (s : Sto), 0 ≤ x.toInt → x.toNatClampNeg < nB σ → BM s → FR LNS [] σ s → (nL s : Int) + wS σ (csW σ) (SIn σ x.toNatClampNeg) ≤ 1404 → 4 * (40 - oR σ x.toNatClampNeg) - 2 + wS σ one_ (SIn σ x.toNatClampNeg) ≤ d → OK (f_X12_inner d x s) (PT σ s d 2 x.toNatClampNeg 0 (wS σ (csW σ) (SIn σ x.toNatClampNeg) - 4))
def SGd (σ : Sto) (d : Nat) : Prop := ∀ (x y : Int32) (s : Sto), 0 ≤ x.toInt → x.toNatClampNeg < nB σ → BM s → FR LNS [] σ s → ESU σ x.toNatClampNeg y.toInt → (nL s : Int) + wS σ (csW σ) (SGo σ x.toNatClampNeg y.toInt) ≤ 1399 → 4 * (40 - oR σ x.toNatClampNeg) - 3 + wS σ one_ (SGo σ x.toNatClampNeg y.toInt) ≤ d → OK (f_X12_goes d x y s) (PT σ s d 3 x.toNatClampNeg y.toInt (1 + wS σ (csW σ) (SGo σ x.toNatClampNeg y.toInt)))
theorem cs0 {σ : Sto} (h : LNW σ) : ∀ c, c < nB σ → 0 ≤ csW σ c := fun c hc => by have := csW_nn h c hc; omega
theorem on0 {σ : Sto} (h : LNW σ) : ∀ c, c < nB σ → 0 ≤ one_ c := fun c _ => by show (0 : Int) ≤ 1; omega
theorem sd_tells {σ : Sto} (h : LNW σ) {d : Nat} (hM : SMd σ d) : STd σ (d + 1) := by
  intro x s x0 xb hB hF hn hd
  have k_1 : (1 : Int32).toInt = 1 := by decide +kernel
  have cx := clamp_I x0
  have nb := nB_le h.1
  have xi : 0 ≤ x.toInt ∧ x.toInt < 40 := by omega
  have e26 : s.1 26 = σ.1 26 := hF.1 26 (by decide)
  have eL : s.2 1 = σ.2 1 := hF.2 1 (by decide)
  have hk : (σ.1 26 0).toInt = (nB σ : Int) := by omega
  have w1 := w_mk (cs0 h) x.toNatClampNeg (nB σ)
  have w2 := w_mk (on0 h) x.toNatClampNeg (nB σ)
  have w3 := w_in (cs0 h) x.toNatClampNeg (nB σ)
  have w4 := csW_nn h _ xb
  have w5 := w_pt h (cs0 h) xb
  show OK (b_X12_tells_ (f_X12_goes d) (f_X12_inner d) (f_X12_merges d) (f_X12_tells_ d) x s) _
  unfold b_X12_tells_
  refine ok_ix xi ?_
  refine ok_lt fun v1 e1 => ?_
  rw [eL] at e1
  refine ok_jn ?_
  -- the merges, the end
  have main : ∀ (u : Sto) (l0 : List Ln), BM u → FR LNS [] s u → APP s u l0 → (l0.length : Int) ≤ 1 → (σ.2 1 x.toNatClampNeg = 0 ∧ l0 = [] ∨ σ.2 1 x.toNatClampNeg ≠ 0 ∧ l0 = [(1, (x.toNatClampNeg : Int), -1)]) → OK (cals (f_X12_merges d x (u.1 26 0) u) fun s_3 => ix 40 x <| lt (s_3.2 1 x.toNatClampNeg) fun v_4 => if (lg_cmp v_4 (0 : Int64)) = 0 then (some s_3) else (cals (f_X12_closes x (1 : Int32) s_3) fun s_6 => some s_6)) (PT σ s (d + 1) 0 x.toNatClampNeg 0 (wS σ (csW σ) (SUBT σ x.toNatClampNeg) - 2)) := by
    intro u l0 u1 u2 u3 u4 u5
    have fu : FR LNS [] σ u := FR.cal hF u2 rfl rfl
    have hk2 : (u.1 26 0).toInt = (nB σ : Int) := by rw [fu.1 26 (by decide)]; exact hk
    have nu := u3.1
    have := hM x (u.1 26 0) u x0 xb u1 fu (by rw [hk2]; omega) (by rw [hk2]; exact w3) (by rw [hk2]; omega)
    rw [hk2] at this
    refine ok_cals this (fun s3 q => ?_)
    obtain ⟨q1, q2, l, q3, q4, q5⟩ := q
    have n3 := q5.1
    refine ok_ix xi ?_
    refine ok_lt fun v4 e4 => ?_
    have e4' : v4 = σ.2 1 x.toNatClampNeg := by rw [e4, q2.2 1 (by decide), fu.2 1 (by decide)]
    refine ok_ite (fun c2 => ?_) (fun c2 => ?_)
    · rw [lg_cmp_eq, e4'] at c2
      rcases u5 with ⟨z1, z2⟩ | ⟨z1, z2⟩
      · subst z2
        exact ok_ret ⟨q1, FR.cal u2 q2 rfl rfl, l, Or.inl ⟨rfl, Or.inl ⟨z1, q3⟩⟩, by omega, (u3.app q5).to rfl⟩
      · exact absurd c2 z1
    · rw [lg_cmp_eq, e4'] at c2
      rcases u5 with ⟨z1, z2⟩ | ⟨z1, z2⟩
      · exact absurd z1 c2
      · refine ok_cals (s_closes q1 (by omega) (by rw [k_1]; omega) (by omega)) (fun s6 r => ?_)
        obtain ⟨r1, r2, r3⟩ := r
        rw [k_1, ← cx] at r3
        refine ok_ret ⟨r1, FR.cal (FR.cal u2 q2 rfl rfl) r2 rfl rfl, _, Or.inl ⟨rfl, Or.inr ⟨z1, l, q3, rfl⟩⟩, ?_, ((u3.app q5).app r3).to (by rw [z2, List.append_assoc])⟩
        simp only [List.length_append, List.length_cons, List.length_nil]
        omega
  refine ok_ite (fun c1 => ?_) (fun c1 => ?_)
  · rw [lg_cmp_eq, e1] at c1
    exact main s [] hB FR.rf (APP.nil rfl rfl rfl rfl) (by simp) (Or.inl ⟨c1, rfl⟩)
  · rw [lg_cmp_eq, e1] at c1
    refine ok_cals (s_opens (x1 := 1) (x2 := x) hB (by rw [k_1]; omega) (by omega) (by omega)) (fun s8 r => ?_)
    obtain ⟨r1, r2, r3⟩ := r
    rw [k_1, ← cx] at r3
    exact main s8 _ r1 r2 r3 (by simp) (Or.inr ⟨c1, rfl⟩)
theorem sd_goes {σ : Sto} (h : LNW σ) {d : Nat} (hT : STd σ d) : SGd σ (d + 1) := by
  intro x y s x0 xb hB hF hE hn hd
  have k_0 : (0 : Int32).toInt = 0 := by decide +kernel
  have k_6 : (6 : Int32).toInt = 6 := by decide +kernel
  have k_7 : (7 : Int32).toInt = 7 := by decide +kernel
  have k_8 : (8 : Int32).toInt = 8 := by decide +kernel
  have k_m1 : ((-1) : Int32).toInt = -1 := by decide +kernel
  have cx := clamp_I x0
  have nb := nB_le h.1
  have hEl := nE_le h.1
  obtain ⟨e0, a1, a2, a3⟩ := h.2.2.2.1.2.2.1 _ _ xb hE
  have yb := (h.2.2.2.1.1 e0 a1).2.1
  rw [a3] at yb
  have cy := clamp_I yb.1
  have g1 : ∃ e, e < nE s ∧ eF s e = x.toInt ∧ eT s e = y.toInt := by
    unfold nE eF eT
    rw [hF.1 27 (by decide), hF.1 28 (by decide), hF.1 32 (by decide)]
    exact ⟨e0, a1, by rw [← cx]; exact a2, a3⟩
  have w1 := wS_nn (S := SGo σ x.toNatClampNeg y.toInt) (cs0 h)
  show OK (b_X12_goes (f_X12_goes d) (f_X12_inner d) (f_X12_merges d) (f_X12_tells_ d) x y s) _
  unfold b_X12_goes
  refine ok_calp (s_edgeOf hB g1) (fun v1 q => ?_)
  obtain ⟨q1, q2, q3, q4⟩ := q
  have cv := clamp_I q1
  have q2' : v1.toNatClampNeg < nE σ := by unfold nE at q2 ⊢; rw [hF.1 32 (by decide)] at q2; exact q2
  have q3' : eF σ v1.toNatClampNeg = x.toNatClampNeg := by unfold eF at q3 ⊢; rw [hF.1 27 (by decide)] at q3; omega
  have q4' : eT σ v1.toNatClampNeg = y.toInt := by unfold eT at q4 ⊢; rw [hF.1 28 (by decide)] at q4; exact q4
  have ee := e39 h.1 v1.toNatClampNeg
  have iv : 0 ≤ v1.toInt ∧ v1.toInt < 120 := by omega
  -- a line of one
  have ln : ∀ k : Int32, 0 ≤ k.toInt ∧ k.toInt ≤ 11 → TEL σ (d + 1) 3 x.toNatClampNeg y.toInt [(k.toInt, y.toInt, -1)] → OK (cals (f_X12_line k y ((-1) : Int32) s) fun s_9 => some s_9) (PT σ s (d + 1) 3 x.toNatClampNeg y.toInt (1 + wS σ (csW σ) (SGo σ x.toNatClampNeg y.toInt))) := fun k hk ht => by
    refine ok_cals (s_line hB hk (by omega) (by rw [k_m1]; omega) (by omega)) (fun s9 r => ?_)
    obtain ⟨r1, r2, r3⟩ := r
    rw [k_m1] at r3
    exact ok_ret ⟨r1, r2, _, ht, by simp only [List.length_cons, List.length_nil]; omega, r3⟩
  refine ok_ix iv ?_
  rw [hF.1 30 (by decide)]
  refine ok_lt fun v2 e2 => ?_
  refine ok_ite (fun c2 => ?_) (fun c2 => ?_)
  · rw [fa_eq, k_0, e2] at c2
    refine ok_ix iv ?_
    rw [hF.1 31 (by decide)]
    refine ok_lt fun v4 e4 => ?_
    refine ok_ite (fun c3 => ?_) (fun c3 => ?_)
    · rw [fa_eq, k_0, e4] at c3
      have fw : FW σ v1.toNatClampNeg := ⟨⟨q2', c2⟩, c3⟩
      have eb : eB σ v1.toNatClampNeg = y.toNatClampNeg := by unfold eT at q4'; omega
      have ea : eA σ v1.toNatClampNeg = x.toNatClampNeg := by unfold eF at q3'; omega
      refine ok_calp (s_isMerge hB (by omega)) (fun v6 r => ?_)
      rw [MGp.cg hF, ← eb] at r
      refine ok_ite (fun c4 => ?_) (fun c4 => ?_)
      · rw [fa_eq, k_0] at c4
        have nm : ¬ MGp σ (eB σ v1.toNatClampNeg) := by
          rcases r with z | z
          · exact z.2
          · omega
        have w2 := w_go (cs0 h) fw ea (t := y.toInt) (by omega) nm
        have w3 := w_go (on0 h) fw ea (t := y.toInt) (by omega) nm
        have o := h.lt (h.ch fw nm)
        rw [ea] at o
        rw [eb] at w2 w3 o
        have := hT y s yb.1 (by omega) hB hF (by omega) (by omega)
        refine ok_cals this (fun s8 q => ?_)
        obtain ⟨p1, p2, l, p3, p4, p5⟩ := q
        refine ok_ret ⟨p1, p2, l, Or.inr (Or.inr (Or.inr ⟨rfl, v1.toNatClampNeg, q2', q3', q4', Or.inr (Or.inr (Or.inr ⟨fw, nm, ?_⟩))⟩)), by omega, p5⟩
        rw [eb]; exact p3
      · rw [fa_eq, k_0] at c4
        have mm : MGp σ (eB σ v1.toNatClampNeg) := by
          rcases r with z | z
          · exact absurd z.1 c4
          · exact z.2
        exact ln 6 (by omega) (Or.inr (Or.inr (Or.inr ⟨rfl, v1.toNatClampNeg, q2', q3', q4', Or.inr (Or.inr (Or.inl ⟨fw, mm, by rw [k_6]⟩))⟩)))
    · rw [fa_eq, k_0, e4] at c3
      exact ln 7 (by omega) (Or.inr (Or.inr (Or.inr ⟨rfl, v1.toNatClampNeg, q2', q3', q4', Or.inr (Or.inl ⟨c2, c3, by rw [k_7]⟩)⟩)))
  · rw [fa_eq, k_0, e2] at c2
    exact ln 8 (by omega) (Or.inr (Or.inr (Or.inr ⟨rfl, v1.toNatClampNeg, q2', q3', q4', Or.inl ⟨c2, by rw [k_8]⟩⟩)))
