/-- into each block but the first an edge goes forward -/
theorem fw_in {σ : Sto} (hG : GD σ) (hF : EFI σ) {b : Nat} (hb : b < nB σ) (b0 : b ≠ 0) : ∃ e, FW σ e ∧ eB σ e = b := by
  refine Classical.byContradiction fun hno => ?_
  have back : ∀ e, KP σ e → eB σ e = b → ¬ RW σ b (eA σ e) := fun e he q => by
    have ne : (σ.1 31 e).toInt ≠ 0 := fun z => hno ⟨e, ⟨he, z⟩, q⟩
    have d := ((hG.2.2.1 e he.1).mp ne).2
    have := (hG.2.1 (eA σ e) (hF e he.1).1 (eB σ e) (hF e he.1).2).mp d
    rw [q] at this
    exact this.resolve_left b0
  have := hG.1 b hb (fun x => x ≠ b ∧ RW σ b x) ⟨fun q => b0 q.symm, RW.zero⟩ (fun e he hP => by
    have ne : eB σ e ≠ b := fun q => back e he q hP.2
    exact ⟨ne, hP.2.st he ne⟩)
  exact this.1 rfl
/-- who stands above the end of an edge forward, but for itself, stands above its begin -/
theorem dom_st {σ : Sto} (hG : GD σ) (hF : EFI σ) {d e : Nat} (he : KP σ e) (hd : d < nB σ) (h : bL (σ.2 0 (eB σ e)) d = true) (hne : d ≠ eB σ e) : bL (σ.2 0 (eA σ e)) d = true := by
  have f := hF e he.1
  rw [hG.2.1 _ f.1 _ hd]
  rcases (hG.2.1 _ f.2 _ hd).mp h with w | w
  · exact Or.inl w
  · exact Or.inr (fun z => w (z.st he (fun q => hne q.symm)))
theorem dlt0 {σ : Sto} (hB : BM σ) (hG : GD σ) (hF : EFI σ) (hO : ORD σ) {d : Nat} (hd : d < nB σ) : ∀ (n : Nat) (b : Nat), b < nB σ → (σ.1 33 b).toInt ≤ n → bL (σ.2 0 b) d = true → d ≠ b → (σ.1 33 d).toInt < (σ.1 33 b).toInt := by
  intro n
  induction n with
  | zero =>
    intro b hb hn h hne
    by_cases b0 : b = 0
    · rw [b0] at h hne; exact absurd (dom_0 hG.2.1 (by omega) hd h) hne
    · obtain ⟨e, e1, e2⟩ := fw_in hG hF hb b0
      have o := hO.2.1 e e1
      have g := gM_33 hB (eA σ e)
      rw [e2] at o; omega
  | succ n ih =>
    intro b hb hn h hne
    by_cases b0 : b = 0
    · rw [b0] at h hne; exact absurd (dom_0 hG.2.1 (by omega) hd h) hne
    · obtain ⟨e, e1, e2⟩ := fw_in hG hF hb b0
      have o := hO.2.1 e e1
      rw [e2] at o
      have w := dom_st hG hF e1.1 hd (by rw [e2]; exact h) (by rw [e2]; exact hne)
      by_cases q : d = eA σ e
      · rw [q]; exact o
      · have := ih (eA σ e) (hF e e1.1.1).1 (by omega) w q
        omega
theorem dlt {σ : Sto} (hB : BM σ) (hG : GD σ) (hF : EFI σ) (hO : ORD σ) {d b : Nat} (hd : d < nB σ) (hb : b < nB σ) (h : bL (σ.2 0 b) d = true) (hne : d ≠ b) : (σ.1 33 d).toInt < (σ.1 33 b).toInt := by
  have g := gM_33 hB b
  exact dlt0 hB hG hF hO hd 39 b hb (by omega) h hne
theorem dom_as {σ : Sto} (hB : BM σ) (hG : GD σ) (hF : EFI σ) (hO : ORD σ) {a b : Nat} (ha : a < nB σ) (hb : b < nB σ) (h1 : bL (σ.2 0 b) a = true) (h2 : bL (σ.2 0 a) b = true) : a = b := by
  refine Classical.byContradiction fun q => ?_
  have a1 := dlt hB hG hF hO ha hb h1 q
  have a2 := dlt hB hG hF hO hb ha h2 (fun z => q z.symm)
  omega
/-- t hangs below b -/
def CHs (σ : Sto) (b t : Nat) : Prop := t < nB σ ∧ t ≠ 0 ∧ (σ.1 34 t).toInt = b
theorem CHs.up {σ : Sto} (hA : ABV σ) {b t : Nat} (h : CHs σ b t) : b < nB σ ∧ b ≠ t ∧ bL (σ.2 0 t) b = true ∧ ∀ d, d < nB σ → d ≠ t → bL (σ.2 0 t) d = true → bL (σ.2 0 b) d = true := by
  obtain ⟨a, a1, a2, a3, a4, a5⟩ := hA.2 t h.1 h.2.1
  have : a = b := by have := h.2.2; omega
  subst this
  exact ⟨a1, a3, a4, a5⟩
theorem ch_lt {σ : Sto} (hB : BM σ) (hG : GD σ) (hF : EFI σ) (hO : ORD σ) (hA : ABV σ) {b t : Nat} (h : CHs σ b t) : (σ.1 33 b).toInt < (σ.1 33 t).toInt := by
  obtain ⟨a1, a2, a3, _⟩ := h.up hA
  exact dlt hB hG hF hO a1 h.1 a3 a2
theorem ch_dj {σ : Sto} (hB : BM σ) (hG : GD σ) (hF : EFI σ) (hO : ORD σ) (hA : ABV σ) {b t u c : Nat} (h1 : CHs σ b t) (h2 : CHs σ b u) (hc : c < nB σ) (w1 : bL (σ.2 0 c) t = true) (w2 : bL (σ.2 0 c) u = true) : t = u := by
  have key : ∀ t u : Nat, CHs σ b t → CHs σ b u → bL (σ.2 0 u) t = true → t = u := fun t u h1 h2 w => by
    refine Classical.byContradiction fun q => ?_
    obtain ⟨a1, a2, a3, a4⟩ := h2.up hA
    obtain ⟨b1, b2, b3, b4⟩ := h1.up hA
    have := a4 t h1.1 q w
    exact b2 (dom_as hB hG hF hO b1 h1.1 b3 this)
  rcases dom_tot hG.1 hG.2.1 h1.1 h2.1 hc w1 w2 with w | w
  · exact key t u h1 h2 w
  · exact (key u t h2 h1 w).symm
/-- a block where more than one way comes together -/
def MGp (σ : Sto) (t : Nat) : Prop := (∃ e, KP σ e ∧ eB σ e = t ∧ (σ.1 29 e).toInt ≠ 0) ∨ ∃ e d, e ≠ d ∧ FW σ e ∧ FW σ d ∧ eB σ e = t ∧ eB σ d = t
theorem ab1 {σ : Sto} (hB : BM σ) (hG : GD σ) (hF : EFI σ) (hO : ORD σ) (hA : ABV σ) {e : Nat} (he : FW σ e) (hm : ¬ MGp σ (eB σ e)) : CHs σ (eA σ e) (eB σ e) := by
  have f := hF e he.1.1
  have o := hO.2.1 e he
  have ne : eA σ e ≠ eB σ e := fun q => by rw [q] at o; omega
  have t0 : eB σ e ≠ 0 := fun q => by
    have d0 := (hG.2.1 (eA σ e) f.1 0 (by omega)).mpr (Or.inl rfl)
    have := (hG.2.2.1 e he.1.1).mpr ⟨he.1, by rw [q]; exact d0⟩
    exact this he.2
  have sole : ∀ d, KP σ d → eB σ d = eB σ e → d = e ∨ ¬ RW σ (eB σ e) (eA σ d) := fun d hd q => by
    by_cases z : d = e
    · exact Or.inl z
    · right
      have nb : (σ.1 31 d).toInt ≠ 0 := fun w => hm (Or.inr ⟨d, e, z, ⟨hd, w⟩, he, q, rfl⟩)
      have w := ((hG.2.2.1 d hd.1).mp nb).2
      have := (hG.2.1 (eA σ d) (hF d hd.1).1 (eB σ d) (hF d hd.1).2).mp w
      rw [q] at this
      exact this.resolve_left t0
  have pd : bL (σ.2 0 (eB σ e)) (eA σ e) = true := by
    rw [hG.2.1 _ f.2 _ f.1]
    by_cases p0 : eA σ e = 0
    · exact Or.inl p0
    · refine Or.inr (fun w => ?_)
      have := w (fun x => x ≠ eA σ e ∧ x ≠ eB σ e ∧ RW σ (eB σ e) x) ⟨fun q => p0 q.symm, fun q => t0 q.symm, RW.zero⟩ (fun d hd hP hne => by
        have nt : eB σ d ≠ eB σ e := fun q => by
          rcases sole d hd q with z | z
          · rw [z] at hP; exact hP.1 rfl
          · exact z hP.2.2
        exact ⟨hne, nt, hP.2.2.st hd nt⟩)
      exact this.2.1 rfl
  obtain ⟨a, a1, a2, a3, a4, a5⟩ := hA.2 (eB σ e) f.2 t0
  have p2 := a5 _ f.1 ne pd
  have p3 := dom_st hG hF he.1 a1 a4 a3
  have := dom_as hB hG hF hO f.1 a1 p2 p3
  exact ⟨f.2, t0, by rw [this]; exact a2⟩
def HasF (σ : Sto) (t : Nat) (k : Int) : Prop := ∃ g : Nat, (g : Int) < k ∧ FW σ g ∧ eB σ g = t
theorem s_isMerge {σ : Sto} {x1 : Int32} (hB : BM σ) (hx : 0 ≤ x1.toInt ∧ x1.toInt ≤ 39) : OK (f_X12_isMerge x1 σ) (fun v => v.toInt = 0 ∧ ¬ MGp σ x1.toNatClampNeg ∨ v.toInt = 1 ∧ MGp σ x1.toNatClampNeg) := by
  have k_0 : (0 : Int32).toInt = 0 := by decide +kernel
  have k_1 : (1 : Int32).toInt = 1 := by decide +kernel
  have c1 := clamp_I hx.1
  have g32 := gM_32 hB 0
  have hE := nE_le hB
  unfold f_X12_isMerge
  refine ok_itr2 (fun n c e => n = (121 - e.toInt).toNat ∧ 0 ≤ e.toInt ∧ e.toInt ≤ (σ.1 32 0).toInt ∧ 0 ≤ c.toInt ∧ c.toInt ≤ e.toInt ∧ (∀ d : Nat, (d : Int) < e.toInt → KP σ d → eB σ d = x1.toNatClampNeg → (σ.1 29 d).toInt = 0) ∧ ((c.toInt = 0 ∧ ∀ d : Nat, (d : Int) < e.toInt → FW σ d → eB σ d ≠ x1.toNatClampNeg) ∨ (c.toInt = 1 ∧ ∃ g : Nat, ∀ d : Nat, (d : Int) < e.toInt → FW σ d → eB σ d = x1.toNatClampNeg → d = g) ∨ (2 ≤ c.toInt ∧ MGp σ x1.toNatClampNeg)) ∧ (1 ≤ c.toInt → HasF σ x1.toNatClampNeg e.toInt)) ?_ (n := (121 - (0 : Int32).toInt).toNat) ⟨rfl, by omega, by omega, by omega, by omega, fun d hd => by omega, Or.inl ⟨k_0, fun d hd => by omega⟩, fun z => by omega⟩ (by rw [k_0]; decide)
  intro ag n c e I ih
  obtain ⟨hn, e0, eE, c0, ce, h29, hc, hw⟩ := I
  have cl := clamp_I e0
  refine ok_ite (fun c2 => ?_) (fun c2 => ?_)
  · rw [fa_le] at c2
    have all : ∀ d, KP σ d → (d : Int) < e.toInt := fun d hd => by have := hd.1; omega
    refine ok_ite (fun c3 => ?_) (fun c3 => ?_)
    · rw [fa_le, k_1] at c3
      refine ok_ret (Or.inl ⟨k_0, fun hM => ?_⟩)
      rcases hM with ⟨d, d1, d2, d3⟩ | ⟨d, g, d1, d2, d3, d4, d5⟩
      · exact d3 (h29 d (all d d1) d1 d2)
      · rcases hc with ⟨_, z⟩ | ⟨_, u, z⟩ | ⟨z, _⟩
        · exact z d (all d d2.1) d2 d4
        · exact d1 ((z d (all d d2.1) d2 d4).trans (z g (all g d3.1) d3 d5).symm)
        · omega
    · rw [fa_le, k_1] at c3
      refine ok_ret (Or.inr ⟨k_1, ?_⟩)
      rcases hc with ⟨z, _⟩ | ⟨z, _⟩ | ⟨_, z⟩
      · omega
      · omega
      · exact z
  · rw [fa_le] at c2
    have ie : 0 ≤ e.toInt ∧ e.toInt < 120 := by omega
    have ee := e39 hB e.toNatClampNeg
    have en : e.toNatClampNeg < nE σ := by omega
    -- the next one, when e doesn't count
    have skip : ¬ (FW σ e.toNatClampNeg ∧ eB σ e.toNatClampNeg = x1.toNatClampNeg) → (KP σ e.toNatClampNeg → eB σ e.toNatClampNeg = x1.toNatClampNeg → (σ.1 29 e.toNatClampNeg).toInt = 0) → ∀ c2 : Int32, c2 = c → OK (lt (e + 1) fun x3_6 => ag c2 x3_6) _ := fun hno hk c2 ec2 => ok_lt fun x6 e6 => by
      subst ec2
      have ex : x6.toInt = e.toInt + 1 := by rw [e6]; exact i1 (by omega)
      have lift : ∀ d : Nat, (d : Int) < x6.toInt → FW σ d → eB σ d = x1.toNatClampNeg → (d : Int) < e.toInt := fun d hd w1 w2 => by
        by_cases q : d = e.toNatClampNeg
        · rw [q] at w1 w2; exact absurd ⟨w1, w2⟩ hno
        · omega
      refine ih (121 - x6.toInt).toNat c2 x6 (by omega) ⟨rfl, by omega, by omega, c0, by omega, fun d hd w1 w2 => ?_, ?_, fun z => ?_⟩
      · by_cases q : d = e.toNatClampNeg
        · rw [q] at w1 w2 ⊢; exact hk w1 w2
        · exact h29 d (by omega) w1 w2
      · rcases hc with ⟨z, w⟩ | ⟨z, u, w⟩ | z
        · exact Or.inl ⟨z, fun d hd w1 w2 => w d (lift d hd w1 w2) w1 w2⟩
        · exact Or.inr (Or.inl ⟨z, u, fun d hd w1 w2 => w d (lift d hd w1 w2) w1 w2⟩)
        · exact Or.inr (Or.inr z)
      · obtain ⟨g, g1, g2, g3⟩ := hw z
        exact ⟨g, by omega, g2, g3⟩
    have g30 := gM_30 hB e.toNatClampNeg
    refine ok_ix ie ?_
    refine ok_lt fun v4 e4 => ?_
    refine ok_jn ?_
    refine ok_ite (fun c3 => ?_) (fun c3 => ?_)
    · rw [fa_eq, e4] at c3
      have he : eB σ e.toNatClampNeg = x1.toNatClampNeg := by
        have := ee.2.2.2; omega
      refine ok_ix ie ?_
      refine ok_lt fun v8 e8 => ?_
      refine ok_ite (fun c4 => ?_) (fun c4 => ?_)
      · rw [fa_eq, k_0, e8] at c4
        refine ok_ix ie ?_
        refine ok_lt fun v10 e10 => ?_
        have kp : KP σ e.toNatClampNeg := ⟨en, c4⟩
        refine ok_ite (fun c5 => ?_) (fun c5 => ?_)
        · rw [fa_eq, k_0, e10] at c5
          refine ok_ix ie ?_
          refine ok_lt fun v12 e12 => ?_
          have two : ∀ t : Int32, (t.toInt = 1 ∧ v12.toInt = 0 ∨ t.toInt = 0 ∧ v12.toInt ≠ 0) → OK (lt (c + t) fun x2_14 => lt (e + 1) fun x3_6 => ag x2_14 x3_6) (fun v => v.toInt = 0 ∧ ¬ MGp σ x1.toNatClampNeg ∨ v.toInt = 1 ∧ MGp σ x1.toNatClampNeg) := fun t ht => by
            refine ok_lt fun x14 e14 => ?_
            have ext : x14.toInt = c.toInt + t.toInt := by rw [e14]; exact fb_addI (by omega) (by omega)
            rcases ht with ⟨t1, z⟩ | ⟨t0, z⟩
            · rw [e12] at z
              have fw : FW σ e.toNatClampNeg := ⟨kp, z⟩
              refine ok_lt fun x6 e6 => ?_
              have ex : x6.toInt = e.toInt + 1 := by rw [e6]; exact i1 (by omega)
              have was : ∀ d : Nat, (d : Int) < x6.toInt → d ≠ e.toNatClampNeg → (d : Int) < e.toInt := fun d hd q => by omega
              refine ih (121 - x6.toInt).toNat x14 x6 (by omega) ⟨rfl, by omega, by omega, by omega, by omega, fun d hd w1 w2 => ?_, ?_, fun _ => ⟨e.toNatClampNeg, by omega, fw, he⟩⟩
              · by_cases q : d = e.toNatClampNeg
                · rw [q]; exact c5
                · exact h29 d (was d hd q) w1 w2
              · right
                by_cases q1 : c.toInt = 0
                · left
                  refine ⟨by omega, e.toNatClampNeg, fun d hd w1 w2 => Classical.byContradiction fun q => ?_⟩
                  rcases hc with ⟨_, w⟩ | ⟨w, _⟩ | ⟨w, _⟩
                  · exact w d (was d hd q) w1 w2
                  · omega
                  · omega
                · right
                  obtain ⟨g, g1, g2, g3⟩ := hw (by omega)
                  exact ⟨by omega, Or.inr ⟨g, e.toNatClampNeg, by omega, g2, fw, g3, he⟩⟩
            · rw [e12] at z
              have : x14 = c := by
                apply Int32.toInt_inj.mp; omega
              exact skip (fun q => z q.1.2) (fun _ _ => c5) x14 this
          refine ok_jn ?_
          refine ok_ite (fun c6 => ?_) (fun c6 => ?_)
          · rw [fa_eq, k_0] at c6; exact two 1 (Or.inl ⟨k_1, c6⟩)
          · rw [fa_eq, k_0] at c6; exact two 0 (Or.inr ⟨k_0, c6⟩)
        · rw [fa_eq, k_0, e10] at c5
          exact ok_ret (Or.inr ⟨k_1, Or.inl ⟨e.toNatClampNeg, kp, he, c5⟩⟩)
      · rw [fa_eq, k_0, e8] at c4
        exact skip (fun z => c4 z.1.1.2) (fun z _ => absurd z.2 c4) c rfl
    · rw [fa_eq, e4] at c3
      have no : eB σ e.toNatClampNeg ≠ x1.toNatClampNeg := fun z => c3 (by have := ee.2.2.2; omega)
      exact skip (fun z => no z.2) (fun _ z => absurd z no) c rfl
