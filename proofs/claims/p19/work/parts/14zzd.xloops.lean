/-- the blocks of a loop -/
def CBK (V : EVt) (J : Nat → Bool) (h src i : Nat) : Prop := ∀ P : Nat → Prop, P h → P src → (∀ e, KG V J e → P (gB V e) → gB V e ≠ h → P (gA V e)) → P i
def CTS (V : EVt) (J : Nat → Bool) (src h i : Nat) : Prop := ∀ P : Nat → Prop, P src → (∀ e, KG V J e → P (gB V e) → gA V e ≠ h → src ≠ h → P (gA V e)) → P i
theorem CBK.st {V : EVt} {J : Nat → Bool} {h src e : Nat} (c : CBK V J h src (gB V e)) (k : KG V J e) (n : gB V e ≠ h) : CBK V J h src (gA V e) := fun P p1 p2 p3 => p3 e k (c P p1 p2 p3) n
theorem CTS.st {V : EVt} {J : Nat → Bool} {h src e : Nat} (c : CTS V J src h (gB V e)) (k : KG V J e) (n : gA V e ≠ h) (m : src ≠ h) : CTS V J src h (gA V e) := fun P p1 p2 => p2 e k (c P p1 p2) n m
theorem CBK.ct {V : EVt} {J : Nat → Bool} {h src i : Nat} : CBK V J h src i ↔ (i = h ∨ CTS V J src h i) := by
  constructor
  · intro c
    refine c (fun x => x = h ∨ CTS V J src h x) (Or.inl rfl) (Or.inr (fun P p1 _ => p1)) (fun e k hp hn => ?_)
    by_cases q : gA V e = h
    · exact Or.inl q
    · have z := hp.resolve_left hn
      refine Or.inr (z.st k q (fun w => hn ?_))
      have y := z (fun x => x = src) rfl (fun e _ _ _ m => absurd w m)
      rw [y, w]
  · rintro (z | z)
    · rw [z]; exact fun P p1 _ _ => p1
    · exact (z (fun x => CBK V J h src x ∧ (src ≠ h → x ≠ h)) ⟨fun P _ p2 _ => p2, fun w => w⟩ (fun e k hp hn hm => ⟨hp.1.st k (hp.2 hm), fun _ => hn⟩)).1
theorem t_comingBack {V : EVt} {J : Nat → Bool} {σ : Sto} {x1 x2 : Int32} {h src : Nat} (hB : BX σ) (hbef : ∀ b, b < nX σ → ∀ i, bL (σ.2 5 b) i = true ↔ PDG V J i b) (hr : ∀ e, e < V.1 → gA V e < nX σ ∧ gB V e < nX σ) (h0 : 0 ≤ x1.toInt) (h1 : x1.toNatClampNeg = h) (hh : h < nX σ) (g0 : 0 ≤ x2.toInt) (g1 : x2.toNatClampNeg = src) (hs : src < nX σ) : PC (f_X8_comingBack x1 x2 σ) (fun v => ∀ i, bL v i = true ↔ CBK V J h src i) := by
  have k_0 : (0 : Int32).toInt = 0 := by decide +kernel
  have g20 := gX_20 hB 0
  have hN : (nX σ : Int) = (σ.1 20 0).toInt := Int.toNat_of_nonneg g20.1
  have c1 := clamp_I h0
  have c2 := clamp_I g0
  unfold f_X8_comingBack
  refine pc_lt fun F0 e0 => ?_
  have b0 : ∀ i, bL F0 i = true ↔ (i = h ∨ i = src) := fun i => by
    rw [e0, bL_or, bL_one (v := x1) h0 (by omega), bL_one (v := x2) g0 (by omega), Bool.or_eq_true, decide_eq_true_eq, decide_eq_true_eq, h1, g1]
  refine pc_itr3 (fun F K r => 0 ≤ r.toInt ∧ r.toInt ≤ (nX σ : Int) + 1 ∧ (bL F h = true ∧ bL F src = true) ∧ (∀ i, bL F i = true → i < nX σ) ∧ (∀ i, bL F i = true → CBK V J h src i) ∧ (K = F → ∀ e, KG V J e → bL F (gB V e) = true → gB V e ≠ h → bL F (gA V e) = true) ∧ (K = F ∨ r.toInt + 1 ≤ (fb_ct (bL F) (nX σ) : Int))) ?_ ⟨by omega, by omega, ⟨(b0 h).mpr (Or.inl rfl), (b0 src).mpr (Or.inr rfl)⟩, fun i hi => ?_, fun i hi => ?_, fun z => ?_, Or.inr ?_⟩
  · intro ag F K r I ih
    obtain ⟨r0, r1, ⟨fh, fs⟩, fn, fl, fc, fm⟩ := I
    have done : K = F → ∀ i, bL F i = true ↔ CBK V J h src i := fun z i => ⟨fl i, fun c => c (fun x => bL F x = true) fh fs (fun e k hp hn => fc z e k hp hn)⟩
    have ctn := fb_ct_le (bL F) (nX σ)
    refine pc_ite (fun c => ?_) (fun c => ?_)
    · rw [fa_lt] at c
      rcases fm with z | z
      · exact pc_ret (done z)
      · exfalso; omega
    rw [fa_lt] at c
    refine pc_ite (fun c3 => ?_) (fun c3 => ?_)
    · rw [lg_cmp_eq] at c3
      exact pc_ret (done c3)
    rw [lg_cmp_eq] at c3
    have fm := fm.resolve_left c3
    refine pc_itr2 (fun G b => 0 ≤ b.toInt ∧ (∀ i, bL F i = true → bL G i = true) ∧ (∀ i, bL G i = true → i < nX σ) ∧ (∀ i, bL G i = true → CBK V J h src i) ∧ (G = F → ∀ e, KG V J e → (gB V e : Int) < b.toInt → bL F (gB V e) = true → gB V e ≠ h → bL F (gA V e) = true)) ?_ ⟨by omega, fun _ z => z, fn, fl, fun _ e _ z => by omega⟩
    intro ag2 G b I2 ih2
    obtain ⟨a0, ga, gn, gl, gc⟩ := I2
    have cb := clamp_I a0
    refine pc_ite (fun c4 => ?_) (fun c4 => ?_)
    · rw [fa_le] at c4
      refine pc_lt fun x7 e7 => ?_
      have v7 : x7.toInt = r.toInt + 1 := by rw [e7]; exact i1 (by omega)
      refine ih G F x7 ⟨by omega, by omega, ⟨ga h fh, ga src fs⟩, gn, gl, fun z e k hp hn => ?_, ?_⟩
      · rw [← z] at hp ⊢
        exact gc z.symm e k (by have := (hr e k.1).2; omega) hp hn
      · by_cases q : F = G
        · exact Or.inl q
        · right
          have : fb_ct (bL F) (nX σ) + 1 ≤ fb_ct (bL G) (nX σ) := by
            refine fb_ct_lt (fun i _ z => ga i z) (Classical.byContradiction fun z => q (bL_ext fun i => ?_))
            cases y : bL G i with
            | false =>
              cases w : bL F i with
              | false => rfl
              | true => rw [ga i w] at y; exact absurd y (by decide)
            | true =>
              cases w : bL F i with
              | true => rfl
              | false => exact absurd ⟨i, gn i y, y, w⟩ z
          omega
    · rw [fa_le] at c4
      have ex : (b + 1).toInt = b.toInt + 1 := i1 (by omega)
      refine pc_jnI1 (fun G2 => (∀ i, bL F i = true → bL G2 i = true) ∧ (∀ i, bL G2 i = true → i < nX σ) ∧ (∀ i, bL G2 i = true → CBK V J h src i) ∧ (G2 = F → ∀ e, KG V J e → (gB V e : Int) < b.toInt + 1 → bL F (gB V e) = true → gB V e ≠ h → bL F (gA V e) = true)) (fun G2 Jn => ?_) (fun k hk => ?_)
      · refine pc_lt fun x9 e9 => ?_
        subst e9
        exact ih2 G2 (b + 1) ⟨by omega, Jn.1, Jn.2.1, Jn.2.2.1, by rw [ex]; exact Jn.2.2.2⟩
      · refine pc_ite (fun c5 => ?_) (fun c5 => ?_)
        · rw [fa_eq] at c5
          refine hk G ⟨ga, gn, gl, fun z e kg hl hp hn => ?_⟩
          by_cases q : gB V e = b.toNatClampNeg
          · exact absurd (show gB V e = h by omega) hn
          · exact gc z e kg (by omega) hp hn
        · rw [fa_eq] at c5
          refine pc_calp (t_isInB (x := G) (i := b) a0 (by omega)) (fun v11 h11 => ?_)
          refine pc_ite (fun c6 => ?_) (fun c6 => ?_)
          · refine hk G ⟨ga, gn, gl, fun z e kg hl hp hn => ?_⟩
            by_cases q : gB V e = b.toNatClampNeg
            · rw [q, ← z] at hp
              exact absurd hp (h11.mp c6)
            · exact gc z e kg (by omega) hp hn
          · have inb : bL G b.toNatClampNeg = true := Classical.byContradiction fun z => c6 (h11.mpr z)
            have bn := gn _ inb
            have bh : b.toNatClampNeg ≠ h := by omega
            refine pc_ix (fun _ => ?_)
            refine pc_lt fun v13 e13 => ?_
            refine pc_lt fun x14 e14 => ?_
            have bo : ∀ i, bL x14 i = true ↔ (bL G i = true ∨ PDG V J i b.toNatClampNeg) := fun i => by
              rw [e14, bL_or, Bool.or_eq_true, e13, hbef _ bn i]
            refine hk x14 ⟨fun i z => (bo i).mpr (Or.inl (ga i z)), fun i z => ?_, fun i z => ?_, fun z e kg hl hp hn => ?_⟩
            · rcases (bo i).mp z with y | ⟨e, e1, e2, e3⟩
              · exact gn i y
              · rw [← e3]; exact (hr e e1.1).1
            · rcases (bo i).mp z with y | ⟨e, e1, e2, e3⟩
              · exact gl i y
              · rw [← e3]
                exact CBK.st (by rw [e2]; exact gl _ inb) e1 (by rw [e2]; exact bh)
            · by_cases q : gB V e = b.toNatClampNeg
              · rw [← z]
                exact (bo _).mpr (Or.inr ⟨e, kg, q, rfl⟩)
              · have gf : G = F := bL_ext fun i => by
                  cases y : bL F i with
                  | true => exact ga i y
                  | false =>
                    cases w : bL G i with
                    | false => rfl
                    | true =>
                      have := (bo i).mpr (Or.inl w)
                      rw [z, y] at this
                      exact absurd this (by decide)
                exact gc gf e kg (by omega) hp hn
  · rcases (b0 i).mp hi with z | z
    · rw [z]; exact hh
    · rw [z]; exact hs
  · rcases (b0 i).mp hi with z | z
    · rw [z]; exact fun P p1 _ _ => p1
    · rw [z]; exact fun P _ p2 _ => p2
  · have := (b0 h).mpr (Or.inl rfl)
    rw [← z, bL_0] at this
    exact absurd this (by decide)
  · have : 0 < fb_ct (bL F0) (nX σ) := fb_ct_pos.mpr ⟨h, hh, (b0 h).mpr (Or.inl rfl)⟩
    omega
/-- the class's loops -/
def LPX (V : EVt) (J bk : Nat → Bool) (n : Nat) (s : Sto) : Prop := (∀ i, bL (s.2 2 0) i = true ↔ ∃ e, KG V J e ∧ bk e = true ∧ gB V e = i) ∧ ∀ b, b < n → ∀ i, bL (s.2 3 b) i = true ↔ ∃ e, KG V J e ∧ bk e = true ∧ gB V e = b ∧ CBK V J b (gA V e) i
theorem t_findLoops {V : EVt} {J bk : Nat → Bool} {σ : Sto} (hB : BX σ) (hV : EVx σ = V) (hJ : Jx σ = J) (hk : ∀ e, bk e = decide ((σ.1 38 e).toInt ≠ 0)) (hbef : ∀ b, b < nX σ → ∀ i, bL (σ.2 5 b) i = true ↔ PDG V J i b) (hr : ∀ e, e < V.1 → gA V e < nX σ ∧ gB V e < nX σ) : PC (f_X8_findLoops σ) (fun s => FR [] [2, 3] σ s ∧ LPX V J bk (nX σ) s) := by
  have k_0 : (0 : Int32).toInt = 0 := by decide +kernel
  have g20 := gX_20 hB 0
  have g27 := gX_27 hB 0
  have hN : (nX σ : Int) = (σ.1 20 0).toInt := Int.toNat_of_nonneg g20.1
  have hV1 : (V.1 : Int) = (σ.1 27 0).toInt := by rw [← hV]; exact Int.toNat_of_nonneg g27.1
  have fi : ∀ {s : Sto}, FR [] [2, 3] σ s → ∀ k, s.1 k = σ.1 k := fun f k => f.1 k List.not_mem_nil
  unfold f_X8_findLoops
  refine pc_lt fun s1 e1 => ?_
  refine pc_itr2 (fun x s => 0 ≤ x.toInt ∧ FR [] [2, 3] σ s ∧ s.2 2 0 = 0 ∧ ∀ b : Nat, (b : Int) < x.toInt → s.2 3 b = 0) ?_ ⟨by omega, by rw [e1]; exact FR.stl FR.rf (by decide), by rw [e1]; exact stl_s _ _ _ _, fun b hb => by omega⟩
  intro ag x s I ih
  obtain ⟨x0, f, z2, z3⟩ := I
  have cx := clamp_I x0
  refine pc_ite (fun c => ?_) (fun c => ?_)
  · rw [fa_le, fi f 20] at c
    refine pc_itr2 (fun x t => 0 ≤ x.toInt ∧ FR [] [2, 3] σ t ∧ (∀ i, bL (t.2 2 0) i = true ↔ ∃ e : Nat, (e : Int) < x.toInt ∧ KG V J e ∧ bk e = true ∧ gB V e = i) ∧ ∀ b, b < nX σ → ∀ i, bL (t.2 3 b) i = true ↔ ∃ e : Nat, (e : Int) < x.toInt ∧ KG V J e ∧ bk e = true ∧ gB V e = b ∧ CBK V J b (gA V e) i) ?_ ⟨by omega, f, fun i => ?_, fun b hb i => ?_⟩
    · intro ag2 x t I2 ih2
      obtain ⟨x0, f2, p2, p3⟩ := I2
      have cx := clamp_I x0
      refine pc_ite (fun c2 => ?_) (fun c2 => ?_)
      · rw [fa_le, fi f2 27] at c2
        refine pc_ret ⟨f2, fun i => ?_, fun b hb i => ?_⟩
        · rw [p2 i]
          exact ⟨fun ⟨e, _, y⟩ => ⟨e, y⟩, fun ⟨e, y⟩ => ⟨e, by have := y.1.1; omega, y⟩⟩
        · rw [p3 b hb i]
          exact ⟨fun ⟨e, _, y⟩ => ⟨e, y⟩, fun ⟨e, y⟩ => ⟨e, by have := y.1.1; omega, y⟩⟩
      · rw [fa_le, fi f2 27] at c2
        have ex : (x + 1).toInt = x.toInt + 1 := i1 (by omega)
        have heE : x.toNatClampNeg < V.1 := by omega
        have he := hr _ heE
        refine pc_ix (fun _ => ?_)
        rw [fi f2 38]
        refine pc_lt fun v6 e6 => ?_
        refine pc_jnI1 (fun u => FR [] [2, 3] σ u ∧ (∀ i, bL (u.2 2 0) i = true ↔ ∃ e : Nat, (e : Int) < x.toInt + 1 ∧ KG V J e ∧ bk e = true ∧ gB V e = i) ∧ ∀ b, b < nX σ → ∀ i, bL (u.2 3 b) i = true ↔ ∃ e : Nat, (e : Int) < x.toInt + 1 ∧ KG V J e ∧ bk e = true ∧ gB V e = b ∧ CBK V J b (gA V e) i) (fun u Jn => ?_) (fun k hk2 => ?_)
        · refine pc_lt fun x8 e8 => ?_
          subst e8
          exact ih2 (x + 1) u ⟨by omega, Jn.1, by rw [ex]; exact Jn.2.1, by rw [ex]; exact Jn.2.2⟩
        · have skip : ¬ (KG V J x.toNatClampNeg ∧ bk x.toNatClampNeg = true) → PC (k t) (fun s => FR [] [2, 3] σ s ∧ LPX V J bk (nX σ) s) := fun hno => by
            refine hk2 t ⟨f2, fun i => ?_, fun b hb i => ?_⟩
            · rw [p2 i]
              constructor
              · rintro ⟨e, y1, y⟩
                exact ⟨e, by omega, y⟩
              · rintro ⟨e, y1, y2, y3, y4⟩
                have q : e ≠ x.toNatClampNeg := fun z => hno (z ▸ ⟨y2, y3⟩)
                exact ⟨e, by omega, y2, y3, y4⟩
            · rw [p3 b hb i]
              constructor
              · rintro ⟨e, y1, y⟩
                exact ⟨e, by omega, y⟩
              · rintro ⟨e, y1, y2, y3, y4⟩
                have q : e ≠ x.toNatClampNeg := fun z => hno (z ▸ ⟨y2, y3⟩)
                exact ⟨e, by omega, y2, y3, y4⟩
          refine pc_ite (fun c3 => ?_) (fun c3 => ?_)
          · rw [fa_eq, k_0, e6] at c3
            refine skip (fun z => ?_)
            have := z.2
            rw [hk, decide_eq_true_eq] at this
            exact this c3
          · rw [fa_eq, k_0, e6] at c3
            refine pc_ix (fun _ => ?_)
            rw [fi f2 37]
            refine pc_lt fun v10 e10 => ?_
            refine pc_ite (fun c4 => ?_) (fun c4 => ?_)
            · rw [fa_eq, k_0, e10] at c4
              have kg : KG V J x.toNatClampNeg := ⟨heE, by rw [← hJ]; exact Jx_f.mpr c4⟩
              have bx : bk x.toNatClampNeg = true := by rw [hk]; exact decide_eq_true c3
              have g30 := gX_30 hB x.toNatClampNeg
              have g29 := gX_29 hB x.toNatClampNeg
              refine pc_ix (fun _ => ?_)
              rw [fi f2 30]
              refine pc_lt fun v12 e12 => ?_
              have c12 : v12.toNatClampNeg = gB V x.toNatClampNeg := by rw [e12, ← hV]; rfl
              refine pc_lt fun s13 e13 => ?_
              have f13 : FR [] [2, 3] σ s13 := by rw [e13]; exact FR.stl f2 (by decide)
              have B13 : BX s13 := fun k i => by rw [fi f13 k]; exact hB k i
              have n13 : nX s13 = nX σ := by unfold nX; rw [fi f13 20]
              have l5 : s13.2 5 = σ.2 5 := f13.2 5 (by decide)
              refine pc_ix (fun _ => ?_)
              rw [c12]
              refine pc_lt fun v14 e14 => ?_
              refine pc_ix (fun _ => ?_)
              rw [fi f13 29]
              refine pc_lt fun v15 e15 => ?_
              have c15 : v15.toNatClampNeg = gA V x.toNatClampNeg := by rw [e15, ← hV]; rfl
              refine pc_calp (t_comingBack (V := V) (J := J) (h := gB V x.toNatClampNeg) (src := gA V x.toNatClampNeg) B13 (by rw [n13, l5]; exact hbef) (by rw [n13]; exact hr) (by rw [e12]; omega) c12 (by rw [n13]; exact he.2) (by rw [e15]; omega) c15 (by rw [n13]; exact he.1)) (fun v16 h16 => ?_)
              refine pc_ix (fun _ => ?_)
              refine pc_lt fun s17 e17 => ?_
              have e14' : v14 = t.2 3 (gB V x.toNatClampNeg) := by rw [e14, e13, stl_o (by decide)]
              refine hk2 s17 ⟨by rw [e17]; exact FR.stl f13 (by decide), fun i => ?_, fun b hb i => ?_⟩
              · rw [e17, stl_o (by decide), e13, stl_s, bL_set (v := v12) (by rw [e12]; omega) (by rw [e12]; omega), Bool.or_eq_true, decide_eq_true_eq, c12, p2 i]
                constructor
                · rintro (⟨e, y1, y⟩ | y)
                  · exact ⟨e, by omega, y⟩
                  · exact ⟨x.toNatClampNeg, by omega, kg, bx, y.symm⟩
                · rintro ⟨e, y1, y2, y3, y4⟩
                  by_cases q : e = x.toNatClampNeg
                  · right; rw [← y4, q]
                  · exact Or.inl ⟨e, by omega, y2, y3, y4⟩
              · rw [e17, stl_if]
                by_cases w : b = gB V x.toNatClampNeg
                · rw [if_pos w, bL_or, Bool.or_eq_true, h16 i, e14', p3 _ he.2 i]
                  constructor
                  · rintro (⟨e, y1, y2, y3, y4, y5⟩ | y)
                    · exact ⟨e, by omega, y2, y3, by rw [y4, w], by rw [w]; exact y5⟩
                    · exact ⟨x.toNatClampNeg, by omega, kg, bx, w.symm, by rw [w]; exact y⟩
                  · rintro ⟨e, y1, y2, y3, y4, y5⟩
                    rw [w] at y5 y4
                    by_cases q : e = x.toNatClampNeg
                    · right
                      rw [q] at y5
                      exact y5
                    · exact Or.inl ⟨e, by omega, y2, y3, y4, y5⟩
                · rw [if_neg w, e13, stl_o (by decide), p3 b hb i]
                  constructor
                  · rintro ⟨e, y1, y⟩
                    exact ⟨e, by omega, y⟩
                  · rintro ⟨e, y1, y2, y3, y4, y5⟩
                    have q : e ≠ x.toNatClampNeg := fun z => w (by rw [← y4, z])
                    exact ⟨e, by omega, y2, y3, y4, y5⟩
            · rw [fa_eq, k_0, e10] at c4
              refine skip (fun z => c4 ?_)
              have := z.1.2
              rw [← hJ] at this
              exact Jx_f.mp this
    · rw [z2, bL_0]
      exact ⟨fun z => absurd z (by decide), fun ⟨e, e1, _⟩ => by omega⟩
    · rw [z3 b (by omega), bL_0]
      exact ⟨fun z => absurd z (by decide), fun ⟨e, e1, _⟩ => by omega⟩
  · rw [fa_le, fi f 20] at c
    have ex : (x + 1).toInt = x.toInt + 1 := i1 (by omega)
    refine pc_ix (fun _ => ?_)
    refine pc_lt fun s18 e18 => ?_
    refine pc_lt fun x19 e19 => ?_
    subst e19
    refine ih (x + 1) s18 ⟨by omega, by rw [e18]; exact FR.stl f (by decide), by rw [e18, stl_o (by decide)]; exact z2, fun b hb => ?_⟩
    rw [e18, stl_if]
    by_cases q : b = x.toNatClampNeg
    · rw [if_pos q]
    · rw [if_neg q]; exact z3 b (by omega)
