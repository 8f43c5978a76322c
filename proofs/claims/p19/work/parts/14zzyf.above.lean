section
variable {V : EVt} {J : Nat → Bool} {n b d e : Nat}
theorem DG.zr (h : DG V J b 0) : b = 0 := h.resolve_right (fun z => z RG.zero)
theorem RG.no_ (h : d ≠ 0) : ¬ RG V J d d := fun z => z (fun x => x ≠ d) (fun q => h q.symm) (fun _ _ _ q => q) rfl
theorem DG.self_ : DG V J b b := by
  by_cases c : b = 0
  · exact Or.inl c
  · exact Or.inr (RG.no_ c)
/-- dominators of one stand in a row -/
theorem DG.lin (hb : AG V J b) : ∀ d e, DG V J d b → DG V J e b → DG V J d e ∨ DG V J e d := hb (fun b => ∀ d e, DG V J d b → DG V J e b → DG V J d e ∨ DG V J e d) (fun d e hd he => by
  rw [hd.zr, he.zr]; exact Or.inl (Or.inl rfl)) (fun i hk ih d e hd he => by
  by_cases c : d = gB V i
  · rw [c]; exact Or.inr he
  by_cases c2 : e = gB V i
  · rw [c2]; exact Or.inl hd
  exact ih d e (hd.imp_right (fun q z => q (z.st hk (fun y => c y.symm)))) (he.imp_right (fun q z => q (z.st hk (fun y => c2 y.symm)))))
theorem DG.anti (hd : AG V J d) (h1 : DG V J d e) (h2 : DG V J e d) : d = e := by
  refine Classical.byContradiction fun c => ?_
  have d0 : d ≠ 0 := fun z => by rw [z] at h2 c; exact c h2.zr.symm
  have e0 : e ≠ 0 := fun z => by rw [z] at h1 c; exact c h1.zr
  have g1 := h1.resolve_left d0
  have g2 := h2.resolve_left e0
  have key := hd (fun x => (∀ P : Nat → Prop, P 0 → (∀ i, KG V J i → P (gA V i) → gB V i ≠ d → gB V i ≠ e → P (gB V i)) → P x) ∨ RG V J d e ∨ RG V J e d) (Or.inl fun P p1 _ => p1) (fun i hk ih => by
    rcases ih with h | h
    · by_cases c1 : gB V i = d
      · have r : RG V J e (gA V i) := fun P p1 p2 => h P p1 (fun i h1 h2 _ h4 => p2 i h1 h2 h4)
        have r2 := r.st hk (fun z => c (c1.symm.trans z))
        rw [c1] at r2
        exact Or.inr (Or.inr r2)
      by_cases c2 : gB V i = e
      · have r : RG V J d (gA V i) := fun P p1 p2 => h P p1 (fun i h1 h2 h3 _ => p2 i h1 h2 h3)
        have r2 := r.st hk (fun z => c (z.symm.trans c2))
        rw [c2] at r2
        exact Or.inr (Or.inl r2)
      exact Or.inl (fun P p1 p2 => p2 i hk (h P p1 p2) c1 c2)
    · exact Or.inr h)
  rcases key with h | h | h
  · exact RG.no_ d0 (fun P p1 p2 => h P p1 (fun i h1 h2 h3 _ => p2 i h1 h2 h3))
  · exact g1 h
  · exact g2 h
theorem DG.trn (h1 : DG V J d e) (h2 : DG V J e b) : DG V J d b := by
  by_cases c : d = 0
  · exact Or.inl c
  have g1 := h1.resolve_left c
  have e0 : e ≠ 0 := fun z => by rw [z] at g1; exact g1 RG.zero
  have g2 := h2.resolve_left e0
  refine Or.inr (fun z => ?_)
  have key := z (fun x => RG V J d x ∧ (RG V J d e ∨ RG V J e x)) ⟨RG.zero, Or.inr RG.zero⟩ (fun i hk ih hd => by
    obtain ⟨i1, i2⟩ := ih
    have r := i1.st hk hd
    refine ⟨r, ?_⟩
    rcases i2 with q | q
    · exact Or.inl q
    · by_cases c2 : gB V i = e
      · rw [c2] at r; exact Or.inl r
      · exact Or.inr (q.st hk c2))
  rcases key.2 with q | q
  · exact g1 q
  · exact g2 q
/-- the one above -/
def IMD (V : EVt) (J : Nat → Bool) (n b d : Nat) : Prop := d < n ∧ d ≠ b ∧ DG V J d b ∧ ∀ x, x < n → x ≠ b → DG V J x b → DG V J x d
def NDM (V : EVt) (J : Nat → Bool) (n b : Nat) : Prop := ∀ x, x < n → x ≠ b → ¬ DG V J x b
theorem IMD.uq (hA : ∀ b, b < n → AG V J b) {c : Nat} (h : IMD V J n b d) (g : IMD V J n b c) : d = c := DG.anti (hA d h.1) (g.2.2.2 d h.1 h.2.1 h.2.2.1) (h.2.2.2 c g.1 g.2.1 g.2.2.1)
/-- among those below m -/
def IDK (V : EVt) (J : Nat → Bool) (n b d m : Nat) : Prop := d < n ∧ d ≠ b ∧ DG V J d b ∧ ∀ x, x < m → x ≠ b → DG V J x b → DG V J x d
theorem IMD.ex (hb : AG V J b) : ∀ m, m ≤ n → NDM V J m b ∨ ∃ d, IDK V J n b d m
  | 0, _ => Or.inl (fun x hx => absurd hx (Nat.not_lt_zero _))
  | m + 1, hm => by
    by_cases c : m ≠ b ∧ DG V J m b
    · rcases IMD.ex hb m (by omega) with h | ⟨d, h1, h2, h3, h4⟩
      · exact Or.inr ⟨m, by omega, c.1, c.2, fun x hx hxb hd => by
          by_cases q : x = m
          · rw [q]; exact DG.self_
          · exact absurd hd (h x (by omega) hxb)⟩
      · rcases DG.lin hb d m h3 c.2 with q | q
        · exact Or.inr ⟨m, by omega, c.1, c.2, fun x hx hxb hd => by
            by_cases y : x = m
            · rw [y]; exact DG.self_
            · exact (h4 x (by omega) hxb hd).trn q⟩
        · exact Or.inr ⟨d, h1, h2, h3, fun x hx hxb hd => by
            by_cases y : x = m
            · rw [y]; exact q
            · exact h4 x (by omega) hxb hd⟩
    · rcases IMD.ex hb m (by omega) with h | ⟨d, h1, h2, h3, h4⟩
      · exact Or.inl (fun x hx hxb hd => by
          by_cases y : x = m
          · rw [y] at hxb hd; exact c ⟨hxb, hd⟩
          · exact h x (by omega) hxb hd)
      · exact Or.inr ⟨d, h1, h2, h3, fun x hx hxb hd => by
          by_cases y : x = m
          · rw [y] at hxb hd; exact absurd ⟨hxb, hd⟩ c
          · exact h4 x (by omega) hxb hd⟩
/-- how many dominate -/
def DSx (n : Nat) (V : EVt) (J : Nat → Bool) (x : Int64) (b : Nat) : Prop := ∀ i, bL x i = true ↔ (i < n ∧ DG V J i b)
theorem DSx.one {x y : Int64} (hA : ∀ b, b < n → AG V J b) (hn : n ≤ 40) (hb : b < n) (hx : DSx n V J x d) (hy : DSx n V J y b) (h : IMD V J n b d) : fb_ct (bL x) 64 + 1 = fb_ct (bL y) 64 := by
  have nb : bL x b = false := bf (fun z => h.2.1 (DG.anti (hA d h.1) h.2.2.1 ((hx b).mp z).2))
  rw [← dmk_ct (S := bL x) (b := b) (n := 64) (by omega) nb]
  refine fb_ct_cong (fun k hk => ?_)
  unfold dmk
  by_cases c : k = b
  · rw [c, decide_eq_true rfl, Bool.or_true]
    exact ((hy b).mpr ⟨hb, DG.self_⟩).symm
  · rw [decide_eq_false c, Bool.or_false]
    cases w : bL y k with
    | true =>
      have q := (hy k).mp w
      exact (hx k).mpr ⟨q.1, h.2.2.2 k q.1 c q.2⟩
    | false =>
      refine bf (fun z => ?_)
      have q := (hx k).mp z
      rw [(hy k).mpr ⟨q.1, q.2.trn h.2.2.1⟩] at w
      exact absurd w (by decide)
theorem DSx.two {x y : Int64} (hA : ∀ b, b < n → AG V J b) (hn : n ≤ 40) (hb : b < n) (hd : d < n) (hx : DSx n V J x d) (hy : DSx n V J y b) (h1 : d ≠ b) (h2 : DG V J d b) (h3 : fb_ct (bL x) 64 + 1 = fb_ct (bL y) 64) : IMD V J n b d := by
  refine ⟨hd, h1, h2, fun z hz hzb hdz => Classical.byContradiction fun c => ?_⟩
  have nb : bL x b = false := bf (fun z => h1 (DG.anti (hA d hd) h2 ((hx b).mp z).2))
  have e := dmk_ct (S := bL x) (b := b) (n := 64) (by omega) nb
  have lt : fb_ct (dmk b (bL x)) 64 + 1 ≤ fb_ct (bL y) 64 := fb_ct_lt (fun k _ q => by
    unfold dmk at q
    rw [Bool.or_eq_true, decide_eq_true_eq] at q
    rcases q with q | q
    · have w := (hx k).mp q
      exact (hy k).mpr ⟨w.1, w.2.trn h2⟩
    · rw [q]; exact (hy b).mpr ⟨hb, DG.self_⟩) ⟨z, by omega, (hy z).mpr ⟨hz, hdz⟩, by
    unfold dmk
    rw [decide_eq_false hzb, Bool.or_false]
    exact bf (fun w => c ((hx z).mp w).2)⟩
  omega
/-- what is laid of the one above -/
def ABP (V : EVt) (J : Nat → Bool) (n b : Nat) (v : Int32) : Prop := (v.toInt = -1 ∧ NDM V J n b) ∨ ∃ d : Nat, v.toInt = (d : Int) ∧ IMD V J n b d
theorem ABP.uq {v w : Int32} (hA : ∀ b, b < n → AG V J b) (h : ABP V J n b v) (g : ABP V J n b w) : v = w := by
  refine Int32.toInt_inj.mp ?_
  rcases h with ⟨h1, h2⟩ | ⟨d, h1, h2⟩
  · rcases g with ⟨g1, g2⟩ | ⟨c, g1, g2⟩
    · rw [h1, g1]
    · exact absurd g2.2.2.1 (h2 c g2.1 g2.2.1)
  · rcases g with ⟨g1, g2⟩ | ⟨c, g1, g2⟩
    · exact absurd h2.2.2.1 (g2 d h2.1 h2.2.1)
    · rw [h1, g1, h2.uq hA g2]
end
/-- the reference lays it -/
theorem m_above_ {σ : Sto} {V : EVt} {J : Nat → Bool} {n : Nat} (hn : n ≤ 40) (h26 : (σ.1 26 0).toInt = (n : Int)) (hA : ∀ b, b < n → AG V J b) (hD : ∀ b, b < n → ∀ d, d < n → (bL (σ.2 0 b) d = true ↔ DG V J d b)) : PC (f_X12_laysAbove σ) (fun s => FR [34] [] σ s ∧ ∀ b, b < n → ABP V J n b (s.1 34 b)) := by
  have k_0 : (0 : Int32).toInt = 0 := by decide +kernel
  have k_m1 : ((-1) : Int32).toInt = -1 := by decide +kernel
  unfold f_X12_laysAbove
  refine pc_itr2 (fun x s => 0 ≤ x.toInt ∧ x.toInt ≤ (n : Int) ∧ FR [34] [] σ s ∧ ∀ b, b < x.toNatClampNeg → ABP V J n b (s.1 34 b)) ?_ (by exact ⟨by omega, by omega, FR.rf, fun b hb => absurd hb (Nat.not_lt_zero _)⟩)
  intro a2 x s I ih
  obtain ⟨x0, xn, f, I4⟩ := I
  have cx := clamp_I x0
  refine pc_ite (fun c => ?_) (fun c => ?_)
  · rw [fa_le, f.1 26 (by decide), h26] at c
    exact pc_ret ⟨f, fun b hb => I4 b (by omega)⟩
  · rw [fa_le, f.1 26 (by decide), h26] at c
    have xl : x.toNatClampNeg < n := by omega
    have ex : (x + 1).toInt = x.toInt + 1 := i1 (by omega)
    have cx1 : (x + 1).toNatClampNeg = x.toNatClampNeg + 1 := by have := clamp_I (x := x + 1) (by omega); omega
    have Ab := hA _ xl
    refine pc_ix (fun _ => ?_)
    refine pc_lt fun s3 e3 => ?_
    have f3 : FR [34] [] σ s3 := by rw [e3]; exact FR.st f (by decide)
    have o3 : ∀ b, b < x.toNatClampNeg → ABP V J n b (s3.1 34 b) := fun b hb => by rw [e3, sti_j (by omega)]; exact I4 b hb
    refine pc_itr2 (fun y t => 0 ≤ y.toInt ∧ y.toInt ≤ (n : Int) ∧ FR [34] [] σ t ∧ (∀ b, b < x.toNatClampNeg → ABP V J n b (t.1 34 b)) ∧ (((t.1 34 x.toNatClampNeg).toInt = -1 ∧ NDM V J y.toNatClampNeg x.toNatClampNeg) ∨ ∃ d : Nat, (t.1 34 x.toNatClampNeg).toInt = (d : Int) ∧ IDK V J n x.toNatClampNeg d y.toNatClampNeg)) ?_ (by exact ⟨by omega, by omega, f3, o3, Or.inl ⟨by rw [e3, sti_s]; exact k_m1, fun z hz => absurd hz (Nat.not_lt_zero _)⟩⟩)
    intro a19 y t I2 ih2
    obtain ⟨y0, yn, ft, t4, t5⟩ := I2
    have cy := clamp_I y0
    refine pc_ite (fun c2 => ?_) (fun c2 => ?_)
    · rw [fa_le, ft.1 26 (by decide), h26] at c2
      have ye : y.toNatClampNeg = n := by omega
      rw [ye] at t5
      refine pc_lt fun x6 e6 => ?_
      subst e6
      refine ih (x + 1) t ⟨by omega, by omega, ft, fun b hb => ?_⟩
      rw [cx1] at hb
      by_cases q : b = x.toNatClampNeg
      · rw [q]; exact t5
      · exact t4 b (by omega)
    · rw [fa_le, ft.1 26 (by decide), h26] at c2
      have yl : y.toNatClampNeg < n := by omega
      have ey : (y + 1).toInt = y.toInt + 1 := i1 (by omega)
      have cy1 : (y + 1).toNatClampNeg = y.toNatClampNeg + 1 := by have := clamp_I (x := y + 1) (by omega); omega
      have l0 : t.2 = σ.2 := funext fun l => ft.2 l List.not_mem_nil
      refine pc_jnI1 (fun u => FR [34] [] σ u ∧ (∀ b, b < x.toNatClampNeg → ABP V J n b (u.1 34 b)) ∧ (((u.1 34 x.toNatClampNeg).toInt = -1 ∧ NDM V J (y.toNatClampNeg + 1) x.toNatClampNeg) ∨ ∃ d : Nat, (u.1 34 x.toNatClampNeg).toInt = (d : Int) ∧ IDK V J n x.toNatClampNeg d (y.toNatClampNeg + 1))) (fun u Ju => ?_) (fun k80 hk => ?_)
      · refine pc_lt fun x8 e8 => ?_
        subst e8
        exact ih2 (y + 1) u ⟨by omega, by omega, Ju.1, Ju.2.1, by rw [cy1]; exact Ju.2.2⟩
      · have skip : ¬ (y.toNatClampNeg ≠ x.toNatClampNeg ∧ DG V J y.toNatClampNeg x.toNatClampNeg) → PC (k80 t) (fun s => FR [34] [] σ s ∧ ∀ b, b < n → ABP V J n b (s.1 34 b)) := fun z => hk t ⟨ft, t4, by
          rcases t5 with ⟨q1, q2⟩ | ⟨d, q1, q2, q3, q4, q5⟩
          · refine Or.inl ⟨q1, fun w hw hwb hd => ?_⟩
            by_cases r : w = y.toNatClampNeg
            · rw [r] at hwb hd; exact z ⟨hwb, hd⟩
            · exact q2 w (by omega) hwb hd
          · refine Or.inr ⟨d, q1, q2, q3, q4, fun w hw hwb hd => ?_⟩
            by_cases r : w = y.toNatClampNeg
            · rw [r] at hwb hd; exact absurd ⟨hwb, hd⟩ z
            · exact q5 w (by omega) hwb hd⟩
        refine pc_ite (fun c3 => skip (fun z => z.1 ?_)) (fun c3 => ?_)
        · rw [c3]
        have nyx : y.toNatClampNeg ≠ x.toNatClampNeg := fun z => c3 (by rw [fa_eq]; omega)
        refine pc_ix (fun _ => ?_)
        refine pc_lt fun v10 e10 => ?_
        refine pc_calp (t_hasM (x := v10) (v := y) y0 (by omega)) (fun v11 h11 => ?_)
        rw [e10, l0] at h11
        have hd := hD _ xl _ yl
        refine pc_ite (fun c4 => skip (fun z => ?_)) (fun c4 => ?_)
        · have w := hd.mpr z.2
          rw [h11.mp c4] at w
          exact absurd w (by decide)
        have dy : DG V J y.toNatClampNeg x.toNatClampNeg := hd.mp (by
          cases w : bL (σ.2 0 x.toNatClampNeg) y.toNatClampNeg with
          | true => rfl
          | false => exact absurd (h11.mpr w) c4)
        -- taken
        have take : (∀ w, w < y.toNatClampNeg → w ≠ x.toNatClampNeg → DG V J w x.toNatClampNeg → DG V J w y.toNatClampNeg) → PC (ix 40 x <| lt (sti t 34 x.toNatClampNeg y) fun s_15 => k80 s_15) (fun s => FR [34] [] σ s ∧ ∀ b, b < n → ABP V J n b (s.1 34 b)) := fun z => by
          refine pc_ix (fun _ => ?_)
          refine pc_lt fun s15 e15 => ?_
          refine hk s15 ⟨by rw [e15]; exact FR.st ft (by decide), fun b hb => by rw [e15, sti_j (by omega)]; exact t4 b hb, Or.inr ⟨y.toNatClampNeg, by rw [e15, sti_s]; exact cy.symm, yl, nyx, dy, fun w hw hwb hd => ?_⟩⟩
          by_cases r : w = y.toNatClampNeg
          · rw [r]; exact DG.self_
          · exact z w (by omega) hwb hd
        refine pc_ix (fun _ => ?_)
        refine pc_lt fun v13 e13 => ?_
        rw [← e13] at t5
        refine pc_jnI0 (∀ w, w < y.toNatClampNeg → w ≠ x.toNatClampNeg → DG V J w x.toNatClampNeg → DG V J w y.toNatClampNeg) (fun z => take z) (fun k73 hk73 => ?_)
        refine pc_ite (fun c5 => hk73 ?_) (fun c5 => ?_)
        · rw [fa_eq, k_m1] at c5
          rcases t5 with ⟨q1, q2⟩ | ⟨d, q1, _⟩
          · exact fun w hw hwb hd => absurd hd (q2 w hw hwb)
          · omega
        · rw [fa_eq, k_m1] at c5
          rcases t5 with ⟨q1, q2⟩ | ⟨d, q1, q2, q3, q4, q5⟩
          · exact absurd q1 c5
          · refine pc_ix (fun _ => ?_)
            refine pc_lt fun v17 e17 => ?_
            refine pc_ix (fun _ => ?_)
            refine pc_lt fun v18 e18 => ?_
            rw [← e13] at e18
            subst e18
            have cd : v18.toNatClampNeg = d := by
              have := clamp_I (x := v18) (by omega)
              omega
            refine pc_calp (t_hasM (x := v17) (v := v18) (by omega) (by omega)) (fun v19 h19 => ?_)
            rw [e17, l0, cd] at h19
            have hdd := hD _ yl _ q2
            refine pc_ite (fun c6 => ?_) (fun c6 => hk73 ?_)
            · have nd : ¬ DG V J d y.toNatClampNeg := fun z => by
                have w := hdd.mpr z
                rw [h19.mp c6] at w
                exact absurd w (by decide)
              have yd := (DG.lin Ab d y.toNatClampNeg q4 dy).resolve_left nd
              refine hk t ⟨ft, t4, Or.inr ⟨d, by rw [← e13]; exact q1, q2, q3, q4, fun w hw hwb hd => ?_⟩⟩
              by_cases r : w = y.toNatClampNeg
              · rw [r]; exact yd
              · exact q5 w (by omega) hwb hd
            · have dd : DG V J d y.toNatClampNeg := hdd.mp (by
                cases w : bL (σ.2 0 y.toNatClampNeg) d with
                | true => rfl
                | false => exact absurd (h19.mpr w) c6)
              exact fun w hw hwb hd => (q5 w hw hwb hd).trn dd
/-- the class finds it -/
theorem t_above {σ : Sto} {V : EVt} {J : Nat → Bool} {n : Nat} (hn : n ≤ 40) (h20 : (σ.1 20 0).toInt = (n : Int)) (hA : ∀ b, b < n → AG V J b) (hD : ∀ b, b < n → DSx n V J (σ.2 1 b) b) : PC (f_X8_findAbove σ) (fun s => FR [41] [] σ s ∧ ∀ b, b < n → ABP V J n b (s.1 41 b)) := by
  have k_0 : (0 : Int32).toInt = 0 := by decide +kernel
  have k_m1 : ((-1) : Int32).toInt = -1 := by decide +kernel
  unfold f_X8_findAbove
  refine pc_itr2 (fun x s => 0 ≤ x.toInt ∧ x.toInt ≤ (n : Int) ∧ FR [41] [] σ s ∧ ∀ b, b < x.toNatClampNeg → ABP V J n b (s.1 41 b)) ?_ (by exact ⟨by omega, by omega, FR.rf, fun b hb => absurd hb (Nat.not_lt_zero _)⟩)
  intro a2 x s I ih
  obtain ⟨x0, xn, f, I4⟩ := I
  have cx := clamp_I x0
  refine pc_ite (fun c => ?_) (fun c => ?_)
  · rw [fa_le, f.1 20 (by decide), h20] at c
    exact pc_ret ⟨f, fun b hb => I4 b (by omega)⟩
  · rw [fa_le, f.1 20 (by decide), h20] at c
    have xl : x.toNatClampNeg < n := by omega
    have ex : (x + 1).toInt = x.toInt + 1 := i1 (by omega)
    have cx1 : (x + 1).toNatClampNeg = x.toNatClampNeg + 1 := by have := clamp_I (x := x + 1) (by omega); omega
    have l0 : s.2 = σ.2 := funext fun l => f.2 l List.not_mem_nil
    refine pc_ix (fun _ => ?_)
    refine pc_lt fun s3 e3 => ?_
    have f3 : FR [41] [] σ s3 := by rw [e3]; exact FR.st f (by decide)
    have o3 : ∀ b, b < x.toNatClampNeg → ABP V J n b (s3.1 41 b) := fun b hb => by rw [e3, sti_j (by omega)]; exact I4 b hb
    have l3 : s3.2 = σ.2 := funext fun l => f3.2 l List.not_mem_nil
    refine pc_ix (fun _ => ?_)
    refine pc_lt fun v4 e4 => ?_
    rw [l3] at e4
    refine pc_calp (pc_ok (s_J13_bitCount_95d88 (x1 := v4))) (fun v5 h5 => ?_)
    rw [e4] at h5
    have m1 : 1 ≤ fb_ct (bL (σ.2 1 x.toNatClampNeg)) 64 := fb_ct_pos.mpr ⟨x.toNatClampNeg, by omega, (hD _ xl _).mpr ⟨xl, DG.self_⟩⟩
    refine pc_lt fun v6 e6 => ?_
    have w6 : v6.toInt + 1 = (fb_ct (bL (σ.2 1 x.toNatClampNeg)) 64 : Int) := by rw [e6, i32_m1 (by omega)]; omega
    refine pc_itr2 (fun y t => 0 ≤ y.toInt ∧ y.toInt ≤ (n : Int) ∧ FR [41] [] σ t ∧ (∀ b, b < x.toNatClampNeg → ABP V J n b (t.1 41 b)) ∧ (((t.1 41 x.toNatClampNeg).toInt = -1 ∧ ∀ d, d < y.toNatClampNeg → d ≠ x.toNatClampNeg → DG V J d x.toNatClampNeg → fb_ct (bL (σ.2 1 d)) 64 + 1 ≠ fb_ct (bL (σ.2 1 x.toNatClampNeg)) 64) ∨ ∃ d : Nat, (t.1 41 x.toNatClampNeg).toInt = (d : Int) ∧ IMD V J n x.toNatClampNeg d)) ?_ (by exact ⟨by omega, by omega, f3, o3, Or.inl ⟨by rw [e3, sti_s]; exact k_m1, fun z hz => absurd hz (Nat.not_lt_zero _)⟩⟩)
    intro a34 y t I2 ih2
    obtain ⟨y0, yn, ft, t4, t5⟩ := I2
    have cy := clamp_I y0
    refine pc_ite (fun c2 => ?_) (fun c2 => ?_)
    · rw [fa_le, ft.1 20 (by decide), h20] at c2
      have ye : y.toNatClampNeg = n := by omega
      rw [ye] at t5
      refine pc_lt fun x9 e9 => ?_
      subst e9
      refine ih (x + 1) t ⟨by omega, by omega, ft, fun b hb => ?_⟩
      rw [cx1] at hb
      by_cases q : b = x.toNatClampNeg
      · rw [q]
        rcases t5 with ⟨q1, q2⟩ | q1
        · rcases IMD.ex (n := n) (hA _ xl) n (Nat.le_refl _) with w | ⟨d, w⟩
          · exact Or.inl ⟨q1, w⟩
          · have z := DSx.one hA hn xl (hD d w.1) (hD _ xl) w
            exact absurd z (q2 d w.1 w.2.1 w.2.2.1)
        · exact Or.inr q1
      · exact t4 b (by omega)
    · rw [fa_le, ft.1 20 (by decide), h20] at c2
      have yl : y.toNatClampNeg < n := by omega
      have ey : (y + 1).toInt = y.toInt + 1 := i1 (by omega)
      have cy1 : (y + 1).toNatClampNeg = y.toNatClampNeg + 1 := by have := clamp_I (x := y + 1) (by omega); omega
      have lt_ : t.2 = σ.2 := funext fun l => ft.2 l List.not_mem_nil
      refine pc_jnI1 (fun u => FR [41] [] σ u ∧ (∀ b, b < x.toNatClampNeg → ABP V J n b (u.1 41 b)) ∧ (((u.1 41 x.toNatClampNeg).toInt = -1 ∧ ∀ d, d < y.toNatClampNeg + 1 → d ≠ x.toNatClampNeg → DG V J d x.toNatClampNeg → fb_ct (bL (σ.2 1 d)) 64 + 1 ≠ fb_ct (bL (σ.2 1 x.toNatClampNeg)) 64) ∨ ∃ d : Nat, (u.1 41 x.toNatClampNeg).toInt = (d : Int) ∧ IMD V J n x.toNatClampNeg d)) (fun u Ju => ?_) (fun k83 hk => ?_)
      · refine pc_lt fun x11 e11 => ?_
        subst e11
        exact ih2 (y + 1) u ⟨by omega, by omega, Ju.1, Ju.2.1, by rw [cy1]; exact Ju.2.2⟩
      · have skip : (y.toNatClampNeg ≠ x.toNatClampNeg → DG V J y.toNatClampNeg x.toNatClampNeg → fb_ct (bL (σ.2 1 y.toNatClampNeg)) 64 + 1 ≠ fb_ct (bL (σ.2 1 x.toNatClampNeg)) 64) → PC (k83 t) (fun s => FR [41] [] σ s ∧ ∀ b, b < n → ABP V J n b (s.1 41 b)) := fun z => hk t ⟨ft, t4, by
          rcases t5 with ⟨q1, q2⟩ | q1
          · refine Or.inl ⟨q1, fun w hw hwb hd => ?_⟩
            by_cases r : w = y.toNatClampNeg
            · rw [r] at hwb hd ⊢; exact z hwb hd
            · exact q2 w (by omega) hwb hd
          · exact Or.inr q1⟩
        refine pc_ite (fun c3 => skip (fun z => absurd (by rw [c3]) z)) (fun c3 => ?_)
        have nyx : y.toNatClampNeg ≠ x.toNatClampNeg := fun z => c3 (by rw [fa_eq]; omega)
        refine pc_ix (fun _ => ?_)
        rw [lt_]
        refine pc_lt fun v13 e13 => ?_
        refine pc_calp (t_isInB (x := v13) (i := y) y0 (by omega)) (fun v14 h14 => ?_)
        rw [e13] at h14
        refine pc_ite (fun c4 => skip (fun _ z => absurd ((hD _ xl _).mpr ⟨yl, z⟩) (h14.mp c4))) (fun c4 => ?_)
        have dy : DG V J y.toNatClampNeg x.toNatClampNeg := ((hD _ xl _).mp (Classical.byContradiction fun z => c4 (h14.mpr z))).2
        refine pc_ix (fun _ => ?_)
        refine pc_lt fun v16 e16 => ?_
        refine pc_calp (pc_ok (s_J13_bitCount_95d88 (x1 := v16))) (fun v17 h17 => ?_)
        rw [e16] at h17
        refine pc_ite (fun c5 => ?_) (fun c5 => skip (fun _ _ z => c5 (by rw [fa_eq]; omega)))
        rw [fa_eq] at c5
        have id := DSx.two hA hn xl yl (hD _ yl) (hD _ xl) nyx dy (by omega)
        refine pc_ix (fun _ => ?_)
        refine pc_lt fun s19 e19 => ?_
        exact hk s19 ⟨by rw [e19]; exact FR.st ft (by decide), fun b hb => by rw [e19, sti_j (by omega)]; exact t4 b hb, Or.inr ⟨y.toNatClampNeg, by rw [e19, sti_s]; exact cy.symm, id⟩⟩
