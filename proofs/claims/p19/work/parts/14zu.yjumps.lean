abbrev Jm (s : Sto) : Nat → Bool := fun e => decide ((s.1 30 e).toInt ≠ 0)
theorem Jm_f {s : Sto} {e : Nat} : Jm s e = false ↔ (s.1 30 e).toInt = 0 := by
  show decide ((s.1 30 e).toInt ≠ 0) = false ↔ _
  rw [decide_eq_false_iff_not]
  exact ⟨fun h => Classical.byContradiction h, fun h z => z h⟩
theorem KP_g {s : Sto} {e : Nat} : KP s e ↔ KG (EVm s) (Jm s) e := by
  unfold KP KG
  rw [Jm_f]
  exact Iff.rfl
theorem RW_g {s : Sto} {d b : Nat} : RW s d b ↔ RG (EVm s) (Jm s) d b := by
  constructor
  · exact fun h P p1 p2 => h P p1 (fun e he ha hd => p2 e (KP_g.mp he) ha hd)
  · exact fun h P p1 p2 => h P p1 (fun e he ha hd => p2 e (KP_g.mpr he) ha hd)
theorem GA_g {s : Sto} : GAl s ↔ ∀ b, b < nB s → AG (EVm s) (Jm s) b := by
  constructor
  · exact fun h b hb P p1 p2 => h b hb P p1 (fun e he ha => p2 e (KP_g.mp he) ha)
  · exact fun h b hb P p1 p2 => h b hb P p1 (fun e he ha => p2 e (KP_g.mpr he) ha)
theorem dom_g {s : Sto} (hD : DOM s s) {d b : Nat} (hb : b < nB s) (hd : d < nB s) : bL (s.2 0 b) d = true ↔ DG (EVm s) (Jm s) d b := by
  rw [hD b hb d hd]
  unfold DG
  rw [RW_g]
theorem FW_g {s : Sto} (hD : DOM s s) (hK : BKe s) (hF : EFI s) {e : Nat} : FW s e ↔ FG (EVm s) (Jm s) e := by
  unfold FW FG
  rw [KP_g]
  constructor
  · rintro ⟨h1, h2⟩
    have f := hF e h1.1
    refine ⟨h1, fun z => ?_⟩
    exact (hK e h1.1).mpr ⟨KP_g.mpr h1, (dom_g hD f.1 f.2).mpr z⟩ h2
  · rintro ⟨h1, h2⟩
    have f := hF e h1.1
    refine ⟨h1, Classical.byContradiction fun z => h2 ?_⟩
    exact (dom_g hD f.1 f.2).mp ((hK e h1.1).mp z).2
theorem t_hasM {x : Int64} {v : Int32} (h0 : 0 ≤ v.toInt) (h1 : v.toInt < 64) : PC (f_X12_has x v) (fun r => r = 0 ↔ bL x v.toNatClampNeg = false) := by
  have k_0 : (0 : Int32).toInt = 0 := by decide +kernel
  refine pc_imp (pc_ok (s_X12_has (x1 := x) (x2 := v))) (fun r q => ?_)
  have q1 := q.1
  have q2 := q.2 h0 h1
  rw [fa_eq, k_0]
  cases c : bL x v.toNatClampNeg with
  | true =>
    have := q2.mpr c
    exact ⟨fun z => by omega, fun z => absurd z (by decide)⟩
  | false =>
    refine ⟨fun _ => rfl, fun _ => ?_⟩
    have : r.toInt ≠ 1 := fun z => by rw [q2.mp z] at c; exact absurd c (by decide)
    omega
/-- where it isn't, an edge says so -/
theorem t_isEntryM {σ : Sto} {x1 : Int32} {G : Int64} (hB : BM σ) (hx : 0 ≤ x1.toInt) : PC (f_X12_isEntry x1 G σ) (fun v => v = 0 → ∃ e, FW σ e ∧ eB σ e = x1.toNatClampNeg ∧ bL G (eA σ e) = false) := by
  have k_0 : (0 : Int32).toInt = 0 := by decide +kernel
  have n1 : (1 : Int32) ≠ 0 := by decide
  have hE := nE_le hB
  have c1 := clamp_I hx
  unfold f_X12_isEntry
  refine pc_itr1 (fun e => 0 ≤ e.toInt ∧ e.toInt ≤ (σ.1 32 0).toInt) ?_ ⟨by omega, by omega⟩
  intro ag e I ih
  have ce := clamp_I I.1
  refine pc_ite (fun _ => pc_ret (fun z => absurd z n1)) (fun c2 => ?_)
  rw [fa_le] at c2
  have ex : (e + 1).toInt = e.toInt + 1 := i1 (by omega)
  refine pc_ix (fun _ => ?_)
  refine pc_lt fun v3 e3 => ?_
  refine pc_jnI0 True (fun _ => pc_lt fun x5 e5 => by subst e5; exact ih (e + 1) ⟨by omega, by omega⟩) (fun k hk => ?_)
  refine pc_ite (fun c3 => ?_) (fun _ => hk trivial)
  refine pc_ix (fun _ => ?_)
  refine pc_lt fun v7 e7 => ?_
  refine pc_ite (fun c4 => ?_) (fun _ => hk trivial)
  refine pc_ix (fun _ => ?_)
  refine pc_lt fun v9 e9 => ?_
  refine pc_ite (fun c5 => ?_) (fun _ => hk trivial)
  refine pc_ix (fun _ => ?_)
  refine pc_lt fun v11 e11 => ?_
  have g27 := gM_27 hB e.toNatClampNeg
  refine pc_calp (t_hasM (x := G) (v := v11) (by rw [e11]; omega) (by rw [e11]; omega)) (fun v12 h12 => ?_)
  refine pc_ite (fun c6 => pc_ret (fun _ => ?_)) (fun _ => hk trivial)
  rw [fa_eq, k_0, e7] at c4
  rw [fa_eq, k_0, e9] at c5
  refine ⟨e.toNatClampNeg, ⟨⟨by unfold nE; omega, c4⟩, c5⟩, ?_, ?_⟩
  · unfold eB
    rw [← e3, c3]
  · have := h12.mp c6
    unfold eA
    rw [← e11]; exact this
/-- where it isn't reduced, no ranks rise -/
theorem t_isReducedM {σ : Sto} (hB : BM σ) (hF : EFI σ) : PC (f_X12_isReduced σ) (fun v => v = 0 → ¬ ∃ r : Nat → Nat, ∀ e, FW σ e → r (eA σ e) < r (eB σ e)) := by
  have k_0 : (0 : Int32).toInt = 0 := by decide +kernel
  have n1 : (1 : Int32) ≠ 0 := by decide
  have hn := nB_le hB
  unfold f_X12_isReduced
  refine pc_itr2 (fun S g => (∀ i, bL S i = true → i < nB σ) ∧ (g = 0 → ∀ c, c < nB σ → bL S c = false → ∃ e, FW σ e ∧ eB σ e = c ∧ bL S (eA σ e) = false)) ?_ ⟨fun i hi => by rw [bL_0] at hi; exact absurd hi (by decide), fun z => absurd z n1⟩
  intro ag S g I ih
  obtain ⟨hS, hg⟩ := I
  refine pc_ite (fun c1 => ?_) (fun c1 => ?_)
  · have st := hg c1
    refine pc_calp (pc_ok (s_all hB)) (fun v3 h3 => ?_)
    refine pc_ite (fun _ => pc_ret (fun z => absurd z n1)) (fun c2 => pc_ret (fun _ => ?_))
    rw [lg_cmp_eq] at c2
    rintro ⟨r, hr⟩
    have key : ∀ n c, r c < n → c < nB σ → bL S c = false → False := fun n => by
      induction n with
      | zero => exact fun c h _ _ => absurd h (Nat.not_lt_zero _)
      | succ n ihn =>
        intro c h1 h2 h3
        obtain ⟨e, e1, e2, e3⟩ := st c h2 h3
        have := hr e e1
        rw [e2] at this
        exact ihn (eA σ e) (by omega) (hF e e1.1.1).1 e3
    refine c2 (bL_ext fun i => ?_)
    rw [h3]
    cases d : bL S i with
    | true => exact (decide_eq_true (hS i d)).symm
    | false =>
      by_cases q : i < nB σ
      · exact (key (r i + 1) i (by omega) q d).elim
      · exact (decide_eq_false q).symm
  · refine pc_itr3 (fun T f b => 0 ≤ b.toInt ∧ (∀ i, bL T i = true → i < nB σ) ∧ (f = 0 → ∀ c : Nat, (c : Int) < b.toInt → c < nB σ → bL T c = false → ∃ e, FW σ e ∧ eB σ e = c ∧ bL T (eA σ e) = false)) ?_ ⟨by omega, hS, fun _ c hc => by omega⟩
    intro ag2 T f b I2 ih2
    obtain ⟨b0, hT, hf⟩ := I2
    have cb := clamp_I b0
    refine pc_ite (fun c2 => ?_) (fun c2 => ?_)
    · rw [fa_le] at c2
      exact ih T f ⟨hT, fun z c hc => hf z c (by omega) hc⟩
    · rw [fa_le] at c2
      have ex : (b + 1).toInt = b.toInt + 1 := i1 (by omega)
      refine pc_calp (t_hasM (x := T) (v := b) b0 (by omega)) (fun v7 h7 => ?_)
      refine pc_jnI2 (fun T2 f2 => (∀ i, bL T2 i = true → i < nB σ) ∧ (f2 = 0 → ∀ c : Nat, (c : Int) < b.toInt + 1 → c < nB σ → bL T2 c = false → ∃ e, FW σ e ∧ eB σ e = c ∧ bL T2 (eA σ e) = false)) (fun T2 f2 J => ?_) (fun k hk => ?_)
      · refine pc_lt fun x9 e9 => ?_
        subst e9
        exact ih2 T2 f2 (b + 1) ⟨by omega, J.1, by rw [ex]; exact J.2⟩
      · refine pc_ite (fun c3 => ?_) (fun c3 => ?_)
        · refine pc_calp (t_isEntryM (G := T) hB b0) (fun v11 h11 => ?_)
          refine pc_ite (fun c4 => ?_) (fun c4 => ?_)
          · refine hk T f ⟨hT, fun z c h1 h2 h3 => ?_⟩
            by_cases q : c = b.toNatClampNeg
            · obtain ⟨e, e1, e2, e3⟩ := h11 c4
              exact ⟨e, e1, by rw [e2, q], e3⟩
            · exact hf z c (by omega) h2 h3
          · refine pc_lt fun T2 eT => ?_
            refine hk T2 1 ⟨fun i hi => ?_, fun z => absurd z n1⟩
            rw [eT, bL_set (v := b) b0 (by omega), Bool.or_eq_true, decide_eq_true_eq] at hi
            rcases hi with q | q
            · exact hT i q
            · omega
        · refine hk T f ⟨hT, fun z c h1 h2 h3 => ?_⟩
          by_cases q : c = b.toNatClampNeg
          · rw [q] at h3
            exact absurd (h7.mpr h3) c3
          · exact hf z c (by omega) h2 h3
/-- good: so and only so -/
theorem t_isGoodSoM {σ : Sto} (hB : BM σ) (hF : EFI σ) (hnb : 0 < nB σ) : PC (f_X12_isGoodSo σ) (fun r => (BM r.2 ∧ FR [31] [0] σ r.2) ∧ (r.1 ≠ 0 ↔ GG (EVm σ) (Jm σ) (nB σ)) ∧ (r.1 ≠ 0 → GD r.2)) := by
  have k_0 : (0 : Int32).toInt = 0 := by decide +kernel
  have k_1 : (1 : Int32).toInt = 1 := by decide +kernel
  have hn := nB_le hB
  have all := pc_ok (s_isGoodSo hB hF)
  have e31 : ∀ {s : Sto}, FR [31] [0] σ s → EVm s = EVm σ ∧ Jm s = Jm σ ∧ nB s = nB σ := fun {s} f => ⟨EVw.cg (frD f (by decide)) (frD f (by decide)) (frD f (by decide)) (frD f (by decide)), by unfold Jm; rw [frD f (show (30 : Nat) ≠ 31 by decide)], by unfold nB; rw [frD f (show (26 : Nat) ≠ 31 by decide)]⟩
  have ggd : ∀ {s : Sto}, FR [31] [0] σ s → GD s → GG (EVm σ) (Jm σ) (nB σ) := fun {s} f h => by
    obtain ⟨h1, h2, h3, r, h4⟩ := h
    obtain ⟨a, b, c⟩ := e31 f
    have hFs : EFI s := hF.cg (frD f (by decide)) (frD f (by decide)) (frD f (by decide)) (frD f (by decide))
    rw [← a, ← b, ← c]
    exact ⟨GA_g.mp h1, r, fun e he => h4 e ((FW_g h2 h3 hFs).mpr he) (hFs e he.1.1).2⟩
  have neg : PC (f_X12_isGoodSo σ) (fun r => r.1 = 0 → ¬ GG (EVm σ) (Jm σ) (nB σ)) := by
    unfold f_X12_isGoodSo
    refine pc_calp (pc_ok (s_reached (x1 := 0) (W := 0) hB (by omega))) (fun v1 h1 => ?_)
    refine pc_calp (pc_ok (s_all hB)) (fun v2 h2 => ?_)
    refine pc_ite (fun c => ?_) (fun c => pc_ret (fun _ G => ?_))
    · refine pc_cals (pc_ok (s_laysDominators hB hF)) (fun s4 q => ?_)
      obtain ⟨q1, q2, q3, q4⟩ := q
      have hFs : EFI s4 := hF.cg (frD q2 (by decide)) (frD q2 (by decide)) (frD q2 (by decide)) (frD q2 (by decide))
      have q3' := q3.cg (frD q2 (by decide)) (frD q2 (by decide)) (frD q2 (by decide)) (frD q2 (by decide)) (frD q2 (by decide))
      refine pc_calp (t_isReducedM q1 hFs) (fun v5 h5 => ?_)
      refine pc_bz (fun _ => pc_ret (fun z G => ?_))
      obtain ⟨_, r, h4⟩ := G
      obtain ⟨a, b, _⟩ := e31 q2
      refine h5 z ⟨r, fun e he => ?_⟩
      have := (FW_g q3' q4 hFs).mp he
      rw [a, b] at this
      have y := h4 e this
      have ya : gA (EVm σ) e = eA s4 e := by
        show (σ.1 27 e).toNatClampNeg = (s4.1 27 e).toNatClampNeg
        rw [frD q2 (by decide)]
      have yb : gB (EVm σ) e = eB s4 e := by
        show (σ.1 28 e).toNatClampNeg = (s4.1 28 e).toNatClampNeg
        rw [frD q2 (by decide)]
      rw [ya, yb] at y
      exact y
    · rw [lg_cmp_eq] at c
      refine c (bL_ext fun i => ?_)
      rw [h2]
      have z0 : (0 : Int32).toNatClampNeg = 0 := rfl
      rw [z0] at h1
      by_cases q : i < nB σ
      · rw [decide_eq_true q]
        exact G.1 i q (fun x => bL v1 x = true) h1.1 (fun e he ha => h1.2.1 e (KP_g.mpr he) ha (bL_0 _))
      · rw [decide_eq_false q]
        cases d : bL v1 i with
        | false => rfl
        | true =>
          have := h1.2.2 (fun x => x < nB σ) hnb (fun e he _ _ => (hF e he.1).2) i d
          exact absurd this q
  refine fun r hr => ?_
  have a := all r hr
  have b := neg r hr
  obtain ⟨a0, a1, a2, a3⟩ := a
  have one : r.1 ≠ 0 → r.1.toInt = 1 := fun z => by
    have : r.1.toInt ≠ 0 := fun y => z (Int32.toInt_inj.mp (by rw [y, k_0]))
    omega
  exact ⟨⟨a1, a2⟩, ⟨fun z => ggd a2 (a3 (one z)), fun G z => b z G⟩, fun z => a3 (one z)⟩
/-- jumps that stand -/
def JE (σ s : Sto) (f : Nat → Bool) : Prop := ∀ d, d < nE σ → Jm s d = f d
theorem JE.gg {σ s : Sto} {f : Nat → Bool} (h : JE σ s f) (e27 : s.1 27 = σ.1 27) (e28 : s.1 28 = σ.1 28) (e29 : s.1 29 = σ.1 29) (e32 : s.1 32 = σ.1 32) (e26 : s.1 26 = σ.1 26) : GG (EVm s) (Jm s) (nB s) ↔ GG (EVm σ) f (nB σ) := by
  have a : EVm s = EVm σ := EVw.cg e32 e27 e28 e29
  have n : nB s = nB σ := by unfold nB; rw [e26]
  rw [a, n]
  exact GG.cg ⟨rfl, fun _ _ => ⟨rfl, rfl, rfl⟩⟩ h
theorem JE.cg {σ s t : Sto} {f : Nat → Bool} (h : JE σ s f) (e : t.1 30 = s.1 30) : JE σ t f := fun d hd => by
  show decide ((t.1 30 d).toInt ≠ 0) = _
  rw [e]; exact h d hd
theorem JE.on {σ s t : Sto} {f : Nat → Bool} {e : Nat} {v : Int32} (h : JE σ s f) (et : t.1 30 = (sti s 30 e v).1 30) (hv : v.toInt ≠ 0) : JE σ t (sJ f e) := fun d hd => by
  show decide ((t.1 30 d).toInt ≠ 0) = (f d || decide (d = e))
  rw [et, sti_if]
  by_cases q : d = e
  · rw [if_pos q, decide_eq_true q, Bool.or_true]; exact decide_eq_true hv
  · rw [if_neg q, decide_eq_false q, Bool.or_false]; exact h d hd
theorem JE.off {σ s t : Sto} {f : Nat → Bool} {e : Nat} {v : Int32} (h : JE σ s (sJ f e)) (et : t.1 30 = (sti s 30 e v).1 30) (hv : v.toInt = 0) (hf : f e = false) : JE σ t f := fun d hd => by
  show decide ((t.1 30 d).toInt ≠ 0) = f d
  rw [et, sti_if]
  by_cases q : d = e
  · rw [if_pos q, q, hf]
    exact decide_eq_false (fun z => z hv)
  · rw [if_neg q]
    have := h d hd
    rw [show Jm s d = decide ((s.1 30 d).toInt ≠ 0) from rfl] at this
    rw [this]
    unfold sJ
    rw [decide_eq_false q, Bool.or_false]
abbrev thr (σ : Sto) (e : Nat) : Bool := (EVm σ).2.2.2 e
theorem thr_f {σ s : Sto} {e : Nat} (e29 : s.1 29 = σ.1 29) : thr σ e = false ↔ (s.1 29 e).toInt = 0 := by
  show decide ((σ.1 29 e).toInt ≠ 0) = false ↔ _
  rw [decide_eq_false_iff_not, e29]
  exact ⟨fun h => Classical.byContradiction h, fun h z => z h⟩
theorem t_hasSecondM {σ s : Sto} {x1 : Int32} {a : Nat} (hB0 : BM σ) (hB : BM s) (hF : EFI σ) (hnb : 0 < nB σ) (f : FR [30, 31, 36, 37] [0] σ s) (ha : x1.toNatClampNeg = a) (ha0 : 0 ≤ x1.toInt) (ha1 : a < nE σ) (hJ : JE σ s (sJ J0f a)) : PC (f_X12_hasSecond x1 s) (fun r => (BM r.2 ∧ FR [30, 31, 36, 37] [0] σ r.2 ∧ r.2.1 36 = s.1 36) ∧ ((r.1 = 0 ∧ JE σ r.2 (sJ J0f a) ∧ ∀ d, a < d → d < nE σ → thr σ d = false → ¬ GG (EVm σ) (sJ (sJ J0f a) d) (nB σ)) ∨ (r.1 ≠ 0 ∧ GD r.2 ∧ ∃ b, a < b ∧ b < nE σ ∧ thr σ b = false ∧ GG (EVm σ) (sJ (sJ J0f a) b) (nB σ) ∧ JE σ r.2 (sJ (sJ J0f a) b) ∧ ∀ d, a < d → d < b → thr σ d = false → ¬ GG (EVm σ) (sJ (sJ J0f a) d) (nB σ)))) := by
  have k_0 : (0 : Int32).toInt = 0 := by decide +kernel
  have k_1 : (1 : Int32).toInt = 1 := by decide +kernel
  have n1 : (1 : Int32) ≠ 0 := by decide
  have hE := nE_le hB0
  have ca := clamp_I ha0
  rw [ha] at ca
  unfold f_X12_hasSecond
  refine pc_lt fun y ey => ?_
  have y1 : y.toInt = x1.toInt + 1 := by rw [ey]; exact i1 (by omega)
  refine pc_itr2 (fun e t => (a : Int) < e.toInt ∧ BM t ∧ FR [30, 31, 36, 37] [0] σ t ∧ t.1 36 = s.1 36 ∧ JE σ t (sJ J0f a) ∧ ∀ d : Nat, a < d → (d : Int) < e.toInt → d < nE σ → thr σ d = false → ¬ GG (EVm σ) (sJ (sJ J0f a) d) (nB σ)) ?_ ⟨by omega, hB, f, rfl, hJ, fun d h1 h2 => by omega⟩
  intro ag e t I ih
  obtain ⟨e0, b1, b2, b3, b4, b5⟩ := I
  have ce := clamp_I (x := e) (by omega)
  have fk : ∀ {k : Nat}, k ≠ 30 ∧ k ≠ 31 ∧ k ≠ 36 ∧ k ≠ 37 → t.1 k = σ.1 k := fun hk => frK b2 hk
  refine pc_ite (fun c1 => ?_) (fun c1 => ?_)
  · rw [fa_le, fk (by decide)] at c1
    exact pc_ret ⟨⟨b1, b2, b3⟩, Or.inl ⟨rfl, b4, fun d h1 h2 => b5 d h1 (by omega) h2⟩⟩
  · rw [fa_le, fk (by decide)] at c1
    have ex : (e + 1).toInt = e.toInt + 1 := i1 (by omega)
    have heE : e.toNatClampNeg < nE σ := by omega
    refine pc_ix (fun _ => ?_)
    refine pc_lt fun v4 e4 => ?_
    refine pc_jnI1 (fun u => BM u ∧ FR [30, 31, 36, 37] [0] σ u ∧ u.1 36 = s.1 36 ∧ JE σ u (sJ J0f a) ∧ (thr σ e.toNatClampNeg = false → ¬ GG (EVm σ) (sJ (sJ J0f a) e.toNatClampNeg) (nB σ))) (fun u J => ?_) (fun k hk => ?_)
    · refine pc_lt fun x6 e6 => ?_
      subst e6
      refine ih (e + 1) u ⟨by omega, J.1, J.2.1, J.2.2.1, J.2.2.2.1, fun d h1 h2 h3 h4 => ?_⟩
      by_cases q : d = e.toNatClampNeg
      · rw [q]
        rw [q] at h4
        exact J.2.2.2.2 h4
      · exact b5 d h1 (by omega) h3 h4
    · refine pc_ite (fun c2 => ?_) (fun c2 => ?_)
      · rw [fa_eq, k_0, e4] at c2
        refine pc_ix (fun _ => ?_)
        refine pc_lt fun s8 e8 => ?_
        have F8 : FR [30, 31, 36, 37] [0] σ s8 := by rw [e8]; exact FR.st b2 (by decide)
        have J8 : JE σ s8 (sJ (sJ J0f a) e.toNatClampNeg) := b4.on (by rw [e8]) (by rw [k_1]; decide)
        have gq := J8.gg (frK F8 (by decide)) (frK F8 (by decide)) (frK F8 (by decide)) (frK F8 (by decide)) (frK F8 (by decide))
        have n8 : nB s8 = nB σ := by unfold nB; rw [frK F8 (by decide)]
        refine pc_calv (t_isGoodSoM (σ := s8) (by rw [e8]; exact pM_30 b1 (by omega)) (hF.cg (frK F8 (by decide)) (frK F8 (by decide)) (frK F8 (by decide)) (frK F8 (by decide))) (by rw [n8]; exact hnb)) (fun v9 s9 q => ?_)
        obtain ⟨⟨q0, q1⟩, q2, q3⟩ := q
        (try dsimp only at q0 q1 q2 q3)
        rw [gq] at q2
        have F9 : FR [30, 31, 36, 37] [0] σ s9 := FR.cal F8 q1 rfl rfl
        have J9 : JE σ s9 (sJ (sJ J0f a) e.toNatClampNeg) := J8.cg (frD q1 (by decide))
        have p36 : s9.1 36 = s.1 36 := by rw [frD q1 (by decide), e8, sti_o (by decide)]; exact b3
        refine pc_ite (fun c3 => ?_) (fun c3 => ?_)
        · refine pc_ix (fun _ => ?_)
          refine pc_lt fun s11 e11 => ?_
          refine hk s11 ⟨by rw [e11]; exact pM_30 q0 (by omega), by rw [e11]; exact FR.st F9 (by decide), by rw [e11, sti_o (by decide)]; exact p36, J9.off (by rw [e11]) k_0 ?_, fun _ z => q2.mpr z c3⟩
          unfold sJ J0f
          rw [Bool.false_or]
          exact decide_eq_false (by omega)
        · refine pc_ret ⟨⟨q0, F9, p36⟩, Or.inr ⟨n1, q3 c3, e.toNatClampNeg, by omega, heE, (thr_f (fk (by decide))).mpr c2, q2.mp c3, J9, fun d h1 h2 h3 => b5 d h1 (by omega) (by omega) h3⟩⟩
      · rw [fa_eq, k_0, e4] at c2
        exact hk t ⟨b1, b2, b3, b4, fun z => absurd ((thr_f (fk (by decide))).mp z) c2⟩
/-- what laysJumps lays -/
def JLM (σ s : Sto) : Prop := JRS (EVm σ) (nB σ) (Jm s) (s.1 36 0).toInt ∧ DOM s s ∧ BKe s
theorem t_laysJumpsM {σ : Sto} (hB : BM σ) (hF : EFI σ) (hnb : 0 < nB σ) : PC (f_X12_laysJumps σ) (fun s => FR FJ_ [0] σ s ∧ JLM σ s) := by
  have k_0 : (0 : Int32).toInt = 0 := by decide +kernel
  have k_1 : (1 : Int32).toInt = 1 := by decide +kernel
  have k_2 : (2 : Int32).toInt = 2 := by decide +kernel
  have k_m1 : ((-1) : Int32).toInt = -1 := by decide +kernel
  have n1 : (1 : Int32) ≠ 0 := by decide
  have hE := nE_le hB
  unfold f_X12_laysJumps
  refine pc_itr2 (fun e s => 0 ≤ e.toInt ∧ BM s ∧ FR FJ_ [0] σ s ∧ ∀ d : Nat, (d : Int) < e.toInt → (s.1 30 d).toInt = 0) ?_ ⟨by omega, hB, FR.rf, fun d hd => by omega⟩
  intro ag e s I ih
  obtain ⟨e0, b1, b2, b3⟩ := I
  have ce := clamp_I e0
  refine pc_ite (fun c1 => ?_) (fun c1 => ?_)
  · rw [fa_le, frK b2 (by decide)] at c1
    have J0 : JE σ s J0f := fun d hd => decide_eq_false (fun z => z (b3 d (by omega)))
    have ns : nB s = nB σ := by unfold nB; rw [frK b2 (by decide)]
    have gq := J0.gg (frK b2 (by decide)) (frK b2 (by decide)) (frK b2 (by decide)) (frK b2 (by decide)) (frK b2 (by decide))
    refine pc_calv (t_isGoodSoM b1 (hF.cg (frK b2 (by decide)) (frK b2 (by decide)) (frK b2 (by decide)) (frK b2 (by decide))) (by rw [ns]; exact hnb)) (fun v3 s3 q => ?_)
    obtain ⟨⟨q0, q1⟩, q2, q3⟩ := q
    (try dsimp only at q0 q1 q2 q3)
    rw [gq] at q2
    refine pc_bz (fun bz3 => ?_)
    refine pc_lt fun s4 e4 => ?_
    refine pc_lt fun s6 e6 => ?_
    have F3 : FR FJ_ [0] σ s3 := FR.cal b2 q1 rfl rfl
    have F6 : FR FJ_ [0] σ s6 := by rw [e6, e4]; exact FR.st (FR.st F3 (by decide)) (by decide)
    have v3b : 0 ≤ v3.toInt ∧ v3.toInt ≤ 1 := by
      rcases bz3 with z | z <;> rw [z] <;> omega
    have B6 : BM s6 := by rw [e6]; refine pM_36 ?_ (by omega); rw [e4]; exact pM_37 q0 (by omega)
    have J6 : JE σ s6 J0f := J0.cg (by rw [e6, sti_o (by decide), e4, sti_o (by decide), frD q1 (by decide)])
    have v37 : (s6.1 37 0) = v3 := by rw [e6, sti_o (by decide), e4, sti_s]
    refine pc_ite (fun c2 => ?_) (fun c2 => ?_)
    · rw [v37] at c2
      have NG : ¬ GG (EVm σ) J0f (nB σ) := fun z => q2.mpr z c2
      refine pc_lt fun s8 e8 => ?_
      refine pc_itr1 (fun t => BM t ∧ FR FJ_ [0] σ t ∧ JE σ t J0f ∧ 1 ≤ (t.1 36 0).toInt ∧ (t.1 36 0).toInt ≤ 3 ∧ (2 ≤ (t.1 36 0).toInt → ∀ e, e < nE σ → thr σ e = false → ¬ GG (EVm σ) (sJ J0f e) (nB σ)) ∧ (3 ≤ (t.1 36 0).toInt → ∀ c d, c < d → d < nE σ → thr σ c = false → thr σ d = false → ¬ GG (EVm σ) (sJ (sJ J0f c) d) (nB σ))) ?_ ⟨by rw [e8]; exact pM_36 B6 (by omega), by rw [e8]; exact FR.st F6 (by decide), J6.cg (by rw [e8, sti_o (by decide)]), by rw [e8, sti_s]; omega, by rw [e8, sti_s]; omega, fun z => by rw [e8, sti_s] at z; omega, fun z => by rw [e8, sti_s] at z; omega⟩
      intro ag2 t I2 ih2
      obtain ⟨t1, t2, t3, t4, t5, t6, t7⟩ := I2
      refine pc_ite (fun c3 => ?_) (fun c3 => ?_)
      · rw [fa_lt, k_2] at c3
        refine pc_lt fun s11 e11 => ?_
        have F11 : FR FJ_ [0] σ s11 := by rw [e11]; exact FR.st t2 (by decide)
        refine pc_cals (pc_ok (s_laysDominators (σ := s11) (by rw [e11]; exact pM_36 t1 (by omega)) (hF.cg (frK F11 (by decide)) (frK F11 (by decide)) (frK F11 (by decide)) (frK F11 (by decide))))) (fun s12 w => ?_)
        obtain ⟨w1, w2, w3, w4⟩ := w
        have z36 : (s12.1 36 0).toInt = -1 := by rw [frD w2 (by decide), e11, sti_s]; exact k_m1
        refine pc_ret ⟨FR.cal F11 w2 rfl rfl, Or.inr (Or.inr (Or.inr ⟨NG, t6 (by omega), t7 (by omega), z36, fun e he => ?_⟩)), w3.cg (frD w2 (by decide)) (frD w2 (by decide)) (frD w2 (by decide)) (frD w2 (by decide)) (frD w2 (by decide)), w4⟩
        show decide ((s12.1 30 e).toInt ≠ 0) = false
        rw [frD w2 (by decide), e11, sti_o (by decide)]
        exact t3 e he
      · rw [fa_lt, k_2] at c3
        refine pc_itr2 (fun e u => 0 ≤ e.toInt ∧ BM u ∧ FR FJ_ [0] σ u ∧ JE σ u J0f ∧ u.1 36 0 = t.1 36 0 ∧ ((t.1 36 0).toInt = 1 → ∀ c : Nat, (c : Int) < e.toInt → c < nE σ → thr σ c = false → ¬ GG (EVm σ) (sJ J0f c) (nB σ)) ∧ ((t.1 36 0).toInt = 2 → ∀ c d : Nat, (c : Int) < e.toInt → c < d → d < nE σ → thr σ c = false → thr σ d = false → ¬ GG (EVm σ) (sJ (sJ J0f c) d) (nB σ))) ?_ ⟨by omega, t1, t2, t3, rfl, fun _ c h => by omega, fun _ c d h => by omega⟩
        intro ag3 e u I3 ih3
        obtain ⟨e0, u1, u2, u3, u4, u5, u6⟩ := I3
        have ce := clamp_I e0
        refine pc_ite (fun c4 => ?_) (fun c4 => ?_)
        · rw [fa_le, frK u2 (by decide)] at c4
          refine pc_lt fun s15 e15 => ?_
          have z15 : (s15.1 36 0).toInt = (t.1 36 0).toInt + 1 := by rw [e15, sti_s, u4]; exact i1 (by omega)
          refine ih2 s15 ⟨by rw [e15]; exact pM_36 u1 (by rw [u4, i1 (by omega)]; omega), by rw [e15]; exact FR.st u2 (by decide), u3.cg (by rw [e15, sti_o (by decide)]), by omega, by omega, fun z c hc hx => ?_, fun z c d h1 h2 h3 h4 => ?_⟩
          · by_cases q : (t.1 36 0).toInt = 1
            · exact u5 q c (by omega) hc hx
            · exact t6 (by omega) c hc hx
          · exact u6 (by omega) c d (by omega) h1 h2 h3 h4
        · rw [fa_le, frK u2 (by decide)] at c4
          have ex : (e + 1).toInt = e.toInt + 1 := i1 (by omega)
          have heE : e.toNatClampNeg < nE σ := by omega
          refine pc_ix (fun _ => ?_)
          refine pc_lt fun v16 e16 => ?_
          refine pc_jnI1 (fun w => BM w ∧ FR FJ_ [0] σ w ∧ JE σ w J0f ∧ w.1 36 0 = t.1 36 0 ∧ ((t.1 36 0).toInt = 1 → thr σ e.toNatClampNeg = false → ¬ GG (EVm σ) (sJ J0f e.toNatClampNeg) (nB σ)) ∧ ((t.1 36 0).toInt = 2 → ∀ d : Nat, e.toNatClampNeg < d → d < nE σ → thr σ e.toNatClampNeg = false → thr σ d = false → ¬ GG (EVm σ) (sJ (sJ J0f e.toNatClampNeg) d) (nB σ))) (fun w J => ?_) (fun k hk => ?_)
          · obtain ⟨w1, w2, w3, w4, w5, w6⟩ := J
            refine pc_lt fun x18 e18 => ?_
            subst e18
            refine ih3 (e + 1) w ⟨by omega, w1, w2, w3, w4, fun z c h1 h2 h3 => ?_, fun z c d h1 h2 h3 h4 h5 => ?_⟩
            · by_cases q : c = e.toNatClampNeg
              · rw [q]
                rw [q] at h3
                exact w5 z h3
              · exact u5 z c (by omega) h2 h3
            · by_cases q : c = e.toNatClampNeg
              · rw [q]
                rw [q] at h4 h2
                exact w6 z d h2 h3 h4 h5
              · exact u6 z c d (by omega) h2 h3 h4 h5
          · have ft : thr σ e.toNatClampNeg = false ↔ (u.1 29 e.toNatClampNeg).toInt = 0 := thr_f (frK u2 (by decide))
            refine pc_ite (fun c5 => ?_) (fun c5 => ?_)
            · rw [fa_eq, k_0, e16, ← ft] at c5
              refine pc_ix (fun _ => ?_)
              refine pc_lt fun s20 e20 => ?_
              have F20 : FR FJ_ [0] σ s20 := by rw [e20]; exact FR.st u2 (by decide)
              have B20 : BM s20 := by rw [e20]; exact pM_30 u1 (by omega)
              have J20 : JE σ s20 (sJ J0f e.toNatClampNeg) := u3.on (by rw [e20]) (by rw [k_1]; decide)
              have q36 : s20.1 36 0 = t.1 36 0 := by rw [e20, sti_o (by decide)]; exact u4
              refine pc_jnI1 (fun z => BM z ∧ FR FJ_ [0] σ z ∧ JE σ z (sJ J0f e.toNatClampNeg) ∧ z.1 36 0 = t.1 36 0 ∧ ((t.1 36 0).toInt = 1 → ¬ GG (EVm σ) (sJ J0f e.toNatClampNeg) (nB σ)) ∧ ((t.1 36 0).toInt = 2 → ∀ d : Nat, e.toNatClampNeg < d → d < nE σ → thr σ d = false → ¬ GG (EVm σ) (sJ (sJ J0f e.toNatClampNeg) d) (nB σ))) (fun z J => ?_) (fun k2 hk2 => ?_)
              · obtain ⟨w1, w2, w3, w4, w5, w6⟩ := J
                refine pc_ix (fun _ => ?_)
                refine pc_lt fun s22 e22 => ?_
                exact hk s22 ⟨by rw [e22]; exact pM_30 w1 (by omega), by rw [e22]; exact FR.st w2 (by decide), w3.off (by rw [e22]) k_0 rfl, by rw [e22, sti_o (by decide)]; exact w4, fun y _ => w5 y, fun y d h1 h2 _ h4 => w6 y d h1 h2 h4⟩
              · refine pc_ite (fun c6 => ?_) (fun c6 => ?_)
                · rw [fa_eq, k_1, q36] at c6
                  have n8 : nB s20 = nB σ := by unfold nB; rw [frK F20 (by decide)]
                  have g20 := J20.gg (frK F20 (by decide)) (frK F20 (by decide)) (frK F20 (by decide)) (frK F20 (by decide)) (frK F20 (by decide))
                  refine pc_calv (t_isGoodSoM B20 (hF.cg (frK F20 (by decide)) (frK F20 (by decide)) (frK F20 (by decide)) (frK F20 (by decide))) (by rw [n8]; exact hnb)) (fun v24 s24 w => ?_)
                  obtain ⟨⟨w0, w1⟩, w2, w3⟩ := w
                  (try dsimp only at w0 w1 w2 w3)
                  rw [g20] at w2
                  have F24 : FR FJ_ [0] σ s24 := FR.cal F20 w1 rfl rfl
                  have J24 : JE σ s24 (sJ J0f e.toNatClampNeg) := J20.cg (frD w1 (by decide))
                  have p36 : s24.1 36 0 = t.1 36 0 := by rw [frD w1 (by decide)]; exact q36
                  refine pc_ite (fun c7 => ?_) (fun c7 => ?_)
                  · exact hk2 s24 ⟨w0, F24, J24, p36, fun _ z => w2.mpr z c7, fun z => by omega⟩
                  · have G := w3 c7
                    refine pc_ret ⟨F24, Or.inr (Or.inl ⟨NG, e.toNatClampNeg, by rw [p36]; exact c6, heE, c5, w2.mp c7, fun c h1 h2 => u5 c6 c (by omega) (by omega) h2, fun d hd => ?_⟩), G.2.1, G.2.2.1⟩
                    rw [J24 d hd]
                    unfold sJ J0f
                    rw [Bool.false_or]
                · rw [fa_eq, k_1, q36] at c6
                  have c2_ : (t.1 36 0).toInt = 2 := by omega
                  refine pc_calv (t_hasSecondM (a := e.toNatClampNeg) hB B20 hF hnb F20 rfl e0 heE J20) (fun v26 s26 w => ?_)
                  obtain ⟨⟨w0, w1, w2⟩, w3⟩ := w
                  (try dsimp only at w0 w1 w2 w3)
                  have p36 : s26.1 36 0 = t.1 36 0 := by rw [w2]; exact q36
                  refine pc_ite (fun c7 => ?_) (fun c7 => ?_)
                  · rcases w3 with ⟨_, x1, x2⟩ | ⟨x0, _⟩
                    · exact hk2 s26 ⟨w0, w1, x1, p36, fun z => by omega, fun _ => x2⟩
                    · exact absurd c7 x0
                  · rcases w3 with ⟨x0, _⟩ | ⟨_, G, b, x1, x2, x3, x4, x5, x6⟩
                    · exact absurd x0 c7
                    · refine pc_ret ⟨w1, Or.inr (Or.inr (Or.inl ⟨NG, t6 (by omega), e.toNatClampNeg, b, by rw [p36]; exact c2_, x1, x2, c5, x3, x4, fun c d h1 h2 h3 h4 h5 => u6 c2_ c d (by omega) h2 h3 h4 h5, x6, fun d hd => ?_⟩)), G.2.1, G.2.2.1⟩
                      rw [x5 d hd]
                      unfold sJ J0f
                      rw [Bool.false_or]
            · rw [fa_eq, k_0, e16, ← ft] at c5
              exact hk u ⟨u1, u2, u3, u4, fun _ z => absurd z c5, fun _ d _ _ z => absurd z c5⟩
    · rw [v37] at c2
      have G := q3 c2
      refine pc_ret ⟨F6, Or.inl ⟨by rw [e6, sti_s]; exact k_0, q2.mp c2, fun d hd => J6 d hd⟩, ?_⟩
      have G6 : GD s6 := G.cg (by rw [e6, e4]; rfl) (by rw [e6, e4]; rfl) (by rw [e6, e4]; rfl) (by rw [e6, e4]; rfl) (by rw [e6, e4]; rfl) (by rw [e6, e4]; rfl) (by rw [e6, e4]; rfl)
      exact ⟨G6.2.1, G6.2.2.1⟩
  · rw [fa_le, frK b2 (by decide)] at c1
    have ex : (e + 1).toInt = e.toInt + 1 := i1 (by omega)
    refine pc_ix (fun _ => ?_)
    refine pc_lt fun s28 e28 => ?_
    refine pc_lt fun x29 e29 => ?_
    subst e29
    refine ih (e + 1) s28 ⟨by omega, by rw [e28]; exact pM_30 b1 (by omega), by rw [e28]; exact FR.st b2 (by decide), fun d hd => ?_⟩
    rw [e28, sti_if]
    by_cases q : d = e.toNatClampNeg
    · rw [if_pos q]; exact k_0
    · rw [if_neg q]; exact b3 d (by omega)
