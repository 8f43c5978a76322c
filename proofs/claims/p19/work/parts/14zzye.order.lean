/-- the reference on its way -/
def DSM (n : Nat) (s : Sto) (S : Nat → Bool) (L : Nat) (R : Nat → Option Nat) : Prop := bL (s.2 2 0) = S ∧ (s.1 35 0).toInt = (n : Int) - L ∧ ∀ b r, R b = some r → (s.1 33 b).toInt = (r : Int)
/-- edges as the reference's rows tell them -/
def EGM (σ : Sto) (V : EVt) (J : Nat → Bool) (n : Nat) : Prop := (σ.1 32 0).toInt = (V.1 : Int) ∧ n ≤ 40 ∧ ∀ e, e < V.1 → (σ.1 27 e).toInt = (gA V e : Int) ∧ (σ.1 28 e).toInt = (gB V e : Int) ∧ (J e = false ↔ (σ.1 30 e).toInt = 0)
def cpo (fE : Nat → Nat) (b x : Nat) : Nat := if x ≤ fE b then fE b else if x ≤ fE (b + 1) then x else fE (b + 1)
theorem dmk_ct {S : Nat → Bool} {b n : Nat} (hb : b < n) (hs : S b = false) : fb_ct (dmk b S) n = fb_ct S n + 1 := by
  have q := fb_ct_or (p := S) (q := fun i => decide (i = b)) (n := n) (fun k _ z => by
    have z2 : k = b := of_decide_eq_true z.2
    rw [z2, hs] at z
    exact absurd z.1 (by decide))
  have one : ∀ m, b < m → fb_ct (fun i => decide (i = b)) m = 1 := fun m => by
    induction m with
    | zero => intro h; exact absurd h (Nat.not_lt_zero _)
    | succ m ih =>
      intro h
      rw [fb_ct_succ]
      by_cases c : m = b
      · have z : fb_ct (fun i => decide (i = b)) m = 0 := fb_ct_zero.mpr (fun k hk => decide_eq_false (by omega))
        rw [z, if_pos (decide_eq_true c)]
      · rw [ih (by omega), if_neg (by rw [decide_eq_false c]; decide)]
  show fb_ct (fun k => S k || decide (k = b)) n = _
  rw [q, one n hb]
section
variable {σ : Sto} {V : EVt} {J : Nat → Bool} {n : Nat} {fE : Nat → Nat}
theorem m_leaves (hE : PFE V n fE) (hg : EGM σ V J n) : ∀ (d : Nat) (x : Int32) (s : Sto) (b : Nat) (S : Nat → Bool) (L : Nat) (R : Nat → Option Nat) (K : List (Nat × Nat)), x.toInt = (b : Int) → b < n → FR [33, 35] [2] σ s → DSM n s S L R → S b = false → L + K.length + 1 ≤ fb_ct (dmk b S) n → PC (f_X12_leaves d x s) (fun s' => FR [33, 35] [2] σ s' ∧ ∃ k S' L' R', dgo V J fE n k ((b, fE b) :: K, dmk b S, L, R) = (K, S', L', R') ∧ DSM n s' S' L' R' ∧ L' + K.length ≤ fb_ct S' n)
  | 0, _, _, _, _, _, _, _, _, _, _, _, _, _ => pc_no
  | d + 1, x, s, b, S, L, R, K, hx, hb, hf, hd, hS, hC => by
    obtain ⟨g1, gn, g2⟩ := hg
    have k_0 : (0 : Int32).toInt = 0 := by decide +kernel
    have cx : x.toNatClampNeg = b := by
      have := clamp_I (x := x) (by omega)
      omega
    obtain ⟨d1, d2, d3⟩ := hd
    have mono := hE.mono hb
    obtain ⟨p1, p2, p3⟩ := hE.1 b hb
    show PC (b_X12_leaves (g_X12_leaves d) x s) _
    unfold b_X12_leaves
    refine pc_lt fun s1 e1 => ?_
    have f1 : FR [33, 35] [2] σ s1 := by rw [e1]; exact FR.stl hf (by decide)
    have D1 : DSM n s1 (dmk b S) L R := by
      refine ⟨?_, by rw [e1]; exact d2, fun y r hy => by rw [e1]; exact d3 y r hy⟩
      rw [e1, stl_s]
      funext i
      rw [bL_set (v := x) (by omega) (by omega), d1, cx]
      rfl
    refine pc_itr2 (fun e t => 0 ≤ e.toInt ∧ e.toInt ≤ (V.1 : Int) ∧ FR [33, 35] [2] σ t ∧ ∃ k S' L' R', dgo V J fE n k ((b, fE b) :: K, dmk b S, L, R) = ((b, cpo fE b e.toNatClampNeg) :: K, S', L', R') ∧ DSM n t S' L' R' ∧ L' + K.length + 1 ≤ fb_ct S' n) ?_ (by exact ⟨by omega, by omega, f1, 0, dmk b S, L, R, by show ((b, fE b) :: K, dmk b S, L, R) = ((b, cpo fE b 0) :: K, dmk b S, L, R); unfold cpo; rw [if_pos (Nat.zero_le _)], D1, hC⟩)
    intro ag e t I ih
    obtain ⟨e0, en, ft, k, S', L', R', m, D, hC'⟩ := I
    have ce := clamp_I e0
    have t32 : t.1 32 = σ.1 32 := ft.1 32 (by decide)
    refine pc_ite (fun c => ?_) (fun c => ?_)
    · rw [fa_le, t32, g1] at c
      have ee : e.toNatClampNeg = V.1 := by omega
      have cp : cpo fE b e.toNatClampNeg = fE (b + 1) := by
        unfold cpo
        rw [ee]
        by_cases q : V.1 ≤ fE b
        · rw [if_pos q]; omega
        · rw [if_neg q]
          by_cases q2 : V.1 ≤ fE (b + 1)
          · rw [if_pos q2]; omega
          · rw [if_neg q2]
      obtain ⟨q1, q2, q3⟩ := D
      have ln := fb_ct_le S' n
      refine pc_lt fun s4 e4 => ?_
      have v35 : (s4.1 35 0).toInt = (n : Int) - (L' + 1 : Nat) := by rw [e4, sti_s, i32_m1 (by omega), q2]; omega
      refine pc_ix (fun _ => ?_)
      rw [cx]
      refine pc_lt fun s5 e5 => ?_
      refine pc_ret ⟨by rw [e5, e4]; exact FR.st (FR.st ft (by decide)) (by decide), k + 1, S', L' + 1, dpl b (n - (L' + 1)) R', by rw [dgo_one, m, cp, dstp_pop rfl], ⟨by rw [e5, e4]; exact q1, by rw [e5, sti_o (by decide)]; exact v35, fun y r hy => ?_⟩, by omega⟩
      rw [e5, sti_if]
      unfold dpl at hy
      by_cases z : y = b
      · rw [if_pos z] at hy ⊢
        rw [v35, ← Option.some.inj hy]
        omega
      · rw [if_neg z] at hy ⊢
        rw [e4, sti_o (by decide)]
        exact q3 y r hy
    · rw [fa_le, t32, g1] at c
      have ev : e.toNatClampNeg < V.1 := by omega
      obtain ⟨h27, h28, h30⟩ := g2 _ ev
      have pe := p3 _ ev
      have yn := (hE.2 _ ev).2
      have ex : (e + 1).toInt = e.toInt + 1 := i1 (by have := tI_rng (σ.1 32 0); omega)
      have ce1 : (e + 1).toNatClampNeg = e.toNatClampNeg + 1 := by
        have := clamp_I (x := e + 1) (by omega)
        omega
      refine pc_ix (fun _ => ?_)
      rw [ft.1 27 (by decide)]
      refine pc_lt fun v6 e6 => ?_
      -- the next edge
      refine pc_jnI1 (fun u => FR [33, 35] [2] σ u ∧ ∃ k S' L' R', dgo V J fE n k ((b, fE b) :: K, dmk b S, L, R) = ((b, cpo fE b (e.toNatClampNeg + 1)) :: K, S', L', R') ∧ DSM n u S' L' R' ∧ L' + K.length + 1 ≤ fb_ct S' n) (fun u Ju => ?_) (fun k67 hk67 => ?_)
      · refine pc_lt fun x8 e8 => ?_
        subst e8
        exact ih (e + 1) u ⟨by omega, by omega, Ju.1, by rw [ce1]; exact Ju.2⟩
      · refine pc_ite (fun c2 => ?_) (fun c2 => ?_)
        · rw [fa_eq, e6, h27, hx] at c2
          have ab : gA V e.toNatClampNeg = b := by omega
          have lo : fE b ≤ e.toNatClampNeg := pe.1.mpr (by omega)
          have hi : e.toNatClampNeg < fE (b + 1) := by
            by_cases z : fE (b + 1) ≤ e.toNatClampNeg
            · have := pe.2.mp z; omega
            · omega
          have cp : cpo fE b e.toNatClampNeg = e.toNatClampNeg := by
            unfold cpo
            by_cases q : e.toNatClampNeg ≤ fE b
            · rw [if_pos q]; omega
            · rw [if_neg q, if_pos (by omega)]
          have cp1 : cpo fE b (e.toNatClampNeg + 1) = e.toNatClampNeg + 1 := by
            unfold cpo
            rw [if_neg (by omega), if_pos (by omega)]
          rw [cp] at m
          have old : ¬ (J e.toNatClampNeg = false ∧ S' (gB V e.toNatClampNeg) = false) → PC (k67 t) (fun s' => FR [33, 35] [2] σ s' ∧ ∃ k S' L' R', dgo V J fE n k ((b, fE b) :: K, dmk b S, L, R) = (K, S', L', R') ∧ DSM n s' S' L' R' ∧ L' + K.length ≤ fb_ct S' n) := fun z => hk67 t ⟨ft, k + 1, S', L', R', by rw [dgo_one, m, dstp_old (by omega) z, cp1], D, hC'⟩
          refine pc_ix (fun _ => ?_)
          rw [ft.1 30 (by decide)]
          refine pc_lt fun v10 e10 => ?_
          refine pc_ite (fun c3 => ?_) (fun c3 => ?_)
          · rw [fa_eq, k_0, e10] at c3
            have je := h30.mpr c3
            refine pc_ix (fun _ => ?_)
            rw [ft.1 28 (by decide)]
            refine pc_lt fun v12 e12 => ?_
            have c12 : v12.toNatClampNeg = gB V e.toNatClampNeg := by
              have := clamp_I (x := v12) (by rw [e12, h28]; omega)
              rw [e12] at this ⊢
              omega
            refine pc_calp (t_hasM (x := t.2 2 0) (v := v12) (by rw [e12, h28]; omega) (by rw [e12, h28]; omega)) (fun v13 h13 => ?_)
            rw [c12, D.1] at h13
            refine pc_ite (fun c4 => ?_) (fun c4 => ?_)
            · have sy := h13.mp c4
              refine pc_ix (fun _ => ?_)
              refine pc_lt fun v15 e15 => ?_
              have IH := m_leaves hE ⟨g1, gn, g2⟩ d v15 t (gB V e.toNatClampNeg) S' L' R' ((b, e.toNatClampNeg + 1) :: K) (by rw [e15]; exact h28) yn ft D sy (by rw [dmk_ct yn sy, List.length_cons]; omega)
              refine pc_cals IH (fun s16 w => ?_)
              obtain ⟨w1, k2, S2, L2, R2, w2, w3, w4⟩ := w
              rw [List.length_cons] at w4
              refine hk67 s16 ⟨w1, k + 1 + k2, S2, L2, R2, ?_, w3, by omega⟩
              rw [dgo_add, dgo_one, m, dstp_new (by omega) ⟨je, sy⟩, cp1]
              exact w2
            · exact old (fun z => c4 (h13.mpr z.2))
          · rw [fa_eq, k_0, e10] at c3
            exact old (fun z => c3 (h30.mp z.1))
        · rw [fa_eq, e6, h27, hx] at c2
          have ab : gA V e.toNatClampNeg ≠ b := by omega
          have cp : cpo fE b (e.toNatClampNeg + 1) = cpo fE b e.toNatClampNeg := by
            unfold cpo
            by_cases q : fE b ≤ e.toNatClampNeg
            · have q2 : fE (b + 1) ≤ e.toNatClampNeg := pe.2.mpr (by have := pe.1.mp q; omega)
              rw [if_neg (by omega)]
              by_cases q3 : e.toNatClampNeg + 1 ≤ fE (b + 1)
              · omega
              · rw [if_neg q3]
                by_cases q4 : e.toNatClampNeg ≤ fE b
                · rw [if_pos q4]; omega
                · rw [if_neg q4]
                  by_cases q5 : e.toNatClampNeg ≤ fE (b + 1)
                  · rw [if_pos q5]; omega
                  · rw [if_neg q5]
            · rw [if_pos (by omega), if_pos (by omega)]
          refine hk67 t ⟨ft, k, S', L', R', ?_, D, hC'⟩
          rw [cp]; exact m
theorem m_order (hE : PFE V n fE) (hg : EGM σ V J n) (hn : 0 < n) (h26 : (σ.1 26 0).toInt = (n : Int)) : PC (f_X12_laysOrder σ) (fun s => FR [33, 35] [2] σ s ∧ ∃ k S L R, dgo V J fE n k (dbeg fE) = ([], S, L, R) ∧ ∀ b r, R b = some r → (s.1 33 b).toInt = (r : Int)) := by
  have k_0 : (0 : Int32).toInt = 0 := by decide +kernel
  unfold f_X12_laysOrder
  refine pc_lt fun s1 e1 => ?_
  refine pc_lt fun s2 e2 => ?_
  have f2 : FR [33, 35] [2] σ s2 := by rw [e2, e1]; exact FR.st (FR.stl FR.rf (by decide)) (by decide)
  have D2 : DSM n s2 (fun _ => false) 0 (fun _ => none) := by
    refine ⟨?_, ?_, fun b r h => absurd h (by simp)⟩
    · rw [e2]
      show bL (s1.2 2 0) = _
      rw [e1, stl_s]
      funext i
      exact bL_0 i
    · rw [e2, sti_s, e1]
      show (σ.1 26 0).toInt = _
      rw [h26]; omega
  refine pc_cals (m_leaves hE hg 250 0 s2 0 (fun _ => false) 0 (fun _ => none) [] k_0 hn f2 D2 rfl (by
    rw [dmk_ct hn rfl]
    show 0 + 0 + 1 ≤ _
    omega)) (fun s3 w => ?_)
  obtain ⟨w1, k, S, L, R, w2, w3, w4⟩ := w
  exact pc_ret ⟨w1, k, S, L, R, w2, w3.2.2⟩
end
