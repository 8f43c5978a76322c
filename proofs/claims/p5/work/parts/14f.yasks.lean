theorem bL_ext {x y : Int64} (h : ∀ i, bL x i = bL y i) : x = y := by
  have : x.toBitVec = y.toBitVec := BitVec.eq_of_getLsbD_eq (fun i _ => h i)
  exact Int64.toBitVec_inj.mp this
theorem s_told {s : Sto} {x : Int32} (hB : BM s) : OK (f_X12_told x s) (fun _ => True) := by
  have k_0 : (0 : Int32).toInt = 0 := by decide +kernel
  have g := gM_66 hB 0
  unfold f_X12_told
  refine ok_ite (fun _ => ok_ret trivial) (fun _ => ?_)
  refine ok_calp s_isIn (fun v2 q => ?_)
  rw [Int32.toInt_toInt64, Int32.toInt_toInt64, i64_0, i32_m1 g.1] at q
  refine ok_ite (fun _ => ok_ret trivial) (fun c => ?_)
  rw [fa_eq, k_0] at c
  have xb := q.2.mp c
  exact ok_ix (by omega) (ok_lt fun v4 _ => ok_ret trivial)
theorem s_statement {σ τ : Sto} {x1 x2 x3 : Int32} (h : GR τ σ) : OK (f_X12_statement x1 x2 x3 σ) (fun r => GR τ r.2) := by
  have k_0 : (0 : Int32).toInt = 0 := by decide +kernel
  have k_m1 : ((-1) : Int32).toInt = -1 := by decide +kernel
  unfold f_X12_statement
  refine ok_lt fun s1 e1 => ?_
  have f1 : FR [0] [] σ s1 := by rw [e1]; exact FR.st FR.rf (by decide)
  have B1 : BM s1 := by rw [e1]; exact pM_0 h.1 (by omega)
  have G1 : GR τ s1 := h.fr B1 f1 rfl rfl
  have nb := nB_le B1
  refine ok_calp (s_isBlock G1) (fun v2 q => ?_)
  refine ok_ite (fun _ => ok_ret G1) (fun c1 => ?_)
  rw [fa_eq, k_0] at c1
  obtain ⟨L, a0, a1⟩ := q.2 c1
  have ca := clamp_I a0
  have ex : (x1 + 1).toInt = x1.toInt + 1 := i1 (by omega)
  have cx := clamp_I (x := x1 + 1) (by omega)
  have nx : (x1 + 1).toNatClampNeg = x1.toNatClampNeg + 1 := by omega
  have S := L.2.2.2.2.2.2.2.2.2.1
  obtain ⟨b1, b2, b3, _⟩ := S.2.2.2.1 _ a1
  have g47 := gM_47 B1 0
  refine ok_ix (by omega) ?_
  refine ok_lt fun v4 e4 => ?_
  rw [nx] at e4
  refine ok_ix (by omega) ?_
  refine ok_lt fun v5 e5 => ?_
  refine ok_calp s_isIn (fun v6 r => ?_)
  have d1 : (v4 - v5).toInt = v4.toInt - v5.toInt := fb_subI (by rw [e4, e5]; omega) (by rw [e4, e5]; omega)
  have d2 : (v4 - v5 - 1).toInt = v4.toInt - v5.toInt - 1 := by rw [i32_m1 (by rw [d1, e4, e5]; omega), d1]
  rw [Int32.toInt_toInt64, Int32.toInt_toInt64, i64_0, d2, e4, e5] at r
  refine ok_ite (fun _ => ok_ret G1) (fun c2 => ?_)
  rw [fa_eq, k_0] at c2
  have xb := r.2.mp c2
  refine ok_calp s_isIn (fun v8 _ => ?_)
  refine ok_ite (fun _ => ok_ret G1) (fun _ => ?_)
  refine ok_ix (by omega) ?_
  refine ok_lt fun v10 e10 => ?_
  refine ok_lt fun x11 e11 => ?_
  have ev : x11.toInt = (s1.1 45 x1.toNatClampNeg).toInt + x2.toInt := by rw [e11, e10]; exact fb_addI (by omega) (by omega)
  have ci := clamp_I (x := x11) (by omega)
  have xi : 0 ≤ x11.toInt ∧ x11.toInt < 400 := by omega
  refine ok_ix xi ?_
  refine ok_lt fun v12 e12 => ?_
  refine ok_ite (fun _ => ok_ix xi (ok_lt fun v14 _ => ok_ret G1)) (fun _ => ?_)
  refine ok_ite (fun _ => ok_ix xi (ok_lt fun v14 _ => ok_ret G1)) (fun _ => ?_)
  refine ok_ite (fun _ => ok_ret G1) (fun c3 => ?_)
  rw [fa_eq, k_m1, e12] at c3
  refine ok_lt fun s18 e18 => ?_
  have B18 : BM s18 := by rw [e18]; exact pM_66 B1 (by omega)
  have f18 : FR [66] [] s1 s18 := by rw [e18]; exact FR.st FR.rf (by decide)
  have z18 : (s18.1 66 0).toInt = 0 := by rw [e18, sti_if, if_pos rfl]; exact k_0
  have W := S.1 x11.toNatClampNeg (by omega)
  have k6 : (s1.1 42 x11.toNatClampNeg).toInt ≠ 6 := fun z => c3 (W.2.2.2.2 z)
  obtain ⟨w1, w2⟩ := W.2.2.2.1 k6
  have w3 : TZ (s18.1 38) (s18.1 39) (s18.1 40) (s18.1 41 0).toInt 250 60 v12.toNatClampNeg := by
    rw [f18.1 38 (by decide), f18.1 39 (by decide), f18.1 40 (by decide), f18.1 41 (by decide), e12]
    exact w2.up (by decide) (Nat.le_refl _)
  refine ok_cals (sd_spells 250 60 v12 s18 B18 (by rw [e12]; exact w1) w3 (by omega)) (fun s19 t => ?_)
  have f19 : FR [65, 66] [] s1 s19 := FR.cal (FR.cal FR.rf f18 rfl rfl) t.2.1 rfl rfl
  have G19 : GR τ s19 := G1.fr t.1 f19 rfl rfl
  have w4 : TZ (s19.1 38) (s19.1 39) (s19.1 40) (s19.1 41 0).toInt 250 60 v12.toNatClampNeg := by
    rw [f19.1 38 (by decide), f19.1 39 (by decide), f19.1 40 (by decide), f19.1 41 (by decide), e12]
    exact w2.up (by decide) (Nat.le_refl _)
  refine ok_ite (fun _ => ok_ret G19) (fun _ => ?_)
  refine ok_ite (fun _ => ?_) (fun _ => ?_)
  · refine ok_calp (sd_hasEffects t.1 250 60 v12 (by rw [e12]; exact w1) w4) (fun v22 _ => ?_)
    exact ok_ite (fun _ => ok_ret G19) (fun _ => ok_ret G19)
  · exact ok_calp (sd_within t.1 250 60 v12 (by rw [e12]; exact w1) w4) (fun v24 _ => ok_ret G19)
theorem s_condition {σ τ : Sto} {x1 x2 : Int32} (h : GR τ σ) : OK (f_X12_condition x1 x2 σ) (fun r => GR τ r.2) := by
  have k_0 : (0 : Int32).toInt = 0 := by decide +kernel
  have k_m1 : ((-1) : Int32).toInt = -1 := by decide +kernel
  unfold f_X12_condition
  refine ok_lt fun s1 e1 => ?_
  have f1 : FR [0] [] σ s1 := by rw [e1]; exact FR.st FR.rf (by decide)
  have B1 : BM s1 := by rw [e1]; exact pM_0 h.1 (by omega)
  have G1 : GR τ s1 := h.fr B1 f1 rfl rfl
  have nb := nB_le B1
  refine ok_calp (s_isBlock G1) (fun v2 q => ?_)
  refine ok_ite (fun _ => ok_ret G1) (fun c1 => ?_)
  rw [fa_eq, k_0] at c1
  obtain ⟨L, a0, a1⟩ := q.2 c1
  have ca := clamp_I a0
  have S := L.2.2.2.2.2.2.2.2.2.1
  have C := S.2.2.2.2.1 _ a1
  refine ok_ix (by omega) ?_
  refine ok_lt fun v4 e4 => ?_
  refine ok_ite (fun _ => ok_ret G1) (fun c2 => ?_)
  rw [fa_eq, k_m1, e4] at c2
  obtain ⟨w1, w2⟩ := C.resolve_left c2
  refine ok_lt fun s6 e6 => ?_
  have B6 : BM s6 := by rw [e6]; exact pM_66 B1 (by omega)
  have f6 : FR [66] [] s1 s6 := by rw [e6]; exact FR.st FR.rf (by decide)
  have z6 : (s6.1 66 0).toInt = 0 := by rw [e6, sti_if, if_pos rfl]; exact k_0
  refine ok_ix (by omega) ?_
  refine ok_lt fun v7 e7 => ?_
  rw [f6.1 46 (by decide)] at e7
  have w3 : TZ (s6.1 38) (s6.1 39) (s6.1 40) (s6.1 41 0).toInt 250 60 v7.toNatClampNeg := by
    rw [f6.1 38 (by decide), f6.1 39 (by decide), f6.1 40 (by decide), f6.1 41 (by decide), e7]
    exact w2.up (by decide) (Nat.le_refl _)
  refine ok_cals (sd_spells 250 60 v7 s6 B6 (by rw [e7]; exact w1) w3 (by omega)) (fun s8 t => ?_)
  have f8 : FR [65, 66] [] s1 s8 := FR.cal (FR.cal FR.rf f6 rfl rfl) t.2.1 rfl rfl
  have G8 : GR τ s8 := G1.fr t.1 f8 rfl rfl
  exact ok_calp (s_told t.1) (fun v9 _ => ok_ret G8)
theorem s_isLine {σ τ : Sto} {x1 : Int32} (h : GR τ σ) : OK (f_X12_isLine x1 σ) (fun v => (v.toInt = 0 ∨ v.toInt = 1) ∧ (v.toInt ≠ 0 → LAID σ ∧ (σ.1 36 0).toInt ≠ -1 ∧ 0 ≤ x1.toInt ∧ x1.toNatClampNeg < nL σ)) := by
  have k_0 : (0 : Int32).toInt = 0 := by decide +kernel
  have k_1 : (1 : Int32).toInt = 1 := by decide +kernel
  have k_m1 : ((-1) : Int32).toInt = -1 := by decide +kernel
  have g := gM_62 h.1 0
  unfold f_X12_isLine
  refine ok_jnI0 True (fun _ => ok_ret ⟨Or.inl k_0, fun z => absurd k_0 z⟩) (fun k hk => ?_)
  refine ok_ite (fun _ => hk trivial) (fun c1 => ?_)
  rw [fa_eq, k_0] at c1
  have L := h.2.1.resolve_left c1
  refine ok_ite (fun _ => hk trivial) (fun c2 => ?_)
  rw [fa_eq, k_m1] at c2
  refine ok_calp s_isIn (fun v3 q => ?_)
  rw [Int32.toInt_toInt64, Int32.toInt_toInt64, i64_0, i32_m1 g.1] at q
  refine ok_ite (fun _ => hk trivial) (fun c3 => ?_)
  rw [fa_eq, k_0] at c3
  have xb := q.2.mp c3
  have cx := clamp_I xb.1
  exact ok_ret ⟨Or.inr k_1, fun _ => ⟨L, c2, xb.1, by unfold nL; omega⟩⟩
theorem s_line_ {σ τ : Sto} {x1 x2 : Int32} (h : GR τ σ) : OK (f_X12_line_ x1 x2 σ) (fun r => GR τ r.2) := by
  have k_0 : (0 : Int32).toInt = 0 := by decide +kernel
  unfold f_X12_line_
  refine ok_lt fun s1 e1 => ?_
  have f1 : FR [0] [] σ s1 := by rw [e1]; exact FR.st FR.rf (by decide)
  have B1 : BM s1 := by rw [e1]; exact pM_0 h.1 (by omega)
  have G1 : GR τ s1 := h.fr B1 f1 rfl rfl
  have nl := nL_le B1
  have g62 := gM_62 B1 0
  refine ok_calp (s_isLine G1) (fun v2 q => ?_)
  refine ok_ite (fun _ => ok_ret G1) (fun c1 => ?_)
  rw [fa_eq, k_0] at c1
  obtain ⟨_, _, a0, a1⟩ := q.2 c1
  have ca := clamp_I a0
  have xi : 0 ≤ x1.toInt ∧ x1.toInt < 1400 := by omega
  refine ok_calp s_isIn (fun v4 _ => ?_)
  refine ok_ite (fun _ => ok_ret G1) (fun _ => ?_)
  refine ok_ite (fun _ => ok_ix xi (ok_lt fun v _ => ok_ret G1)) (fun _ => ?_)
  exact ok_ite (fun _ => ok_ix xi (ok_lt fun v _ => ok_ret G1)) (fun _ => ok_ix xi (ok_lt fun v _ => ok_ret G1))
theorem s_spellsStatement {s : Sto} {x : Int32} (hB : BM s) (hx : 0 ≤ x.toInt) (hn : x.toInt < (s.1 47 0).toInt) (W : W1 s x.toNatClampNeg) (h : (s.1 66 0).toInt + 300 ≤ 2000) : OK (f_X12_spellsStatement x s) (fun t => WRT 300 s t) := by
  have k_3 : (3 : Int32).toInt = 3 := by decide +kernel
  have k_m1 : ((-1) : Int32).toInt = -1 := by decide +kernel
  have g47 := gM_47 hB 0
  have g43 := gM_43 hB x.toNatClampNeg
  have xi : 0 ≤ x.toInt ∧ x.toInt < 400 := by omega
  unfold f_X12_spellsStatement
  refine ok_ix xi ?_
  refine ok_lt fun v1 e1 => ?_
  subst e1
  refine ok_jnI1 (fun t => WRT 9 s t) (fun u hu => ?_) (fun k hk => ?_)
  · have au := hu.2.2
    refine ok_ix xi ?_
    refine ok_lt fun v3 e3 => ?_
    refine ok_jnI1 (fun t => WRT 10 s t) (fun w hw => ?_) (fun k hk => ?_)
    · have aw := hw.2.2
      refine ok_ix xi ?_
      refine ok_lt fun v5 e5 => ?_
      rw [hw.2.1.1 44 (by decide)] at e5
      refine ok_jnI1 (fun t => WRT 250 s t) (fun y hy => ?_) (fun k hk => ?_)
      · have ay := hy.2.2
        refine ok_cals (s_writes (by decide +kernel) hy.1 (by omega)) (fun s7 q => ok_ret (hy.tr q (by omega)))
      · refine ok_ite (fun _ => hk w (hw.up (by omega))) (fun c => ?_)
        rw [fa_eq, k_m1, e5] at c
        have k6 : (s.1 42 x.toNatClampNeg).toInt ≠ 6 := fun z => c (W.2.2.2.2 z)
        obtain ⟨w1, w2⟩ := W.2.2.2.1 k6
        refine ok_ix xi ?_
        refine ok_lt fun v9 e9 => ?_
        rw [hw.2.1.1 44 (by decide)] at e9
        have w3 : TZ (w.1 38) (w.1 39) (w.1 40) (w.1 41 0).toInt 250 60 v9.toNatClampNeg := by
          rw [hw.2.1.1 38 (by decide), hw.2.1.1 39 (by decide), hw.2.1.1 40 (by decide), hw.2.1.1 41 (by decide), e9]
          exact w2.up (by decide) (Nat.le_refl _)
        exact ok_cals (sd_spells 250 60 v9 w hw.1 (by rw [e9]; exact w1) w3 (by omega)) (fun s10 q => hk s10 (hw.tr q (by omega)))
    · refine ok_ite (fun _ => hk u (hu.up (by omega))) (fun _ => ?_)
      exact ok_cals (s_writes (by decide +kernel) hu.1 (by omega)) (fun s12 q => hk s12 (hu.tr q (by omega)))
  · refine ok_ite (fun c0 => ?_) (fun _ => ?_)
    · refine ok_ix xi ?_
      refine ok_lt fun v14 e14 => ?_
      have w0 := W.1 c0
      have k_97 : (97 : Int32).toInt = 97 := by decide +kernel
      have r97 : ((97 : Int32) + v14).toInt = 97 + v14.toInt := by rw [e14, fb_addI (by rw [k_97]; omega) (by rw [k_97]; omega), k_97]
      exact ok_cals (s_writes (by rw [r97, e14]; omega) hB (by omega)) (fun s15 q => hk s15 (q.up (by omega)))
    refine ok_ite (fun c0 => ?_) (fun _ => ?_)
    · refine ok_ix xi ?_
      refine ok_lt fun v14 e14 => ?_
      have w0 := W.2.1 c0
      exact ok_cals (s_writesName (by decide +kernel) hB (by rw [e14]; omega) (by omega)) (fun s15 q => hk s15 (q.up (by omega)))
    refine ok_ite (fun c0 => ?_) (fun _ => ?_)
    · refine ok_ix xi ?_
      refine ok_lt fun v14 e14 => ?_
      have w0 := W.2.2.1 c0
      exact ok_cals (s_writesName (by decide +kernel) hB (by rw [e14]; omega) (by omega)) (fun s15 q => hk s15 (q.up (by omega)))
    refine ok_ite (fun _ => ok_cals (s_word_111 hB (by omega)) (fun s15 q => hk s15 q)) (fun _ => ?_)
    refine ok_ite (fun _ => ok_cals (s_word_112 hB (by omega)) (fun s15 q => hk s15 q)) (fun _ => ?_)
    refine ok_ite (fun _ => ok_cals (s_word_113 hB (by omega)) (fun s15 q => hk s15 q)) (fun _ => ?_)
    exact hk s ((WRT.rf hB).up (by omega))
theorem s_spellsLine {s : Sto} {x : Int32} (L : LAID s) (hj : (s.1 36 0).toInt ≠ -1) (x0 : 0 ≤ x.toInt) (xn : x.toNatClampNeg < nL s) : OK (f_X12_spellsLine x s) (fun t => BM t ∧ FR [65, 66] [] s t) := by
  have k_0 : (0 : Int32).toInt = 0 := by decide +kernel
  have hB := L.1
  have cx := clamp_I x0
  have nl := nL_le hB
  have g62 := gM_62 hB 0
  have xi : 0 ≤ x.toInt ∧ x.toInt < 1400 := by omega
  have lo := (L.runl hj).2.2 _ xn
  have S := L.2.2.2.2.2.2.2.2.2.1
  unfold f_X12_spellsLine
  refine ok_lt fun s1 e1 => ?_
  have B1 : BM s1 := by rw [e1]; exact pM_66 hB (by omega)
  have f1 : FR [65, 66] [] s s1 := by rw [e1]; exact FR.st FR.rf (by decide)
  have z1 : (s1.1 66 0).toInt = 0 := by rw [e1, sti_if, if_pos rfl]; exact k_0
  have en : ∀ {n : Int} {u : Sto}, WRT n s1 u → OK (some u) (fun t => BM t ∧ FR [65, 66] [] s t) := fun q => ok_ret ⟨q.1, FR.cal f1 q.2.1 rfl rfl⟩
  have g59 := gM_59 hB x.toNatClampNeg
  refine ok_ix xi ?_
  refine ok_lt fun v2 e2 => ?_
  rw [f1.1 59 (by decide)] at e2
  refine ok_ix xi ?_
  refine ok_lt fun v3 e3 => ?_
  rw [f1.1 58 (by decide)] at e3
  subst e3
  have v9 : 0 ≤ v2.toInt ∧ v2.toInt ≤ 999 := by rw [e2]; omega
  refine ok_ite (fun c => ?_) (fun _ => ?_)
  · refine ok_ix xi ?_
    refine ok_lt fun v5 e5 => ?_
    rw [f1.1 61 (by decide)] at e5
    have l0 := lo.1 c
    have l1 : 0 ≤ v5.toInt ∧ v5.toInt < (s.1 47 0).toInt := by rw [e5]; exact l0
    have c5 := clamp_I l1.1
    have W := S.1 v5.toNatClampNeg (by omega)
    have W' : W1 s1 v5.toNatClampNeg := by
      unfold W1 TT at W ⊢
      rw [f1.1 42 (by decide), f1.1 43 (by decide), f1.1 44 (by decide), f1.1 38 (by decide), f1.1 39 (by decide), f1.1 40 (by decide), f1.1 41 (by decide)]
      exact W
    exact ok_cals (s_spellsStatement B1 l1.1 (by rw [f1.1 47 (by decide)]; exact l1.2) W' (by omega)) (fun s6 q => en q)
  refine ok_ite (fun _ => ok_cals (s_sblk_114 B1 v9 (by decide +kernel) (by omega)) (fun s7 q => en q)) (fun _ => ?_)
  refine ok_ite (fun _ => ok_cals (s_sblk_115 B1 v9 (by decide +kernel) (by omega)) (fun s7 q => en q)) (fun _ => ?_)
  refine ok_ite (fun c => ?_) (fun _ => ?_)
  · obtain ⟨b, b1, b2, b3⟩ := lo.2 c
    have nb := nB_le hB
    have bv : v2.toInt = b := by rw [e2]; exact b1
    have cv := clamp_I (x := v2) (by omega)
    have vb : v2.toNatClampNeg = b := by omega
    refine ok_cals (s_word_116 B1 (by omega)) (fun s9 q => ?_)
    have aq := q.2.2
    have f9 : FR [65, 66] [] s s9 := FR.cal f1 q.2.1 rfl rfl
    refine ok_ix (by omega) ?_
    refine ok_lt fun v10 e10 => ?_
    rw [f9.1 46 (by decide), vb] at e10
    obtain ⟨w1, w2⟩ := (S.2.2.2.2.1 b b2).resolve_left (S.2.2.2.2.2 b b2 b3)
    have w3 : TZ (s9.1 38) (s9.1 39) (s9.1 40) (s9.1 41 0).toInt 250 60 v10.toNatClampNeg := by
      rw [f9.1 38 (by decide), f9.1 39 (by decide), f9.1 40 (by decide), f9.1 41 (by decide), e10]
      exact w2.up (by decide) (Nat.le_refl _)
    refine ok_cals (sd_spells 250 60 v10 s9 q.1 (by rw [e10]; exact w1) w3 (by omega)) (fun s11 r => ?_)
    have ar := r.2.2
    refine ok_cals (s_writes (by decide +kernel) r.1 (by omega)) (fun s12 t => ?_)
    exact en (WRT.tr (k := 1000) (WRT.tr (k := 900) q r (by omega)) t (by omega))
  refine ok_ite (fun _ => ok_cals (s_word_117 B1 (by omega)) (fun s7 q => en q)) (fun _ => ?_)
  refine ok_ite (fun _ => ok_cals (s_writes (by decide +kernel) B1 (by omega)) (fun s7 q => en q)) (fun _ => ?_)
  refine ok_ite (fun _ => ok_cals (s_sblk_118 B1 v9 (by decide +kernel) (by omega)) (fun s7 q => en q)) (fun _ => ?_)
  refine ok_ite (fun _ => ok_cals (s_sblk_119 B1 v9 (by decide +kernel) (by omega)) (fun s7 q => en q)) (fun _ => ?_)
  refine ok_ite (fun _ => ok_cals (s_sblk_120 B1 v9 (by decide +kernel) (by omega)) (fun s7 q => en q)) (fun _ => ?_)
  refine ok_ite (fun _ => ok_cals (s_word_121 B1 (by omega)) (fun s7 q => en q)) (fun _ => ?_)
  refine ok_ite (fun _ => ok_cals (s_sblk_122 B1 v9 (by decide +kernel) (by omega)) (fun s7 q => en q)) (fun _ => ?_)
  exact ok_cals (s_sblk_123 B1 v9 (by decide +kernel) (by omega)) (fun s7 q => en q)
theorem s_spell {σ τ : Sto} {x1 x2 : Int32} (h : GR τ σ) : OK (f_X12_spell x1 x2 σ) (fun r => GR τ r.2) := by
  have k_0 : (0 : Int32).toInt = 0 := by decide +kernel
  unfold f_X12_spell
  refine ok_lt fun s1 e1 => ?_
  have f1 : FR [0] [] σ s1 := by rw [e1]; exact FR.st FR.rf (by decide)
  have B1 : BM s1 := by rw [e1]; exact pM_0 h.1 (by omega)
  have G1 : GR τ s1 := h.fr B1 f1 rfl rfl
  refine ok_calp (s_isLine G1) (fun v2 q => ?_)
  refine ok_ite (fun _ => ok_ret G1) (fun c1 => ?_)
  rw [fa_eq, k_0] at c1
  obtain ⟨L, hj, a0, a1⟩ := q.2 c1
  refine ok_cals (s_spellsLine L hj a0 a1) (fun s4 t => ?_)
  have G4 : GR τ s4 := G1.fr t.1 t.2 rfl rfl
  exact ok_calp (s_told t.1) (fun v5 _ => ok_ret G4)
theorem s_type {σ τ : Sto} {x1 x2 : Int32} (h : GR τ σ) : OK (f_X12_type x1 x2 σ) (fun r => GR τ r.2) := by
  have k_0 : (0 : Int32).toInt = 0 := by decide +kernel
  have k_1 : (1 : Int32).toInt = 1 := by decide +kernel
  have k_6 : (6 : Int32).toInt = 6 := by decide +kernel
  unfold f_X12_type
  refine ok_lt fun s1 e1 => ?_
  have f1 : FR [0] [] σ s1 := by rw [e1]; exact FR.st FR.rf (by decide)
  have B1 : BM s1 := by rw [e1]; exact pM_0 h.1 (by omega)
  have G1 : GR τ s1 := h.fr B1 f1 rfl rfl
  have g51 := gM_51 B1 0
  have g48 := gM_48 B1 0
  refine ok_ite (fun _ => ok_ret G1) (fun _ => ?_)
  refine ok_calp s_isIn (fun v3 _ => ?_)
  refine ok_ite (fun _ => ok_ret G1) (fun _ => ?_)
  refine ok_jnI1 (fun t => 0 ≤ t.toInt ∧ (x1.toInt = 0 → t.toInt ≤ 6) ∧ (x1.toInt ≠ 0 → x1.toInt = 1 → t.toInt ≤ 8) ∧ t.toInt ≤ 400) (fun t ht => ?_) (fun k hk => ?_)
  · obtain ⟨t0, t6, t8, t4⟩ := ht
    refine ok_calp s_isIn (fun v6 q => ?_)
    rw [Int32.toInt_toInt64, Int32.toInt_toInt64, i64_0, i32_m1 t0] at q
    refine ok_ite (fun _ => ok_ret G1) (fun c => ?_)
    rw [fa_eq, k_0] at c
    have xb := q.2.mp c
    refine ok_jnI0 True (fun _ => ok_ret G1) (fun k1 hk1 => ?_)
    refine ok_jnI0 True (fun _ => ok_ret G1) (fun k2 hk2 => ?_)
    refine ok_ite (fun c2 => ?_) (fun c2 => ?_)
    · rw [fa_eq, k_0] at c2
      have := t6 c2
      exact ok_ix (by omega) (ok_lt fun v _ => ok_ite (fun _ => hk1 trivial) (fun _ => hk2 trivial))
    · rw [fa_eq, k_0] at c2
      refine ok_ite (fun c3 => ?_) (fun c3 => ?_)
      · rw [fa_eq, k_1] at c3
        have := t8 c2 c3
        exact ok_ix (by omega) (ok_lt fun v _ => ok_ite (fun _ => hk1 trivial) (fun _ => hk2 trivial))
      · exact ok_ix (by omega) (ok_lt fun v _ => ok_ite (fun _ => hk1 trivial) (fun _ => hk2 trivial))
  · refine ok_ite (fun c2 => ?_) (fun c2 => ?_)
    · rw [fa_eq, k_0] at c2
      exact hk 6 ⟨by omega, fun _ => by omega, fun z => absurd c2 z, by omega⟩
    · rw [fa_eq, k_0] at c2
      refine ok_ite (fun c3 => ?_) (fun c3 => ?_)
      · exact hk _ ⟨g51.1, fun z => absurd z c2, fun _ _ => g51.2, by omega⟩
      · rw [fa_eq, k_1] at c3
        exact hk _ ⟨g48.1, fun z => absurd z c2, fun _ z => absurd z c3, g48.2⟩
