theorem s_isTruth {σ : Sto} {x1 : Int32} {z : Nat} (hB : BM σ) (h0 : 0 ≤ x1.toInt) (ht : TT σ z x1.toNatClampNeg) : OK (f_X12_isTruth x1 σ) (fun v => 0 ≤ v.toInt ∧ v.toInt ≤ 1) := by
  have k_0 : (0 : Int32).toInt = 0 := by decide +kernel
  have k_1 : (1 : Int32).toInt = 1 := by decide +kernel
  have hl := idx h0 ht.lt
  have g41 := gM_41 hB 0
  have hi : 0 ≤ x1.toInt ∧ x1.toInt < 6000 := ⟨h0, by omega⟩
  have g39 := gM_39 hB x1.toNatClampNeg
  have leaf : (σ.1 38 x1.toNatClampNeg).toInt ≤ 4 → LFB (σ.1 38 x1.toNatClampNeg).toInt (σ.1 39 x1.toNatClampNeg).toInt := fun hk => by
    obtain ⟨-, -, h3⟩ := ht.leaf hk
    rcases h3 with ⟨-, q⟩ | ⟨q, -⟩ | ⟨q, -⟩
    · exact q
    · omega
    · omega
  have r0 : OK (some (0 : Int32)) (fun v => 0 ≤ v.toInt ∧ v.toInt ≤ 1) := ok_ret (by omega)
  have r1 : OK (some (1 : Int32)) (fun v => 0 ≤ v.toInt ∧ v.toInt ≤ 1) := ok_ret (by omega)
  unfold f_X12_isTruth
  refine ok_ix hi ?_
  refine ok_lt fun v1 e1 => ?_
  subst e1
  refine ok_ite (fun c0 => ?_) (fun c0 => ?_)
  · refine ok_ix hi ?_
    refine ok_lt fun v3 e3 => ?_
    exact ok_ite (fun _ => r0) (fun _ => r1)
  refine ok_ite (fun c1 => ?_) (fun c1 => ?_)
  · have l := (leaf (by omega)).2.1 c1
    refine ok_ix hi ?_
    refine ok_lt fun v5 e5 => ?_
    subst e5
    refine ok_ix (by omega) ?_
    refine ok_lt fun v6 e6 => ?_
    have g := gM_52 hB (σ.1 39 x1.toNatClampNeg).toNatClampNeg
    rw [← e6] at g
    exact ok_bz (by rw [fa_eq, fa_eq, k_0, k_1]; omega) (ok_ret g)
  refine ok_ite (fun c2 => ?_) (fun c2 => ?_)
  · have l := (leaf (by omega)).2.2.1 c2
    refine ok_ix hi ?_
    refine ok_lt fun v5 e5 => ?_
    subst e5
    refine ok_ix (by omega) ?_
    refine ok_lt fun v6 e6 => ?_
    have g := gM_53 hB (σ.1 39 x1.toNatClampNeg).toNatClampNeg
    rw [← e6] at g
    exact ok_bz (by rw [fa_eq, fa_eq, k_0, k_1]; omega) (ok_ret g)
  refine ok_ite (fun c3 => ?_) (fun c3 => ?_)
  · have l := (leaf (by omega)).2.2.2 c3
    refine ok_ix hi ?_
    refine ok_lt fun v5 e5 => ?_
    subst e5
    refine ok_ix (by omega) ?_
    refine ok_lt fun v6 e6 => ?_
    have g := gM_54 hB (σ.1 39 x1.toNatClampNeg).toNatClampNeg
    rw [← e6] at g
    exact ok_bz (by rw [fa_eq, fa_eq, k_0, k_1]; omega) (ok_ret g)
  refine ok_ix hi ?_
  refine ok_lt fun v14 e14 => ?_
  refine ok_jn ?_
  refine ok_ite (fun _ => r1) (fun _ => ?_)
  refine ok_ix hi ?_
  refine ok_lt fun v17 e17 => ?_
  refine ok_ite (fun _ => r1) (fun _ => ?_)
  refine ok_ix hi ?_
  refine ok_lt fun v19 e19 => ?_
  exact ok_ite (fun _ => r1) (fun _ => r0)
def tc (σ : Sto) (k n : Nat) : Nat := fb_ct (fun i => decide ((σ.1 k i).toInt ≠ 0)) n
def TV (σ : Sto) : Nat := tc σ 52 6 + tc σ 53 8 + tc σ 54 400
theorem tc_st {σ s : Sto} {k n i : Nat} (e : s = sti σ k i 0) (hi : i < n) (hv : 0 ≤ (σ.1 k i).toInt ∧ (σ.1 k i).toInt ≤ 1) : (tc s k n : Int) + (σ.1 k i).toInt = tc σ k n := by
  have k_0 : (0 : Int32).toInt = 0 := by decide +kernel
  have a : tc s k n = fb_ct (fun j => if j = i then false else decide ((σ.1 k j).toInt ≠ 0)) n := fb_ct_cong (fun j _ => by
    rw [e, sti_if]
    by_cases q : j = i
    · rw [if_pos q, if_pos q, k_0]; rfl
    · rw [if_neg q, if_neg q])
  have b := fb_ct_upd (fun j => decide ((σ.1 k j).toInt ≠ 0)) false hi
  rw [← a] at b
  unfold tc at b ⊢
  by_cases q : (σ.1 k i).toInt = 0
  · rw [if_neg (by simp [q]), if_neg (by decide)] at b; omega
  · rw [if_pos (by simp [q]), if_neg (by decide)] at b; omega
theorem tc_o {σ s : Sto} {k q n i : Nat} {v : Int32} (e : s = sti σ q i v) (h : k ≠ q) : tc s k n = tc σ k n := by
  unfold tc; rw [e, sti_o h]
theorem s_isLess {σ : Sto} {x1 : Int32} (hB : BM σ) (hW : WSt σ) (hx : 0 ≤ x1.toInt ∧ x1.toInt < (σ.1 47 0).toInt) : OK (f_X12_isLess x1 σ) (fun r => (0 ≤ r.1.toInt ∧ r.1.toInt ≤ 1) ∧ BM r.2 ∧ FR [52, 53, 54] [] σ r.2 ∧ (TV r.2 : Int) + r.1.toInt = TV σ) := by
  have k_0 : (0 : Int32).toInt = 0 := by decide +kernel
  have k_1 : (1 : Int32).toInt = 1 := by decide +kernel
  have k_2 : (2 : Int32).toInt = 2 := by decide +kernel
  have g47 := gM_47 hB 0
  have c1 := clamp_I hx.1
  have hi : 0 ≤ x1.toInt ∧ x1.toInt < 400 := by omega
  have w := hW x1.toNatClampNeg (by omega)
  have g42 := gM_42 hB x1.toNatClampNeg
  have g43 := gM_43 hB x1.toNatClampNeg
  have same : OK (some ((0 : Int32), σ)) (fun r => (0 ≤ r.1.toInt ∧ r.1.toInt ≤ 1) ∧ BM r.2 ∧ FR [52, 53, 54] [] σ r.2 ∧ (TV r.2 : Int) + r.1.toInt = TV σ) := ok_ret ⟨by (try dsimp only); omega, hB, FR.rf, by (try dsimp only); omega⟩
  unfold f_X12_isLess
  refine ok_ix hi ?_
  refine ok_lt fun v1 e1 => ?_
  refine ok_ite (fun _ => same) (fun c2 => ?_)
  rw [fa_lt, k_2, e1] at c2
  have w4 := w.2.2.2.1 (by omega)
  refine ok_ix hi ?_
  refine ok_lt fun v3 e3 => ?_
  subst e3
  refine ok_calp (s_isTruth hB w4.1 w4.2) (fun v4 h4 => ?_)
  refine ok_ite (fun _ => ?_) (fun _ => same)
  refine ok_ix hi ?_
  refine ok_lt fun v6 e6 => ?_
  refine ok_ite (fun c3 => ?_) (fun c3 => ?_)
  · rw [fa_eq, k_0, e6] at c3
    have ww := w.1 c3
    have cw := clamp_I ww.1
    refine ok_ix hi ?_
    refine ok_lt fun v8 e8 => ?_
    subst e8
    refine ok_ix (by omega) ?_
    refine ok_lt fun v9 e9 => ?_
    have g := gM_52 hB (σ.1 43 x1.toNatClampNeg).toNatClampNeg
    refine ok_ix hi ?_
    refine ok_lt fun v10 e10 => ?_
    subst e10
    refine ok_ix (by omega) ?_
    refine ok_lt fun s11 e11 => ?_
    refine ok_bz (by rw [fa_eq, fa_eq, k_0, k_1, e9]; omega) ?_
    have t1 := tc_st (n := 6) e11 (by omega) g
    have t2 := tc_o (k := 53) (n := 8) e11 (by decide)
    have t3 := tc_o (k := 54) (n := 400) e11 (by decide)
    exact ok_ret ⟨by rw [e9]; exact g, by rw [e11]; exact pM_52 hB (by omega), by rw [e11]; exact FR.st FR.rf (by decide), by (try dsimp only); unfold TV; rw [e9]; omega⟩
  · rw [fa_eq, k_0, e6] at c3
    refine ok_ix hi ?_
    refine ok_lt fun v13 e13 => ?_
    refine ok_ite (fun c4 => ?_) (fun c4 => ?_)
    · rw [fa_eq, k_1, e13] at c4
      have ww := w.2.1 c4
      have cw := clamp_I ww.1
      refine ok_ix hi ?_
      refine ok_lt fun v8 e8 => ?_
      subst e8
      refine ok_ix (by omega) ?_
      refine ok_lt fun v9 e9 => ?_
      have g := gM_53 hB (σ.1 43 x1.toNatClampNeg).toNatClampNeg
      refine ok_ix hi ?_
      refine ok_lt fun v10 e10 => ?_
      subst e10
      refine ok_ix (by omega) ?_
      refine ok_lt fun s11 e11 => ?_
      refine ok_bz (by rw [fa_eq, fa_eq, k_0, k_1, e9]; omega) ?_
      have t1 := tc_st (n := 8) e11 (by omega) g
      have t2 := tc_o (k := 52) (n := 6) e11 (by decide)
      have t3 := tc_o (k := 54) (n := 400) e11 (by decide)
      exact ok_ret ⟨by rw [e9]; exact g, by rw [e11]; exact pM_53 hB (by omega), by rw [e11]; exact FR.st FR.rf (by decide), by (try dsimp only); unfold TV; rw [e9]; omega⟩
    · rw [fa_eq, k_1, e13] at c4
      have ww := w.2.2.1 (by omega)
      have cw := clamp_I ww
      refine ok_ix hi ?_
      refine ok_lt fun v8 e8 => ?_
      subst e8
      refine ok_ix (by omega) ?_
      refine ok_lt fun v9 e9 => ?_
      have g := gM_54 hB (σ.1 43 x1.toNatClampNeg).toNatClampNeg
      refine ok_ix hi ?_
      refine ok_lt fun v10 e10 => ?_
      subst e10
      refine ok_ix (by omega) ?_
      refine ok_lt fun s11 e11 => ?_
      refine ok_bz (by rw [fa_eq, fa_eq, k_0, k_1, e9]; omega) ?_
      have t1 := tc_st (n := 400) e11 (by omega) g
      have t2 := tc_o (k := 52) (n := 6) e11 (by decide)
      have t3 := tc_o (k := 53) (n := 8) e11 (by decide)
      exact ok_ret ⟨by rw [e9]; exact g, by rw [e11]; exact pM_54 hB (by omega), by rw [e11]; exact FR.st FR.rf (by decide), by (try dsimp only); unfold TV; rw [e9]; omega⟩
theorem WSt.fr {σ s : Sto} {ms ml : List Nat} (h : WSt σ) (g : FR ms ml σ s) (hd : (!ms.contains 38 && !ms.contains 39 && !ms.contains 40 && !ms.contains 41 && !ms.contains 42 && !ms.contains 43 && !ms.contains 44 && !ms.contains 47) = true) : WSt s := by
  simp only [Bool.and_eq_true, Bool.not_eq_true', List.contains_eq_mem, decide_eq_false_iff_not] at hd
  exact h.ng (NGr.of (g.1 38 (by simp [hd])) (g.1 39 (by simp [hd])) (g.1 40 (by simp [hd])) (g.1 41 (by simp [hd]))) (g.1 42 (by simp [hd])) (g.1 43 (by simp [hd])) (g.1 44 (by simp [hd])) (g.1 47 (by simp [hd]))
theorem s_laysTypes {σ : Sto} (hB : BM σ) (hW : WSt σ) : OK (f_X12_laysTypes σ) (fun s => BM s ∧ FR [52, 53, 54] [] σ s) := by
  have k_0 : (0 : Int32).toInt = 0 := by decide +kernel
  have k_1 : (1 : Int32).toInt = 1 := by decide +kernel
  have k_6 : (6 : Int32).toInt = 6 := by decide +kernel
  have k_8 : (8 : Int32).toInt = 8 := by decide +kernel
  have g47 := gM_47 hB 0
  have g48 := gM_48 hB 0
  have g32 := gM_32 hB 0
  unfold f_X12_laysTypes
  refine ok_itr2 (fun n v s => n = (7 - v.toInt).toNat ∧ 0 ≤ v.toInt ∧ v.toInt ≤ 6 ∧ BM s ∧ FR [52, 53, 54] [] σ s) ?_ (n := (7 - (0 : Int32).toInt).toNat) ⟨rfl, by omega, by omega, hB, FR.rf⟩ (by rw [k_0]; decide)
  intro ag n v s I ih
  obtain ⟨hn, v0, v6, b1, b2⟩ := I
  have ev : (v + 1).toInt = v.toInt + 1 := i1 (by omega)
  refine ok_ite (fun c1 => ?_) (fun c1 => ?_)
  · refine ok_itr2 (fun n v s => n = (9 - v.toInt).toNat ∧ 0 ≤ v.toInt ∧ v.toInt ≤ 8 ∧ BM s ∧ FR [52, 53, 54] [] σ s) ?_ (n := (9 - (0 : Int32).toInt).toNat) ⟨rfl, by omega, by omega, b1, b2⟩ (by rw [k_0]; decide)
    intro ag2 n2 w t I2 ih2
    obtain ⟨hn2, w0, w8, t1, t2⟩ := I2
    have ew : (w + 1).toInt = w.toInt + 1 := i1 (by omega)
    refine ok_ite (fun c2 => ?_) (fun c2 => ?_)
    · refine ok_itr2 (fun n v s => n = (401 - v.toInt).toNat ∧ 0 ≤ v.toInt ∧ v.toInt ≤ 400 ∧ BM s ∧ FR [52, 53, 54] [] σ s) ?_ (n := (401 - (0 : Int32).toInt).toNat) ⟨rfl, by omega, by omega, t1, t2⟩ (by rw [k_0]; decide)
      intro ag3 n3 x u I3 ih3
      obtain ⟨hn3, x0, x4, u1, u2⟩ := I3
      have exx : (x + 1).toInt = x.toInt + 1 := i1 (by omega)
      have q48 := u2.1 48 (by decide)
      refine ok_ite (fun c3 => ?_) (fun c3 => ?_)
      · refine ok_itr2 (fun n v s => n = (122 - v.toInt).toNat ∧ 0 ≤ v.toInt ∧ v.toInt ≤ 120 ∧ BM s ∧ FR [52, 53, 54] [] σ s) ?_ (n := (122 - (0 : Int32).toInt).toNat) ⟨rfl, by omega, by omega, u1, u2⟩ (by rw [k_0]; decide)
        intro ag4 n4 e y I4 ih4
        obtain ⟨hn4, e0, e4, y1, y2⟩ := I4
        have eee : (e + 1).toInt = e.toInt + 1 := i1 (by omega)
        have q32 := y2.1 32 (by decide)
        refine ok_ite (fun c4 => ?_) (fun c4 => ?_)
        · have tle : ∀ z : Sto, TV z ≤ 414 := fun z => by
            have a := fb_ct_le (fun i => decide ((z.1 52 i).toInt ≠ 0)) 6
            have b := fb_ct_le (fun i => decide ((z.1 53 i).toInt ≠ 0)) 8
            have c := fb_ct_le (fun i => decide ((z.1 54 i).toInt ≠ 0)) 400
            unfold TV tc; omega
          refine ok_itr2 (fun n g z => n = 2 * TV z + g.toInt.toNat ∧ (g.toInt = 0 ∨ g.toInt = 1) ∧ BM z ∧ FR [52, 53, 54] [] σ z) ?_ (n := 2 * TV y + (1 : Int32).toInt.toNat) ⟨rfl, Or.inr k_1, y1, y2⟩ (by have := tle y; rw [k_1]; unfold LF; omega)
          intro ag5 n5 g z I5 ih5
          obtain ⟨hn5, g01, z1, z2⟩ := I5
          refine ok_ite (fun _ => ok_ret ⟨z1, z2⟩) (fun c5 => ?_)
          rw [fa_eq, k_0] at c5
          refine ok_itr3 (fun n f i a => n = (402 - i.toInt).toNat ∧ 0 ≤ i.toInt ∧ i.toInt ≤ 401 ∧ (f.toInt = 0 ∨ f.toInt = 1) ∧ BM a ∧ FR [52, 53, 54] [] σ a ∧ (f.toInt = 0 → TV a ≤ TV z) ∧ (f.toInt = 1 → TV a + 1 ≤ TV z)) ?_ (n := (402 - (0 : Int32).toInt).toNat) ⟨rfl, by omega, by omega, Or.inl k_0, z1, z2, fun _ => Nat.le_refl _, fun q => by omega⟩ (by rw [k_0]; decide)
          intro ag6 n6 f i a I6 ih6
          obtain ⟨hn6, i0, i4, f01, a1, a2, a3, a4⟩ := I6
          have q47 := a2.1 47 (by decide)
          have ei : i.toInt < 401 → (i + 1).toInt = i.toInt + 1 := fun _ => i1 (by omega)
          refine ok_ite (fun c6 => ?_) (fun c6 => ?_)
          · refine ih5 (2 * TV a + f.toInt.toNat) f a ?_ ⟨rfl, f01, a1, a2⟩
            rcases f01 with q | q
            · have := a3 q; omega
            · have := a4 q; omega
          · rw [fa_le, q47] at c6
            refine ok_calv (s_isLess (x1 := i) a1 (hW.fr a2 rfl) ⟨i0, by rw [q47]; omega⟩) (fun v13 s13 w => ?_)
            obtain ⟨w0', w1, w2, w3⟩ := w
            (try dsimp only at w0' w1 w2 w3)
            have F13 : FR [52, 53, 54] [] σ s13 := FR.cal a2 w2 rfl rfl
            have ei' := ei (by omega)
            have go : ∀ t : Int32, (t.toInt = 0 ∨ t.toInt = 1) → (t.toInt = 0 → TV s13 ≤ TV z) → (t.toInt = 1 → TV s13 + 1 ≤ TV z) → OK (lt (i + 1) fun x2_15 => ag6 t x2_15 s13) _ := fun t p1 p2 p3 => ok_lt fun x15 e15 => by
              subst e15
              exact ih6 (402 - (i + 1).toInt).toNat t (i + 1) s13 (by rw [hn6, ei']; omega) ⟨rfl, by omega, by omega, p1, w1, F13, p2, p3⟩
            refine ok_jn ?_
            refine ok_jn ?_
            refine ok_ite (fun c7 => ?_) (fun c7 => ?_)
            · rw [fa_eq, k_0] at c7
              refine ok_ite (fun c8 => ?_) (fun c8 => ?_)
              · rw [fa_eq, k_0] at c8
                have := a3 c8
                exact go 0 (Or.inl k_0) (fun _ => by omega) (fun q => by omega)
              · rw [fa_eq, k_0] at c8
                have := a4 (by omega)
                exact go 1 (Or.inr k_1) (fun _ => by omega) (fun q => by omega)
            · rw [fa_eq, k_0] at c7
              have le : TV a ≤ TV z := by
                rcases f01 with q | q
                · exact a3 q
                · have := a4 q; omega
              exact go 1 (Or.inr k_1) (fun q => by omega) (fun _ => by omega)
        · rw [fa_le, q32] at c4
          have ie : 0 ≤ e.toInt ∧ e.toInt < 120 := by omega
          have cont : ∀ z : Sto, BM z → FR [52, 53, 54] [] σ z → OK (lt (e + 1) fun x1_21 => ag4 x1_21 z) _ := fun z z1 z2 => ok_lt fun x21 e21 => by
            subst e21
            exact ih4 (122 - (e + 1).toInt).toNat (e + 1) z (by rw [hn4, eee]; omega) ⟨rfl, by omega, by omega, z1, z2⟩
          refine ok_ix ie ?_
          refine ok_lt fun v19 e19 => ?_
          refine ok_jn ?_
          refine ok_ite (fun _ => cont y y1 y2) (fun _ => ?_)
          refine ok_ix (by omega) ?_
          refine ok_lt fun s23 e23 => ?_
          exact cont s23 (by rw [e23]; exact pM_53 y1 (by omega)) (by rw [e23]; exact FR.st y2 (by decide))
      · rw [fa_le, q48] at c3
        refine ok_ix (by omega) ?_
        refine ok_lt fun s24 e24 => ?_
        refine ok_lt fun x25 e25 => ?_
        subst e25
        exact ih3 (401 - (x + 1).toInt).toNat (x + 1) s24 (by rw [hn3, exx]; omega) ⟨rfl, by omega, by omega, by rw [e24]; exact pM_54 u1 (by omega), by rw [e24]; exact FR.st u2 (by decide)⟩
    · rw [fa_le, k_8] at c2
      refine ok_ix (by omega) ?_
      refine ok_lt fun s26 e26 => ?_
      refine ok_lt fun x27 e27 => ?_
      subst e27
      exact ih2 (9 - (w + 1).toInt).toNat (w + 1) s26 (by rw [hn2, ew]; omega) ⟨rfl, by omega, by omega, by rw [e26]; exact pM_53 t1 (by omega), by rw [e26]; exact FR.st t2 (by decide)⟩
  · rw [fa_le, k_6] at c1
    have wr : ∀ t : Int32, (t.toInt = 0 ∨ t.toInt = 1) → OK (bz t <| ix 6 v <| lt (sti s 52 v.toNatClampNeg t) fun s_29 => lt (v + 1) fun x1_31 => ag x1_31 s_29) (fun s => BM s ∧ FR [52, 53, 54] [] σ s) := fun t ht => by
      refine ok_bz (by rw [fa_eq, fa_eq, k_0, k_1]; exact ht) ?_
      refine ok_ix (by omega) ?_
      refine ok_lt fun s29 e29 => ?_
      refine ok_lt fun x31 e31 => ?_
      subst e31
      exact ih (7 - (v + 1).toInt).toNat (v + 1) s29 (by rw [hn, ev]; omega) ⟨rfl, by omega, by omega, by rw [e29]; exact pM_52 b1 (by omega), by rw [e29]; exact FR.st b2 (by decide)⟩
    refine ok_jn ?_
    exact ok_ite (fun _ => wr 0 (Or.inl k_0)) (fun _ => wr 1 (Or.inr k_1))
