theorem stLs_s (b a : Int) (n : Nat) : stLs b a (n + 1) = stLs b a n ++ [(0, b, a + n)] := rfl
def BEST (σ : Sto) (b : Nat) (k : Int) (m : Nat) (z : Int) : Prop := MC σ b m ∧ oR σ m < k ∧ ∀ u : Nat, (u : Int) < z → MC σ b u → oR σ u < k → oR σ u ≤ oR σ m
def NONE (σ : Sto) (b : Nat) (k : Int) (z : Int) : Prop := ∀ u : Nat, (u : Int) < z → MC σ b u → k ≤ oR σ u
theorem sd_merges {σ : Sto} (h : LNW σ) {d : Nat} (hM : SMd σ d) (hI : SId σ d) (hT : STd σ d) : SMd σ (d + 1) := by
  intro x k s x0 xb hB hF hn hw hd
  have k_0 : (0 : Int32).toInt = 0 := by decide +kernel
  have k_2 : (2 : Int32).toInt = 2 := by decide +kernel
  have k_m1 : ((-1) : Int32).toInt = -1 := by decide +kernel
  have cx := clamp_I x0
  have nb := nB_le h.1
  have e26 : s.1 26 = σ.1 26 := hF.1 26 (by decide)
  have e34 : s.1 34 = σ.1 34 := hF.1 34 (by decide)
  have e33 : s.1 33 = σ.1 33 := hF.1 33 (by decide)
  have hw1 := w_in (on0 h) x.toNatClampNeg k.toInt
  show OK (b_X12_merges (f_X12_goes d) (f_X12_inner d) (f_X12_merges d) (f_X12_tells_ d) x k s) _
  unfold b_X12_merges
  refine ok_itr2 (fun n m z => n = (41 - z.toInt).toNat ∧ 0 ≤ z.toInt ∧ z.toInt ≤ (nB σ : Int) ∧ ((m.toInt = -1 ∧ NONE σ x.toNatClampNeg k.toInt z.toInt) ∨ (0 ≤ m.toInt ∧ m.toInt < z.toInt ∧ BEST σ x.toNatClampNeg k.toInt m.toNatClampNeg z.toInt))) ?_ (n := (41 - (0 : Int32).toInt).toNat) ⟨rfl, by omega, by omega, Or.inl ⟨k_m1, fun u hu => by omega⟩⟩ (by rw [k_0]; decide)
  intro ag n m z I ih
  obtain ⟨hnn, z0, zb, hm⟩ := I
  have cz := clamp_I z0
  refine ok_ite (fun c1 => ?_) (fun c1 => ?_)
  · rw [fa_le, e26] at c1
    refine ok_ite (fun c2 => ?_) (fun c2 => ?_)
    · rw [fa_eq, k_m1] at c2
      rcases hm with ⟨_, hno⟩ | ⟨z1, _, _⟩
      · refine ok_cals (hI x s x0 xb hB hF (by omega) (by omega)) (fun s4 q => ?_)
        obtain ⟨q1, q2, l, q3, q4, q5⟩ := q
        exact ok_ret ⟨q1, q2, l, Or.inr (Or.inl ⟨rfl, Or.inl ⟨fun u hu => hno u (by have := hu.1.1; omega) hu, q3⟩⟩), by omega, q5⟩
      · omega
    · rw [fa_eq, k_m1] at c2
      rcases hm with ⟨z1, _⟩ | ⟨m0, mz, hbest⟩
      · exact absurd z1 c2
      · obtain ⟨b1, b2, b3⟩ := hbest
        have cm := clamp_I m0
        have mb : m.toNatClampNeg < nB σ := b1.1.1
        have w1 := w_mo h (cs0 h) b1 b2
        have w2 := w_mo h (on0 h) b1 b2
        have w3 := w_pt h (cs0 h) mb
        have w4 := csW_nn h _ mb
        have w5 := w_pt h (on0 h) mb
        have w6 := w_in (cs0 h) x.toNatClampNeg (oR σ m.toNatClampNeg)
        have w7 := wS_nn (S := SMk σ x.toNatClampNeg (oR σ m.toNatClampNeg)) (cs0 h)
        have w8 := wS_nn (S := SMk σ x.toNatClampNeg (oR σ m.toNatClampNeg)) (on0 h)
        have o := h.lt b1.1
        have one1 : one_ m.toNatClampNeg = 1 := rfl
        refine ok_cals (s_opens (x1 := 2) (x2 := m) hB (by rw [k_2]; omega) (by omega) (by omega)) (fun s5 q => ?_)
        obtain ⟨q1, q2, q3⟩ := q
        rw [k_2, ← cm] at q3
        have n5 : nL s5 = nL s + 1 := q3.1
        have f5 : FR LNS [] σ s5 := FR.cal hF q2 rfl rfl
        refine ok_ix (by omega) ?_
        rw [f5.1 33 (by decide)]
        refine ok_lt fun v6 e6 => ?_
        have o6 : v6.toInt = oR σ m.toNatClampNeg := by rw [e6]
        have H := hM x v6 s5 x0 xb q1 f5 (by rw [o6]; omega) (by rw [o6]; exact w6) (by rw [o6]; omega)
        rw [o6] at H
        refine ok_cals H (fun s7 r => ?_)
        obtain ⟨r1, r2, l1, r3, r4, r5⟩ := r
        have n7 := r5.1
        refine ok_cals (s_closes (x1 := m) (x2 := 2) r1 (by omega) (by rw [k_2]; omega) (by omega)) (fun s8 t => ?_)
        obtain ⟨t1, t2, t3⟩ := t
        rw [k_2, ← cm] at t3
        have n8 : nL s8 = nL s7 + 1 := t3.1
        have f8 : FR LNS [] s s8 := FR.cal (FR.cal q2 r2 rfl rfl) t2 rfl rfl
        refine ok_cals (hT m s8 m0 mb t1 (FR.cal hF f8 rfl rfl) (by omega) (by omega)) (fun s9 u => ?_)
        obtain ⟨u1, u2, l2, u3, u4, u5⟩ := u
        refine ok_ret ⟨u1, FR.cal f8 u2 rfl rfl, _, Or.inr (Or.inl ⟨rfl, Or.inr ⟨m.toNatClampNeg, l1, l2, b1, b2, fun v hv hv2 => b3 v (by have := hv.1.1; omega) hv hv2, r3, u3, rfl⟩⟩), ?_, (((q3.app r5).app t3).app u5).to (by simp only [List.append_assoc])⟩
        simp only [List.length_append, List.length_cons, List.length_nil]
        omega
  · rw [fa_le, e26] at c1
    have iz : 0 ≤ z.toInt ∧ z.toInt < 40 := by omega
    have zn : z.toNatClampNeg < nB σ := by omega
    have nx : ∀ z2 : Int32, z2 = z + 1 → z2.toInt = z.toInt + 1 := fun z2 e => by rw [e]; exact i1 (by omega)
    have old : ∀ u : Nat, (u : Int) < z.toInt + 1 → u ≠ z.toNatClampNeg → (u : Int) < z.toInt := fun u h1 h2 => by omega
    have skip : (MC σ x.toNatClampNeg z.toNatClampNeg → oR σ z.toNatClampNeg < k.toInt → 0 ≤ m.toInt ∧ oR σ z.toNatClampNeg ≤ oR σ m.toNatClampNeg) → OK (lt (z + 1) fun x4_12 => ag m x4_12) _ := fun hno => ok_lt fun x12 e12 => by
      have ex := nx x12 e12
      refine ih (41 - x12.toInt).toNat m x12 (by omega) ⟨rfl, by omega, by omega, ?_⟩
      rcases hm with ⟨z1, z2⟩ | ⟨z1, z2, z3, z4, z5⟩
      · refine Or.inl ⟨z1, fun u hu hc => ?_⟩
        rw [ex] at hu
        by_cases q : u = z.toNatClampNeg
        · rw [q] at hc ⊢
          refine Int.not_lt.mp (fun w => ?_)
          have := hno hc w
          omega
        · exact z2 u (old u hu q) hc
      · refine Or.inr ⟨z1, by omega, z3, z4, fun u hu hc hk => ?_⟩
        rw [ex] at hu
        by_cases q : u = z.toNatClampNeg
        · rw [q] at hc hk ⊢; exact (hno hc hk).2
        · exact z5 u (old u hu q) hc hk
    have take : MC σ x.toNatClampNeg z.toNatClampNeg → oR σ z.toNatClampNeg < k.toInt → (m.toInt = -1 ∨ oR σ m.toNatClampNeg < oR σ z.toNatClampNeg) → OK (lt (z + 1) fun x4_12 => ag z x4_12) _ := fun h1 h2 h3 => ok_lt fun x12 e12 => by
      have ex := nx x12 e12
      refine ih (41 - x12.toInt).toNat z x12 (by omega) ⟨rfl, by omega, by omega, Or.inr ⟨z0, by omega, h1, h2, fun u hu hc hk => ?_⟩⟩
      rw [ex] at hu
      by_cases q : u = z.toNatClampNeg
      · rw [q]; exact Int.le_refl _
      · rcases hm with ⟨z1, z2⟩ | ⟨z1, z2, z3, z4, z5⟩
        · have := z2 u (old u hu q) hc; omega
        · have := z5 u (old u hu q) hc hk
          rcases h3 with r | r <;> omega
    refine ok_ix iz ?_
    rw [e34]
    refine ok_lt fun v10 e10 => ?_
    refine ok_jn ?_
    refine ok_ite (fun c2 => ?_) (fun c2 => ?_)
    · rw [fa_eq, e10] at c2
      have z0n : z.toNatClampNeg ≠ 0 := fun q => by
        rw [q] at c2
        have := h.2.2.2.2.2.2.1.1
        omega
      have ch : CHs σ x.toNatClampNeg z.toNatClampNeg := ⟨zn, z0n, by omega⟩
      refine ok_calp (s_isMerge hB (by omega)) (fun v14 r => ?_)
      rw [MGp.cg hF] at r
      refine ok_ite (fun c3 => ?_) (fun c3 => ?_)
      · rw [fa_eq, k_0] at c3
        refine skip (fun w => ?_)
        rcases r with q | q
        · exact absurd w.2 q.2
        · omega
      · rw [fa_eq, k_0] at c3
        have mg : MGp σ z.toNatClampNeg := by
          rcases r with q | q
          · exact absurd q.1 c3
          · exact q.2
        refine ok_ix iz ?_
        rw [e33]
        refine ok_lt fun v16 e16 => ?_
        refine ok_ite (fun c4 => ?_) (fun c4 => ?_)
        · rw [fa_le, e16] at c4
          exact skip (fun _ w => by unfold oR at w; omega)
        · rw [fa_le, e16] at c4
          refine ok_jn ?_
          refine ok_ite (fun c5 => ?_) (fun c5 => ?_)
          · rw [fa_eq, k_m1] at c5
            exact take ⟨ch, mg⟩ (by unfold oR; omega) (Or.inl c5)
          · rw [fa_eq, k_m1] at c5
            have m0 : 0 ≤ m.toInt ∧ m.toInt < 40 := by
              rcases hm with q | q
              · exact absurd q.1 c5
              · omega
            refine ok_ix iz ?_
            refine ok_lt fun v20 e20 => ?_
            refine ok_ix m0 ?_
            refine ok_lt fun v21 e21 => ?_
            refine ok_ite (fun c6 => ?_) (fun c6 => ?_)
            · rw [fa_le, e20, e21] at c6
              exact skip (fun _ _ => ⟨m0.1, c6⟩)
            · rw [fa_le, e20, e21] at c6
              exact take ⟨ch, mg⟩ (by unfold oR; omega) (Or.inr (by unfold oR; omega))
    · rw [fa_eq, e10] at c2
      refine skip (fun w => absurd ?_ c2)
      have := w.1.2.2
      omega
theorem sd_inner {σ : Sto} (h : LNW σ) {d : Nat} (hG : SGd σ d) : SId σ (d + 1) := by
  intro x s x0 xb hB hF hn hd
  have k_0 : (0 : Int32).toInt = 0 := by decide +kernel
  have k_1 : (1 : Int32).toInt = 1 := by decide +kernel
  have k_3 : (3 : Int32).toInt = 3 := by decide +kernel
  have k_4 : (4 : Int32).toInt = 4 := by decide +kernel
  have k_9 : (9 : Int32).toInt = 9 := by decide +kernel
  have k_10 : (10 : Int32).toInt = 10 := by decide +kernel
  have k_11 : (11 : Int32).toInt = 11 := by decide +kernel
  have k_103 : (103 : Int32).toInt = 103 := by decide +kernel
  have k_m1 : ((-1) : Int32).toInt = -1 := by decide +kernel
  have cx := clamp_I x0
  have nb := nB_le h.1
  have hC := nC_le h.1
  have xi : 0 ≤ x.toInt ∧ x.toInt < 40 := by omega
  obtain ⟨k1, k2, k3, k4, k5, k6, k7, k8, k9⟩ := h.2.2.1.at_ h.1 h.2.1 xb
  have hla := (k8 (laR σ x.toNatClampNeg) k3 (Nat.le_refl _)).1
  have okl := h.2.1.ok h.1 k4 hla
  have vg := h.2.1.2.1 _ k4
  have g9 := gM_9 h.1 (laR σ x.toNatClampNeg)
  have g10 := gM_10 h.1 (laR σ x.toNatClampNeg)
  have g23 := gM_23 h.1 x.toNatClampNeg
  have g25 := gM_25 h.1 x.toNatClampNeg
  have c23 : (σ.1 23 x.toNatClampNeg).toNatClampNeg = laR σ x.toNatClampNeg := rfl
  have esg : (σ.1 9 (laR σ x.toNatClampNeg)).toInt = sG σ (laR σ x.toNatClampNeg) := rfl
  have enm : (σ.1 10 (laR σ x.toNatClampNeg)).toInt = nM σ (laR σ x.toNatClampNeg) := rfl
  have enn : (σ.1 10 (laR σ x.toNatClampNeg)).toNatClampNeg = (nM σ (laR σ x.toNatClampNeg)).toNat := rfl
  have st := h.2.2.2.2.2.2.2.1.2.2.2.1 x.toNatClampNeg xb
  have g45 := gM_45 h.1 (x.toNatClampNeg + 1)
  clear k8 k9 k5 k6 k7 hla
  have st1 : 0 ≤ sB σ x.toNatClampNeg := st.1
  have st2 : sB σ x.toNatClampNeg ≤ sB σ (x.toNatClampNeg + 1) := st.2.1
  have st3 : sB σ (x.toNatClampNeg + 1) ≤ 400 := g45.2
  clear st g45
  have ecs : csW σ x.toNatClampNeg = 12 + (sB σ (x.toNatClampNeg + 1) - sB σ x.toNatClampNeg) := rfl
  have w0 := wS_nn (S := SIn σ x.toNatClampNeg) (cs0 h)
  have exn : (x + 1).toInt = x.toInt + 1 := i1 (by omega)
  have nx : (x + 1).toNatClampNeg = x.toNatClampNeg + 1 := by have := clamp_I (x := x + 1) (by omega); omega
  have tyl : (tyL σ x.toNatClampNeg).length ≤ 1 := by
    unfold tyL
    by_cases q : (σ.1 25 x.toNatClampNeg).toInt = -1
    · rw [if_pos q]; exact Nat.zero_le _
    · rw [if_neg q]; exact Nat.le_refl _
  have cal : (caL σ x.toNatClampNeg).length ≤ 1 := by
    unfold caL
    by_cases q : (σ.1 25 x.toNatClampNeg).toInt = -1
    · rw [if_pos q]; exact Nat.zero_le _
    · rw [if_neg q]; exact Nat.le_refl _
  have w1 := w_one h (cs0 h) xb (jmpT σ x.toNatClampNeg)
  have w2 := w_one h (cs0 h) xb (fallT σ x.toNatClampNeg)
  have w3 := w_one h (on0 h) xb (jmpT σ x.toNatClampNeg)
  have w4 := w_one h (on0 h) xb (fallT σ x.toNatClampNeg)
  have v1' := wS_nn (S := SGo σ x.toNatClampNeg (jmpT σ x.toNatClampNeg)) (cs0 h)
  have v2' := wS_nn (S := SGo σ x.toNatClampNeg (fallT σ x.toNatClampNeg)) (cs0 h)
  have one1 : one_ x.toNatClampNeg = 1 := rfl
  have n0 : nL s < 1393 := by omega
  -- what is told ahead of the ways
  have HD : ∀ u : Sto, FR LNS [] s u → FR LNS [] σ u := fun u q => FR.cal hF q rfl rfl
  show OK (b_X12_inner (f_X12_goes d) (f_X12_inner d) (f_X12_merges d) (f_X12_tells_ d) x s) _
  unfold b_X12_inner
  refine ok_cals (s_line (x1 := 11) (x2 := x) (x3 := (-1)) hB (by rw [k_11]; omega) (by omega) (by rw [k_m1]; omega) (by omega)) (fun s1 q => ?_)
  obtain ⟨a1, a2, a3⟩ := q
  rw [k_11, k_m1, ← cx] at a3
  have n1 : nL s1 = nL s + 1 := a3.1
  have F1 := HD s1 a2
  refine ok_ix xi ?_
  rw [F1.1 25 (by decide)]
  refine ok_lt fun v2 e2 => ?_
  refine ok_jnI1 (fun t => (t.toInt = 0 ∧ (σ.1 25 x.toNatClampNeg).toInt = -1) ∨ (t.toInt = 1 ∧ (σ.1 25 x.toNatClampNeg).toInt ≠ -1)) (fun t ht => ?_) (fun k hk => ?_)
  · refine ok_jnI1 (fun u => BM u ∧ FR LNS [] s u ∧ APP s u ([(11, (x.toNatClampNeg : Int), -1)] ++ tyL σ x.toNatClampNeg)) (fun u hu => ?_) (fun k hk => ?_)
    · obtain ⟨u1, u2, u3⟩ := hu
      have Fu := HD u u2
      refine ok_ix (by omega) ?_
      rw [Fu.1 45 (by decide)]
      refine ok_lt fun v5 e5 => ?_
      have e5' : v5.toInt = sB σ x.toNatClampNeg := by rw [e5]
      refine ok_itr2 (fun n j w => n = (401 - j.toInt).toNat ∧ sB σ x.toNatClampNeg ≤ j.toInt ∧ j.toInt ≤ sB σ (x.toNatClampNeg + 1) ∧ BM w ∧ FR LNS [] s w ∧ APP s w ([(11, (x.toNatClampNeg : Int), -1)] ++ (tyL σ x.toNatClampNeg ++ stLs x.toNatClampNeg (sB σ x.toNatClampNeg) (j.toInt - sB σ x.toNatClampNeg).toNat))) ?_ (n := (401 - v5.toInt).toNat) ⟨rfl, by omega, by rw [e5']; exact st2, u1, u2, by rw [e5', Int.sub_self]; exact u3.to (by show _ = _ ++ (_ ++ []); rw [List.append_nil])⟩ (by unfold LF; omega)
      intro ag n j w I ih
      obtain ⟨hnn, j0, jb, b1, b2, b3⟩ := I
      have Fw := HD w b2
      have lw : (nL w : Int) = nL s + 1 + (tyL σ x.toNatClampNeg).length + (j.toInt - sB σ x.toNatClampNeg) := by
        have := b3.1
        simp only [List.length_append, List.length_cons, List.length_nil, stLs_len] at this
        omega
      refine ok_ix (by omega) ?_
      rw [nx, Fw.1 45 (by decide)]
      refine ok_lt fun v7 e7 => ?_
      have e7' : v7.toInt = sB σ (x.toNatClampNeg + 1) := by rw [e7]
      refine ok_ite (fun c1 => ?_) (fun c1 => ?_)
      · rw [fa_le, e7'] at c1
        have je : j.toInt = sB σ (x.toNatClampNeg + 1) := by omega
        rw [je] at b3 lw
        refine ok_jnI1 (fun y => BM y ∧ FR LNS [] s y ∧ APP s y ([(11, (x.toNatClampNeg : Int), -1)] ++ (tyL σ x.toNatClampNeg ++ (stLs x.toNatClampNeg (sB σ x.toNatClampNeg) (sB σ (x.toNatClampNeg + 1) - sB σ x.toNatClampNeg).toNat ++ caL σ x.toNatClampNeg)))) (fun y hy => ?_) (fun k hk => ?_)
        · obtain ⟨y1, y2, y3⟩ := hy
          have Fy := HD y y2
          have ly : (nL y : Int) ≤ nL s + 3 + (sB σ (x.toNatClampNeg + 1) - sB σ x.toNatClampNeg) := by
            have := y3.1
            simp only [List.length_append, List.length_cons, List.length_nil, stLs_len] at this
            omega
          have fin : ∀ (t : Sto) (tl : List Ln), BM t → FR LNS [] y t → APP y t tl → (tl.length : Int) + (sB σ (x.toNatClampNeg + 1) - sB σ x.toNatClampNeg) + 7 ≤ wS σ (csW σ) (SIn σ x.toNatClampNeg) → ((FORK σ x.toNatClampNeg ∧ ∃ l1 l2, TEL σ d 3 x.toNatClampNeg (fallT σ x.toNatClampNeg) l1 ∧ TEL σ d 3 x.toNatClampNeg (jmpT σ x.toNatClampNeg) l2 ∧ tl = [(3, (x.toNatClampNeg : Int), -1)] ++ (l1 ++ ([(4, (x.toNatClampNeg : Int), -1)] ++ (l2 ++ [(5, (x.toNatClampNeg : Int), 3)])))) ∨ (¬ FORK σ x.toNatClampNeg ∧ sG σ (laR σ x.toNatClampNeg) = 103 ∧ TEL σ d 3 x.toNatClampNeg (jmpT σ x.toNatClampNeg) tl) ∨ (¬ FORK σ x.toNatClampNeg ∧ sG σ (laR σ x.toNatClampNeg) ≠ 103 ∧ gOnI (sG σ (laR σ x.toNatClampNeg)) ∧ TEL σ d 3 x.toNatClampNeg (fallT σ x.toNatClampNeg) tl) ∨ (¬ FORK σ x.toNatClampNeg ∧ (sG σ (laR σ x.toNatClampNeg) ≠ 103 ∧ ¬ gOnI (sG σ (laR σ x.toNatClampNeg))) ∧ tl = [])) → PT σ s (d + 1) 2 x.toNatClampNeg 0 (wS σ (csW σ) (SIn σ x.toNatClampNeg) - 4) t := fun t tl t1 t2 t3 t4 t5 => by
            refine ⟨t1, FR.cal y2 t2 rfl rfl, _, Or.inr (Or.inr (Or.inl ⟨rfl, tl, rfl, t5⟩)), ?_, (y3.app t3).to (by simp only [List.append_assoc])⟩
            simp only [List.length_append, List.length_cons, List.length_nil, stLs_len]
            omega
          have x23 : ((σ.1 23 x.toNatClampNeg) + 1).toInt = (σ.1 23 x.toNatClampNeg).toInt + 1 := i1 (by omega)
          have n23 : ((σ.1 23 x.toNatClampNeg) + 1).toNatClampNeg = laR σ x.toNatClampNeg + 1 := by have := clamp_I (x := (σ.1 23 x.toNatClampNeg) + 1) (by omega); omega
          refine ok_ix xi ?_
          rw [Fy.1 23 (by decide)]
          refine ok_lt fun v10 e10 => ?_
          subst e10
          refine ok_ix (by omega) ?_
          rw [c23, Fy.1 9 (by decide)]
          refine ok_lt fun v11 e11 => ?_
          have e11' : v11.toInt = sG σ (laR σ x.toNatClampNeg) := by rw [e11]; exact esg
          refine ok_calp (s_isForked y1 (h.ql Fy) (h.bk Fy) x0 (by unfold nB; rw [Fy.1 26 (by decide)]; exact xb)) (fun v12 r => ?_)
          rw [FORK.cg (Fy.1 9 (by decide)) (Fy.1 10 (by decide)) (Fy.1 23 (by decide)) (Fy.1 24 (by decide))] at r
          refine ok_ite (fun c2 => ?_) (fun c2 => ?_)
          · rw [fa_eq, k_0] at c2
            have nf : ¬ FORK σ x.toNatClampNeg := fun z => by have := r.2.mpr z; omega
            refine ok_ite (fun c3 => ?_) (fun c3 => ?_)
            · rw [fa_eq, k_103, e11'] at c3
              have nm := vg.2.1 (Or.inl c3)
              refine ok_ix xi ?_
              refine ok_lt fun v15 e15 => ?_
              subst e15
              refine ok_ix (by omega) ?_
              rw [c23, Fy.1 10 (by decide)]
              refine ok_lt fun v16 e16 => ?_
              subst e16
              refine ok_ix (by omega) ?_
              rw [enn, Fy.1 24 (by decide)]
              refine ok_lt fun v17 e17 => ?_
              have e17' : v17.toInt = jmpT σ x.toNatClampNeg := by rw [e17]
              have H := hG x v17 y x0 xb y1 Fy (Or.inr ⟨Or.inl c3, e17'⟩) (by rw [e17']; omega) (by rw [e17']; omega)
              rw [e17'] at H
              refine ok_cals H (fun s18 q => ?_)
              obtain ⟨q1, q2, l, q3, q4, q5⟩ := q
              exact ok_ret (fin s18 l q1 q2 q5 (by omega) (Or.inr (Or.inl ⟨nf, c3, q3⟩)))
            · rw [fa_eq, k_103, e11'] at c3
              refine ok_calp (s_X12_goesOn (x1 := v11) (by rw [e11]; exact g9)) (fun v19 q => ?_)
              rw [e11'] at q
              refine ok_ite (fun c4 => ?_) (fun c4 => ?_)
              · rw [fa_eq, k_0] at c4
                have ng : ¬ gOnI (sG σ (laR σ x.toNatClampNeg)) := fun z => by have := q.2.mpr z; omega
                exact ok_ret (fin y [] y1 FR.rf (APP.nil rfl rfl rfl rfl) (by simp only [List.length_nil]; omega) (Or.inr (Or.inr (Or.inr ⟨nf, ⟨c3, ng⟩, rfl⟩))))
              · rw [fa_eq, k_0] at c4
                have og : gOnI (sG σ (laR σ x.toNatClampNeg)) := q.2.mp (by omega)
                have hgo := (okl.2.2.1 og).1
                refine ok_ix xi ?_
                refine ok_lt fun v21 e21 => ?_
                subst e21
                refine ok_ix (by omega) ?_
                rw [n23, Fy.1 24 (by decide)]
                refine ok_lt fun v22 e22 => ?_
                have e22' : v22.toInt = fallT σ x.toNatClampNeg := by rw [e22]
                have H := hG x v22 y x0 xb y1 Fy (Or.inl ⟨og, e22'⟩) (by rw [e22']; omega) (by rw [e22']; omega)
                rw [e22'] at H
                refine ok_cals H (fun s23 q => ?_)
                obtain ⟨q1, q2, l, q3, q4, q5⟩ := q
                exact ok_ret (fin s23 l q1 q2 q5 (by omega) (Or.inr (Or.inr (Or.inl ⟨nf, c3, og, q3⟩))))
          · rw [fa_eq, k_0] at c2
            have fk : FORK σ x.toNatClampNeg := r.2.mp (by omega)
            have s122 := fk.1
            have nm := vg.2.1 (Or.inr s122)
            have og : gOnI (sG σ (laR σ x.toNatClampNeg)) := ⟨by omega, by omega, by omega⟩
            have hgo := (okl.2.2.1 og).1
            have W := w_two h (cs0 h) xb (t := fallT σ x.toNatClampNeg) (u := jmpT σ x.toNatClampNeg) fk.2
            refine ok_cals (s_opens (x1 := 3) (x2 := x) y1 (by rw [k_3]; omega) (by omega) (by omega)) (fun s24 q => ?_)
            obtain ⟨p1, p2, p3⟩ := q
            rw [k_3, ← cx] at p3
            have m24 : nL s24 = nL y + 1 := p3.1
            have F24 : FR LNS [] σ s24 := FR.cal Fy p2 rfl rfl
            refine ok_ix xi ?_
            rw [F24.1 23 (by decide)]
            refine ok_lt fun v25 e25 => ?_
            subst e25
            refine ok_ix (by omega) ?_
            rw [n23, F24.1 24 (by decide)]
            refine ok_lt fun v26 e26 => ?_
            have e26' : v26.toInt = fallT σ x.toNatClampNeg := by rw [e26]
            have H := hG x v26 s24 x0 xb p1 F24 (Or.inl ⟨og, e26'⟩) (by rw [e26']; omega) (by rw [e26']; omega)
            rw [e26'] at H
            refine ok_cals H (fun s27 q => ?_)
            obtain ⟨q1, q2, l1, q3, q4, q5⟩ := q
            have m27 := q5.1
            refine ok_lt fun s28 e28 => ?_
            have A28 : APP s27 s28 [] := APP.nil (by rw [e28, sti_o (by decide)]) (by rw [e28, sti_o (by decide)]) (by rw [e28, sti_o (by decide)]) (by rw [e28, sti_o (by decide)])
            have m28 : nL s28 = nL s27 := A28.1
            have F28 : FR LNS [] y s28 := by rw [e28]; exact FR.st (FR.cal p2 q2 rfl rfl) (by decide)
            refine ok_cals (s_opens (x1 := 4) (x2 := x) (by rw [e28]; exact pM_63 q1 (tI_rng _)) (by rw [k_4]; omega) (by omega) (by omega)) (fun s29 q => ?_)
            obtain ⟨t1, t2, t3⟩ := q
            rw [k_4, ← cx] at t3
            have m29 : nL s29 = nL s28 + 1 := t3.1
            have F29y : FR LNS [] y s29 := FR.cal F28 t2 rfl rfl
            have F29 : FR LNS [] σ s29 := FR.cal Fy F29y rfl rfl
            refine ok_ix xi ?_
            rw [F29.1 23 (by decide)]
            refine ok_lt fun v30 e30 => ?_
            subst e30
            refine ok_ix (by omega) ?_
            rw [c23, F29.1 10 (by decide)]
            refine ok_lt fun v31 e31 => ?_
            subst e31
            refine ok_ix (by omega) ?_
            rw [enn, F29.1 24 (by decide)]
            refine ok_lt fun v32 e32 => ?_
            have e32' : v32.toInt = jmpT σ x.toNatClampNeg := by rw [e32]
            have H := hG x v32 s29 x0 xb t1 F29 (Or.inr ⟨Or.inr s122, e32'⟩) (by rw [e32']; omega) (by rw [e32']; omega)
            rw [e32'] at H
            refine ok_cals H (fun s33 q => ?_)
            obtain ⟨r1, r2, l2, r3, r4, r5⟩ := q
            have m33 := r5.1
            refine ok_cals (s_closes (x1 := x) (x2 := 3) r1 (by omega) (by rw [k_3]; omega) (by omega)) (fun s34 q => ?_)
            obtain ⟨u1, u2, u3⟩ := q
            rw [k_3, ← cx] at u3
            refine ok_ret (fin s34 _ u1 (FR.cal (FR.cal F29y r2 rfl rfl) u2 rfl rfl) (((((p3.app q5).app A28).app t3).app r5).app u3) ?_ (Or.inl ⟨fk, l1, l2, q3, r3, by simp only [List.append_assoc, List.append_nil, List.nil_append]⟩))
            simp only [List.length_append, List.length_cons, List.length_nil]
            omega
        · refine ok_ite (fun c2 => ?_) (fun c2 => ?_)
          · rw [fa_eq, k_0] at c2
            have z : (σ.1 25 x.toNatClampNeg).toInt = -1 := by
              rcases ht with r | r
              · exact r.2
              · omega
            refine hk w ⟨b1, b2, b3.to ?_⟩
            unfold caL
            rw [if_pos z, List.append_nil]
          · rw [fa_eq, k_0] at c2
            have z : (σ.1 25 x.toNatClampNeg).toInt ≠ -1 := by
              rcases ht with r | r
              · omega
              · exact r.2
            refine ok_lt fun s36 e36 => ?_
            refine ok_ix xi ?_
            rw [show s36.1 25 = σ.1 25 by rw [e36, sti_o (by decide), Fw.1 25 (by decide)]]
            refine ok_lt fun v37 e37 => ?_
            have e62 : s36.1 62 = w.1 62 := by rw [e36, sti_o (by decide)]
            have n36 : nL s36 = nL w := by unfold nL; rw [e62]
            refine ok_cals (s_line (x1 := 10) (x2 := v37) (x3 := x) (by rw [e36]; exact pM_63 b1 (tI_rng _)) (by rw [k_10]; omega) (by rw [e37]; omega) (by omega) (by omega)) (fun s38 r => ?_)
            obtain ⟨r1, r2, r3⟩ := r
            rw [k_10, e37, ← cx] at r3
            have ap := (b3.app (APP.nil (t := s36) (by rw [e36, sti_o (by decide)]) (by rw [e36, sti_o (by decide)]) (by rw [e36, sti_o (by decide)]) e62)).app r3
            refine hk s38 ⟨r1, FR.cal (FR.cal b2 (FR.st FR.rf (by decide) : FR LNS [] w (sti w 63 0 ((w.1 63 0) - 1))) rfl rfl) (e36 ▸ r2) rfl rfl, ap.to ?_⟩
            unfold caL
            rw [if_neg z]
            simp only [List.append_assoc, List.append_nil, List.nil_append]
      · rw [fa_le, e7'] at c1
        refine ok_cals (s_line (x1 := 0) (x2 := x) (x3 := j) b1 (by rw [k_0]; omega) (by omega) (by omega) (by omega)) (fun s39 r => ?_)
        obtain ⟨r1, r2, r3⟩ := r
        rw [k_0, ← cx] at r3
        refine ok_lt fun x40 e40 => ?_
        have ej : x40.toInt = j.toInt + 1 := by rw [e40]; exact i1 (by omega)
        refine ih (401 - x40.toInt).toNat x40 s39 (by omega) ⟨rfl, by omega, by omega, r1, FR.cal b2 r2 rfl rfl, (b3.app r3).to ?_⟩
        rw [ej, show (j.toInt + 1 - sB σ x.toNatClampNeg).toNat = (j.toInt - sB σ x.toNatClampNeg).toNat + 1 by omega]
        rw [stLs_s, show sB σ x.toNatClampNeg + ((j.toInt - sB σ x.toNatClampNeg).toNat : Int) = j.toInt by omega]
        simp only [List.append_assoc]
    · refine ok_ite (fun c1 => ?_) (fun c1 => ?_)
      · rw [fa_eq, k_0] at c1
        have z : (σ.1 25 x.toNatClampNeg).toInt = -1 := by
          rcases ht with r | r
          · exact r.2
          · omega
        refine hk s1 ⟨a1, a2, a3.to ?_⟩
        unfold tyL
        rw [if_pos z, List.append_nil]
      · rw [fa_eq, k_0] at c1
        have z : (σ.1 25 x.toNatClampNeg).toInt ≠ -1 := by
          rcases ht with r | r
          · omega
          · exact r.2
        refine ok_cals (s_opens (x1 := 9) (x2 := x) a1 (by rw [k_9]; omega) (by omega) (by omega)) (fun s42 r => ?_)
        obtain ⟨r1, r2, r3⟩ := r
        rw [k_9, ← cx] at r3
        refine hk s42 ⟨r1, FR.cal a2 r2 rfl rfl, (a3.app r3).to ?_⟩
        unfold tyL
        rw [if_neg z]
  · refine ok_ite (fun c1 => ?_) (fun c1 => ?_)
    · rw [fa_eq, k_m1, e2] at c1; exact hk 0 (Or.inl ⟨k_0, c1⟩)
    · rw [fa_eq, k_m1, e2] at c1; exact hk 1 (Or.inr ⟨k_1, c1⟩)
theorem sd_all {σ : Sto} (h : LNW σ) : ∀ d, STd σ d ∧ SMd σ d ∧ SId σ d ∧ SGd σ d
  | 0 => by
    refine ⟨fun x s x0 xb hB hF hn hd => ?_, fun x k s x0 xb hB hF hn hw hd => ?_, fun x s x0 xb hB hF hn hd => ?_, fun x y s x0 xb hB hF hE hn hd => ?_⟩
    · have g := gM_33 h.1 x.toNatClampNeg
      have w := wS_nn (S := SUBT σ x.toNatClampNeg) (on0 h)
      unfold oR at hd; omega
    · have g := gM_33 h.1 x.toNatClampNeg
      have w := wS_nn (S := SMk σ x.toNatClampNeg k.toInt) (on0 h)
      unfold oR at hd; omega
    · have g := gM_33 h.1 x.toNatClampNeg
      have w := wS_nn (S := SIn σ x.toNatClampNeg) (on0 h)
      unfold oR at hd; omega
    · have g := gM_33 h.1 x.toNatClampNeg
      have w := wS_nn (S := SGo σ x.toNatClampNeg y.toInt) (on0 h)
      unfold oR at hd; omega
  | d + 1 => by
    obtain ⟨h1, h2, h3, h4⟩ := sd_all h d
    exact ⟨sd_tells h h2, sd_merges h h2 h3 h1, sd_inner h h4, sd_goes h h1⟩
/-- all the lines, before what is idle goes -/
theorem s_tells0 {σ s : Sto} (h : LNW σ) (hB : BM s) (hF : FR LNS [] σ s) (h0 : (s.1 62 0).toInt = 0) : OK (f_X12_tells_ 250 0 s) (fun t => BM t ∧ FR LNS [] s t ∧ (∃ l, TEL σ 250 0 0 0 l ∧ APP s t l) ∧ nL t ≤ 900) := by
  have k_0 : (0 : Int32).toInt = 0 := by decide +kernel
  have c0 : (0 : Int32).toNatClampNeg = 0 := by have := clamp_I (x := 0) (by omega); omega
  have nb := nB_le h.1
  have g33 := gM_33 h.1 0
  have hn : nL s = 0 := by unfold nL; rw [h0]; rfl
  have b1 := h.2.2.2.2.2.2.2.2
  have tot : ∀ n, n ≤ nB σ → fb_si (csW σ) n = 12 * (n : Int) + (sB σ n - sB σ 0) := fun n => by
    induction n with
    | zero => intro _; show (0 : Int) = _; omega
    | succ n ih =>
      intro hn
      rw [fb_si_succ, ih (by omega)]
      unfold csW
      omega
  have t1 := tot (nB σ) (Nat.le_refl _)
  have g45 := gM_45 h.1 (nB σ)
  have g450 := gM_45 h.1 0
  have a1 := wS_all (S := SUBT σ 0) (cs0 h)
  have a2 := wS_all (S := SUBT σ 0) (on0 h)
  have t2 : ∀ n, fb_si one_ n = (n : Int) := fun n => by
    induction n with
    | zero => rfl
    | succ n ih => rw [fb_si_succ, ih]; show (n : Int) + 1 = _; omega
  rw [t2] at a2
  have H := (sd_all h 250).1 0 s (by omega) (by rw [c0]; omega) hB hF (by rw [c0, hn]; unfold sB at t1; omega) (by rw [c0]; unfold oR; omega)
  rw [c0] at H
  refine ok_imp H (fun t q => ?_)
  obtain ⟨q1, q2, l, q3, q4, q5⟩ := q
  have n5 := q5.1
  exact ⟨q1, q2, ⟨l, q3, q5⟩, by unfold sB at t1; omega⟩
