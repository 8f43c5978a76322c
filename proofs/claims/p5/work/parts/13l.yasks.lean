abbrev nMt (s : Sto) : Nat := (s.1 68 0).toInt.toNat
/-- expressions that were met: trees, each once -/
def MET (s : Sto) : Prop := (∀ i, i < nMt s → TT s 60 (s.1 67 i).toNatClampNeg) ∧ ∀ i j, i < nMt s → j < nMt s → (s.1 67 i).toNatClampNeg = (s.1 67 j).toNatClampNeg → i = j
theorem TT.fr67 {σ s : Sto} (h : FR [67, 68] [] σ s) (d z e : Nat) : TZ (s.1 38) (s.1 39) (s.1 40) (s.1 41 0).toInt d z e ↔ TZ (σ.1 38) (σ.1 39) (σ.1 40) (σ.1 41 0).toInt d z e := by
  rw [h.1 38 (by decide), h.1 39 (by decide), h.1 40 (by decide), h.1 41 (by decide)]
theorem sd_meets : ∀ (d z : Nat) (e : Int32) (σ : Sto), BM σ → MET σ → 0 ≤ e.toInt → z ≤ 60 → TZ (σ.1 38) (σ.1 39) (σ.1 40) (σ.1 41 0).toInt d z e.toNatClampNeg → OK (f_X12_meets d e σ) (fun t => BM t ∧ FR [67, 68] [] σ t ∧ MET t) := by
  intro d
  induction d with
  | zero => intro z e σ _ _ _ _ h; exact absurd h (fun z => z)
  | succ d ih =>
    intro z e σ hB hM e0 hz h
    have k_0 : (0 : Int32).toInt = 0 := by decide +kernel
    have z0 : (0 : Int32).toNatClampNeg = 0 := by have := clamp_I (x := 0) (by omega); omega
    have g41 := gM_41 hB 0
    have hl := h.lt
    have ce := clamp_I e0
    have ei : 0 ≤ e.toInt ∧ e.toInt < 6000 := ⟨e0, by omega⟩
    have hT : TT σ 60 e.toNatClampNeg := h.dep.up hz hz
    obtain ⟨-, -, h3⟩ := h
    have a1 := gM_39 hB e.toNatClampNeg
    show OK (b_X12_meets (f_X12_meets d) e σ) _
    unfold b_X12_meets
    refine ok_calp (s_X12_isOne hB (by omega)) (fun v1 q1 => ?_)
    refine ok_jnI1 (fun u => BM u ∧ FR [67, 68] [] σ u ∧ MET u) (fun u hu => ?_) (fun k hk => ?_)
    · obtain ⟨u1, u2, u3⟩ := hu
      refine ok_calp (s_X12_isBoth u1 (by omega)) (fun v3 q3 => ?_)
      refine ok_jnI1 (fun w => BM w ∧ FR [67, 68] [] σ w ∧ MET w) (fun w hw => ?_) (fun k hk => ?_)
      · obtain ⟨w1, w2, w3⟩ := hw
        have g68 := gM_68 w1 0
        have nm0 : (nMt w : Int) = (w.1 68 0).toInt := by show ((w.1 68 0).toInt.toNat : Int) = _; omega
        have T : TT w 60 e.toNatClampNeg := (TT.fr67 w2 _ _ _).mpr hT
        refine ok_calp (s_X12_isName w1 (by omega)) (fun v5 _ => ?_)
        refine ok_ite (fun _ => ?_) (fun _ => ok_ret ⟨w1, w2, w3⟩)
        refine ok_itr1 (fun n x => n = (6001 - x.toInt).toNat ∧ 0 ≤ x.toInt ∧ x.toInt ≤ (nMt w : Int) ∧ ∀ i, i < x.toNatClampNeg → (w.1 67 i).toNatClampNeg ≠ e.toNatClampNeg) ?_ (n := (6001 - (0 : Int32).toInt).toNat) ⟨rfl, by omega, by omega, fun i hi => by omega⟩ (by rw [k_0]; decide)
        intro ag n x I ih2
        obtain ⟨hn, x0, xn, hno⟩ := I
        have cx := clamp_I x0
        refine ok_ite (fun c1 => ?_) (fun c1 => ?_)
        · rw [fa_le] at c1
          have xe : x.toNatClampNeg = nMt w := by omega
          rw [xe] at hno
          have n41 := w2.1 41 (by decide)
          have P := pig (σ.1 41 0).toInt.toNat (nMt w + 1) (fun i => if i < nMt w then (w.1 67 i).toNatClampNeg else e.toNatClampNeg) (fun i hi => by
            show (if i < nMt w then (w.1 67 i).toNatClampNeg else e.toNatClampNeg) < _
            by_cases y : i < nMt w
            · rw [if_pos y]
              have := TZ.lt (w3.1 i y)
              rw [n41] at this
              omega
            · rw [if_neg y]; omega) (fun i j hi hj y => by
            have y2 : (if i < nMt w then (w.1 67 i).toNatClampNeg else e.toNatClampNeg) = (if j < nMt w then (w.1 67 j).toNatClampNeg else e.toNatClampNeg) := y
            by_cases y3 : i < nMt w
            · by_cases y4 : j < nMt w
              · rw [if_pos y3, if_pos y4] at y2; exact w3.2 i j y3 y4 y2
              · rw [if_pos y3, if_neg y4] at y2; exact absurd y2 (hno i y3)
            · by_cases y4 : j < nMt w
              · rw [if_neg y3, if_pos y4] at y2; exact absurd y2.symm (hno j y4)
              · omega)
          have i68 : 0 ≤ (w.1 68 0).toInt ∧ (w.1 68 0).toInt < 6000 := by unfold nMt at P; omega
          have c68 := clamp_I i68.1
          refine ok_ix i68 ?_
          refine ok_lt fun s9 e9 => ?_
          refine ok_lt fun s10 e10 => ?_
          rw [show s9.1 68 = w.1 68 by rw [e9, sti_o (by decide)]] at e10
          have ex : ((w.1 68 0) + 1).toInt = (w.1 68 0).toInt + 1 := i1 (by omega)
          have n10 : nMt s10 = nMt w + 1 := by
            show (s10.1 68 0).toInt.toNat = _
            rw [e10, sti_if, if_pos rfl, ex]
            show _ = (w.1 68 0).toInt.toNat + 1
            omega
          have r67 : ∀ j, s10.1 67 j = if j = (w.1 68 0).toNatClampNeg then e else w.1 67 j := fun j => by
            rw [e10, sti_o (by decide), e9, sti_if]
          have nm : (w.1 68 0).toNatClampNeg = nMt w := by show _ = (w.1 68 0).toInt.toNat; omega
          have F10 : FR [67, 68] [] w s10 := by
            rw [e10]; refine FR.st ?_ (by decide)
            rw [e9]; exact FR.st FR.rf (by decide)
          refine ok_ret ⟨by rw [e10]; refine pM_68 ?_ (by omega); rw [e9]; exact pM_67 w1 (by omega), FR.cal w2 F10 rfl rfl, fun i hi => ?_, fun i j hi hj y => ?_⟩
          · rw [n10] at hi
            refine (TT.fr67 F10 _ _ _).mpr ?_
            rw [r67, nm]
            by_cases y : i = nMt w
            · rw [if_pos y]; exact T
            · rw [if_neg y]; exact w3.1 i (by omega)
          · rw [n10] at hi hj
            rw [r67, r67, nm] at y
            by_cases y3 : i = nMt w
            · by_cases y4 : j = nMt w
              · rw [y3, y4]
              · rw [if_pos y3, if_neg y4] at y; exact absurd y.symm (hno j (by omega))
            · by_cases y4 : j = nMt w
              · rw [if_neg y3, if_pos y4] at y; exact absurd y (hno i (by omega))
              · rw [if_neg y3, if_neg y4] at y; exact w3.2 i j (by omega) (by omega) y
        · rw [fa_le] at c1
          have xl : x.toNatClampNeg < nMt w := by omega
          refine ok_ix (by omega) ?_
          refine ok_lt fun v11 e11 => ?_
          subst e11
          have g67 := gM_67 w1 x.toNatClampNeg
          refine ok_calp (sd_areAlike w1 250 60 60 60 _ e (by omega) e0 ((w3.1 _ xl).up (by decide) (by decide)) T) (fun v12 q => ?_)
          refine ok_ite (fun c2 => ?_) (fun _ => ok_ret ⟨w1, w2, w3⟩)
          rw [fa_eq, k_0] at c2
          refine ok_lt fun x14 e14 => ?_
          have ex : x14.toInt = x.toInt + 1 := by rw [e14]; exact i1 (by omega)
          have c14 := clamp_I (x := x14) (by omega)
          refine ih2 (6001 - x14.toInt).toNat x14 (by omega) ⟨rfl, by omega, by omega, fun i hi => ?_⟩
          by_cases y : i = x.toNatClampNeg
          · rw [y]
            intro r
            have c67 := clamp_I g67.1
            have := q.2 (Int32.toInt_inj.mp (by omega))
            omega
          · exact hno i (by omega)
      · refine ok_ite (fun _ => hk u ⟨u1, u2, u3⟩) (fun c3 => ?_)
        rw [fa_eq, k_0] at c3
        have k6 := q3.2.mp (by omega)
        rw [u2.1 38 (by decide)] at k6
        rcases h3 with h3 | ⟨h3, -⟩ | ⟨-, p, q, hpq, h4, h5⟩
        · omega
        · omega
        · refine ok_ix ei ?_
          refine ok_lt fun v16 e16 => ?_
          rw [u2.1 40 (by decide)] at e16
          subst e16
          have a3 := gM_40 hB e.toNatClampNeg
          refine ok_cals (ih q _ u u1 u3 a3.1 (by omega) ((TT.fr67 u2 _ _ _).mpr h5)) (fun s17 t => ?_)
          exact hk s17 ⟨t.1, FR.cal u2 t.2.1 rfl rfl, t.2.2⟩
    · refine ok_jnI0 (6 < (σ.1 38 e.toNatClampNeg).toInt ∨ (σ.1 38 e.toNatClampNeg).toInt = 5 ∨ (σ.1 38 e.toNatClampNeg).toInt = 6) (fun w => ?_) (fun k2 hk2 => ?_)
      · have C : ∃ p, p ≤ 60 ∧ TZ (σ.1 38) (σ.1 39) (σ.1 40) (σ.1 41 0).toInt d p (σ.1 39 e.toNatClampNeg).toNatClampNeg := by
          rcases h3 with h3 | ⟨-, h4⟩ | ⟨-, p, q, hpq, h4, -⟩
          · omega
          · exact ⟨z - 1, by omega, h4⟩
          · exact ⟨p, by omega, h4⟩
        obtain ⟨p, p1, p2⟩ := C
        refine ok_ix ei ?_
        refine ok_lt fun v19 e19 => ?_
        subst e19
        exact ok_cals (ih p _ σ hB hM a1.1 p1 p2) (fun s20 t => hk s20 t)
      · refine ok_ite (fun c1 => ?_) (fun c1 => ?_)
        · refine ok_calp (s_X12_isBoth hB (by omega)) (fun v22 q22 => ?_)
          refine ok_ite (fun _ => hk σ ⟨hB, FR.rf, hM⟩) (fun c2 => ?_)
          rw [fa_eq, k_0] at c2
          exact hk2 (Or.inl (q22.2.mp (by omega)))
        · rw [fa_eq, k_0] at c1
          exact hk2 (Or.inr (q1.2.mp (by omega)))
