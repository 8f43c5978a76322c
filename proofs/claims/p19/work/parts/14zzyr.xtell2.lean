theorem edgeTo_cg {x y : Int32} {σ τ : Sto} (e27 : τ.1 27 = σ.1 27) (e28 : τ.1 28 = σ.1 28) (e29 : τ.1 29 = σ.1 29) (e30 : τ.1 30 = σ.1 30) : f_X0_edgeTo x y τ = f_X0_edgeTo x y σ := by
  unfold f_X0_edgeTo
  rw [e27, e28, e29, e30]
/-- where a block goes on, as the lines want it -/
def ONL (σ s : Sto) (b : Nat) : Prop := (FORK s b → (σ.1 24 b).toInt = fallT s b ∧ (σ.1 25 b).toInt = jmpT s b) ∧ (¬ FORK s b → (σ.1 25 b).toInt = -1 ∧ (sG s (laR s b) = 103 → (σ.1 24 b).toInt = jmpT s b) ∧ (sG s (laR s b) ≠ 103 → gOnI (sG s (laR s b)) → (σ.1 24 b).toInt = fallT s b) ∧ (sG s (laR s b) ≠ 103 → ¬ gOnI (sG s (laR s b)) → (σ.1 24 b).toInt = -1))
/-- what of a block is alike -/
def WTB (σ s : Sto) (b : Nat) : Prop := (σ.1 26 b).toInt = (s.1 25 b).toInt ∧ (σ.1 41 b).toInt = (s.1 34 b).toInt ∧ (bL (σ.2 4 0) b = true ↔ MGp s b) ∧ (bL (σ.2 2 0) b = true ↔ s.2 1 b ≠ 0) ∧ ONL σ s b
/-- what the telling wants of both -/
def WTL (σ s : Sto) : Prop := LNW s ∧ (σ.1 20 0).toInt = (nB s : Int) ∧ (∀ b, b < nB s → WTB σ s b) ∧ (∀ b, b ≤ nB s → (σ.1 56 b).toInt = sB s b) ∧ (∀ p, p < nB s → ∃ b, b < nB s ∧ (σ.1 39 p).toInt = (b : Int) ∧ oR s b = (p : Int)) ∧ (∀ e, e < nE s → ((σ.1 37 e).toInt ≠ 0 ↔ (s.1 30 e).toInt ≠ 0) ∧ ((σ.1 38 e).toInt ≠ 0 ↔ (s.1 31 e).toInt ≠ 0)) ∧ ∀ (x y : Int32) (e : Nat), e < nE s → eF s e = x.toInt → eT s e = y.toInt → 0 ≤ x.toInt → PC (f_X0_edgeTo x y σ) (fun v => v.toInt = (e : Int))
theorem t_tellStatements {σ s τ : Sto} {x : Int32} {n : Nat} (W : WTL σ s) (f : FR MSl [] σ τ) (x0 : 0 ≤ x.toInt) (xb : x.toNatClampNeg < nB s) (h : (τ.1 68 0).toInt = (n : Int)) (hn : n + (1 + (tyL s x.toNatClampNeg).length + (sB s (x.toNatClampNeg + 1) - sB s x.toNatClampNeg).toNat + (caL s x.toNatClampNeg).length) ≤ 800) : PC (f_X2_tellStatements x τ) (TPX n ([(11, (x.toNatClampNeg : Int), -1)] ++ (tyL s x.toNatClampNeg ++ (stLs x.toNatClampNeg (sB s x.toNatClampNeg) (sB s (x.toNatClampNeg + 1) - sB s x.toNatClampNeg).toNat ++ caL s x.toNatClampNeg))) τ) := by
  have k_0 : (0 : Int32).toInt = 0 := by decide +kernel
  have k_9 : (9 : Int32).toInt = 9 := by decide +kernel
  have k_11 : (11 : Int32).toInt = 11 := by decide +kernel
  have k_m1 : ((-1) : Int32).toInt = -1 := by decide +kernel
  have cx := clamp_I x0
  have nb := nB_le W.1.1
  obtain ⟨w1, w2, w3, w4, _⟩ := W
  have wb := (w3 _ xb).1
  have st0 := w4 x.toNatClampNeg (by omega)
  have st1 := w4 (x.toNatClampNeg + 1) (by omega)
  have cn := csW_nn w1 _ xb
  have ce : csW s x.toNatClampNeg = 12 + (sB s (x.toNatClampNeg + 1) - sB s x.toNatClampNeg) := rfl
  have cx1 : (x + 1).toNatClampNeg = x.toNatClampNeg + 1 := by
    have e : (x + 1).toInt = x.toInt + 1 := i1 (by omega)
    have := clamp_I (x := x + 1) (by omega)
    omega
  unfold f_X2_tellStatements
  refine pc_cals (u_add (w := -1) h (by omega) (pl_dec (by omega)) (fun z => by omega)) (fun s1 a1 => ?_)
  rw [k_11, ← cx] at a1
  refine pc_ix (fun _ => ?_)
  rw [a1.1.1 26 (by decide), f.1 26 (by decide)]
  refine pc_lt fun v2 e2 => ?_
  refine pc_jnI1 (fun t => (t.toInt = 0 ∧ (s.1 25 x.toNatClampNeg).toInt = -1) ∨ (t.toInt = 1 ∧ (s.1 25 x.toNatClampNeg).toInt ≠ -1)) (fun t0 ht => ?_) (fun k hk => ?_)
  · refine pc_jnI1 (fun u => TPX n ([(11, (x.toNatClampNeg : Int), -1)] ++ tyL s x.toNatClampNeg) τ u) (fun u hu => ?_) (fun k hk => ?_)
    · have lu := ty_len s x.toNatClampNeg
      refine pc_ix (fun _ => ?_)
      rw [hu.1.1 56 (by decide), f.1 56 (by decide)]
      refine pc_lt fun v5 e5 => ?_
      have v5t : v5.toInt = sB s x.toNatClampNeg := by rw [e5]; exact st0
      refine pc_itr2 (fun j r => sB s x.toNatClampNeg ≤ j.toInt ∧ j.toInt ≤ sB s (x.toNatClampNeg + 1) ∧ TPX n ([(11, (x.toNatClampNeg : Int), -1)] ++ tyL s x.toNatClampNeg ++ stLs x.toNatClampNeg (sB s x.toNatClampNeg) (j.toInt - sB s x.toNatClampNeg).toNat) τ r) ?_ ⟨by omega, by omega, by rw [v5t, show (sB s x.toNatClampNeg - sB s x.toNatClampNeg).toNat = 0 by omega]; exact hu.to (List.append_nil _).symm⟩
      intro ag j r I ih
      obtain ⟨j0, j1, hr⟩ := I
      have hs := stLs_len (x.toNatClampNeg : Int) (sB s x.toNatClampNeg) (j.toInt - sB s x.toNatClampNeg).toNat
      have ln : ([((11 : Int), (x.toNatClampNeg : Int), (-1 : Int))] ++ tyL s x.toNatClampNeg ++ stLs x.toNatClampNeg (sB s x.toNatClampNeg) (j.toInt - sB s x.toNatClampNeg).toNat).length = 1 + (tyL s x.toNatClampNeg).length + (j.toInt - sB s x.toNatClampNeg).toNat := by
        rw [List.length_append, List.length_append, hs]
        rfl
      have h68 := hr.2.1
      rw [ln] at h68
      refine pc_ix (fun _ => ?_)
      rw [cx1, hr.1.1 56 (by decide), f.1 56 (by decide)]
      refine pc_lt fun v7 e7 => ?_
      have v7t : v7.toInt = sB s (x.toNatClampNeg + 1) := by rw [e7]; exact st1
      refine pc_ite (fun c => ?_) (fun c => ?_)
      · rw [fa_le, v7t] at c
        have je : j.toInt = sB s (x.toNatClampNeg + 1) := by omega
        rw [je] at hr h68 ln
        refine pc_ite (fun c2 => ?_) (fun c2 => ?_)
        · rw [fa_eq, k_0] at c2
          have z : (s.1 25 x.toNatClampNeg).toInt = -1 := by
            rcases ht with q | q
            · exact q.2
            · omega
          have ec : caL s x.toNatClampNeg = [] := by unfold caL; rw [if_pos z]
          rw [ec, List.append_nil, ← List.append_assoc]
          exact pc_ret hr
        · rw [fa_eq, k_0] at c2
          have z : (s.1 25 x.toNatClampNeg).toInt ≠ -1 := by
            rcases ht with q | q
            · omega
            · exact q.2
          have ec : caL s x.toNatClampNeg = [(10, (s.1 25 x.toNatClampNeg).toInt, (x.toNatClampNeg : Int))] := by unfold caL; rw [if_neg z]
          have lc : (caL s x.toNatClampNeg).length = 1 := by rw [ec]; rfl
          refine pc_lt fun s10 e10 => ?_
          refine pc_ix (fun _ => ?_)
          rw [show s10.1 26 = σ.1 26 by rw [e10, sti_o (by decide), hr.1.1 26 (by decide), f.1 26 (by decide)]]
          refine pc_lt fun v11 e11 => ?_
          have v11t : v11.toInt = (s.1 25 x.toNatClampNeg).toInt := by rw [e11]; exact wb
          refine pc_cals (u_catch (w := (x.toNatClampNeg : Int)) h68 (by omega) e10) (fun s12 a12 => ?_)
          rw [v11t, ← ec] at a12
          rw [← ln] at a12
          exact pc_ret ((hr.app a12).to (by simp only [List.append_assoc]))
      · rw [fa_le, v7t] at c
        have g45 := gM_45 w1.1 (x.toNatClampNeg + 1)
        have j3 : 0 ≤ j.toInt := by
          have := gM_45 w1.1 x.toNatClampNeg
          unfold sB at j0
          omega
        refine pc_cals (u_add (w := j.toInt) h68 (by omega) (pl_dec (by omega)) (fun _ => rfl)) (fun s13 a13 => ?_)
        rw [k_0, ← cx, ← ln] at a13
        have c' : j.toInt < (s.1 45 (x.toNatClampNeg + 1)).toInt := by unfold sB at c; omega
        have ej : (j + 1).toInt = j.toInt + 1 := i1 (by omega)
        refine pc_lt fun x14 e14 => ?_
        subst e14
        refine ih (j + 1) s13 ⟨by omega, by omega, ?_⟩
        rw [ej, show (j.toInt + 1 - sB s x.toNatClampNeg).toNat = (j.toInt - sB s x.toNatClampNeg).toNat + 1 by omega, stLs_s, show sB s x.toNatClampNeg + ((j.toInt - sB s x.toNatClampNeg).toNat : Int) = j.toInt by omega]
        exact (hr.app a13).to (by simp only [List.append_assoc])
    · refine pc_ite (fun c => ?_) (fun c => ?_)
      · rw [fa_eq, k_0] at c
        have z : (s.1 25 x.toNatClampNeg).toInt = -1 := by
          rcases ht with q | q
          · exact q.2
          · omega
        have ey : tyL s x.toNatClampNeg = [] := by unfold tyL; rw [if_pos z]
        refine hk s1 ?_
        rw [ey, List.append_nil]
        exact a1
      · rw [fa_eq, k_0] at c
        have z : (s.1 25 x.toNatClampNeg).toInt ≠ -1 := by
          rcases ht with q | q
          · omega
          · exact q.2
        have ey : tyL s x.toNatClampNeg = [(9, (x.toNatClampNeg : Int), -1)] := by unfold tyL; rw [if_neg z]
        have ly : (tyL s x.toNatClampNeg).length = 1 := by rw [ey]; rfl
        refine pc_cals (u_open (w := -1) (n := n + 1) a1.2.1 (by omega) (Or.inr (Or.inr (Or.inr k_9)))) (fun s16 a16 => ?_)
        rw [k_9, ← cx, ← ey] at a16
        exact hk s16 (a1.app a16)
  · refine pc_ite (fun c => hk 0 (Or.inl ⟨k_0, ?_⟩)) (fun c => hk 1 (Or.inr ⟨by decide +kernel, ?_⟩))
    · rw [fa_eq, k_m1, e2] at c; omega
    · rw [fa_eq, k_m1, e2] at c; omega
/-- the end of a block, as lines -/
def TLE (s : Sto) (d b : Nat) (tl : List Ln) : Prop := (FORK s b ∧ ∃ l1 l2, TEL s d 3 b (fallT s b) l1 ∧ TEL s d 3 b (jmpT s b) l2 ∧ tl = [(3, (b : Int), -1)] ++ (l1 ++ ([(4, (b : Int), -1)] ++ (l2 ++ [(5, (b : Int), 3)])))) ∨ (¬ FORK s b ∧ sG s (laR s b) = 103 ∧ TEL s d 3 b (jmpT s b) tl) ∨ (¬ FORK s b ∧ sG s (laR s b) ≠ 103 ∧ gOnI (sG s (laR s b)) ∧ TEL s d 3 b (fallT s b) tl) ∨ (¬ FORK s b ∧ (sG s (laR s b) ≠ 103 ∧ ¬ gOnI (sG s (laR s b))) ∧ tl = [])
def TTD (σ s : Sto) (D : Nat) : Prop := ∀ (x lv : Int32) (τ : Sto) (n d : Nat) (l : List Ln), 0 ≤ x.toInt → x.toNatClampNeg < nB s → 0 ≤ lv.toInt → lv.toInt ≤ oR s x.toNatClampNeg → FR MSl [] σ τ → TEL s d 0 x.toNatClampNeg 0 l → (τ.1 68 0).toInt = (n : Int) → n + l.length ≤ 800 → PC (f_X2_tell D x lv τ) (TPX n l τ)
def TED (σ s : Sto) (D : Nat) : Prop := ∀ (x lv : Int32) (τ : Sto) (n d : Nat) (l : List Ln), 0 ≤ x.toInt → x.toNatClampNeg < nB s → 0 ≤ lv.toInt → lv.toInt ≤ oR s x.toNatClampNeg → FR MSl [] σ τ → TLE s d x.toNatClampNeg l → (τ.1 68 0).toInt = (n : Int) → n + l.length ≤ 800 → PC (f_X2_tellEnd D x lv τ) (TPX n l τ)
def TGD (σ s : Sto) (D : Nat) : Prop := ∀ (x y lv : Int32) (τ : Sto) (n d : Nat) (l : List Ln), 0 ≤ x.toInt → x.toNatClampNeg < nB s → 0 ≤ lv.toInt → lv.toInt ≤ oR s x.toNatClampNeg → FR MSl [] σ τ → TEL s d 3 x.toNatClampNeg y.toInt l → (τ.1 68 0).toInt = (n : Int) → n + l.length ≤ 800 → PC (f_X2_goOn D x y lv τ) (TPX n l τ)
theorem goOn_no {x y lv : Int32} {τ : Sto} (h : y.toInt = -1) : ∀ D, PC (f_X2_goOn D x y lv τ) (fun s => s = τ)
  | 0 => pc_no
  | D + 1 => by
    have k_m1 : ((-1) : Int32).toInt = -1 := by decide +kernel
    show PC (b_X2_goOn (f_X2_goOn D) (f_X2_tellEnd D) (f_X2_tell D) x y lv τ) _
    unfold b_X2_goOn
    refine pc_ite (fun _ => pc_ret rfl) (fun c => ?_)
    rw [fa_eq, k_m1] at c
    exact absurd h c
theorem d_goOn {σ s : Sto} (W : WTL σ s) {D : Nat} (hT : TTD σ s D) : TGD σ s (D + 1) := by
  intro x y lv τ n d l x0 xb lv0 lvo f t h hn
  have k_0 : (0 : Int32).toInt = 0 := by decide +kernel
  have k_6 : (6 : Int32).toInt = 6 := by decide +kernel
  have k_7 : (7 : Int32).toInt = 7 := by decide +kernel
  have k_8 : (8 : Int32).toInt = 8 := by decide +kernel
  have k_m1 : ((-1) : Int32).toInt = -1 := by decide +kernel
  have cx := clamp_I x0
  obtain ⟨w1, w2, w3, w4, w5, w6, w7⟩ := W
  have nb := nB_le w1.1
  cases d with
  | zero => exact t.elim
  | succ d =>
    rcases t with ⟨z, _⟩ | ⟨z, _⟩ | ⟨z, _⟩ | ⟨_, e, e1, e2, e3, t⟩
    · exact absurd z (by decide)
    · exact absurd z (by decide)
    · exact absurd z (by decide)
    · have q := w1.2.2.2.1.1 e e1
      have y0 : 0 ≤ y.toInt := by rw [← e3]; exact q.2.1.1
      have yb : y.toInt < (nB s : Int) := by rw [← e3]; exact q.2.1.2
      have cy := clamp_I y0
      obtain ⟨wj, wk⟩ := w6 e e1
      show PC (b_X2_goOn (f_X2_goOn D) (f_X2_tellEnd D) (f_X2_tell D) x y lv τ) _
      unfold b_X2_goOn
      refine pc_ite (fun c => ?_) (fun _ => ?_)
      · rw [fa_eq, k_m1] at c; omega
      refine pc_calp (Q := fun v => v.toInt = (e : Int)) (by rw [edgeTo_cg (f.1 27 (by decide)) (f.1 28 (by decide)) (f.1 29 (by decide)) (f.1 30 (by decide))]; exact w7 x y e e1 (by rw [e2, cx]) e3 x0) (fun v2 hv => ?_)
      have cv : v2.toNatClampNeg = e := by have := clamp_I (x := v2) (by omega); omega
      refine pc_ix (fun _ => ?_)
      rw [cv, f.1 37 (by decide)]
      refine pc_lt fun v3 ev3 => ?_
      have one : ∀ {k : Int32} {w : Int}, (k.toInt = 6 ∨ k.toInt = 7 ∨ k.toInt = 8) → l = [(k.toInt, y.toInt, w)] → PC (cals (f_X2_add k y ((-1) : Int32) τ) fun s_9 => some s_9) (TPX n l τ) := fun {k w} hk el => by
        rw [el] at hn ⊢
        exact pc_cals (u_add h (by simp only [List.length_cons, List.length_nil] at hn; omega) (pl_dec (by omega)) (fun z => by omega)) (fun s9 a9 => pc_ret a9)
      refine pc_ite (fun c3 => ?_) (fun c3 => ?_)
      · rw [fa_eq, k_0, ev3] at c3
        have j0 : (s.1 30 e).toInt = 0 := Classical.byContradiction fun z => wj.mpr z c3
        refine pc_ix (fun _ => ?_)
        rw [f.1 38 (by decide)]
        refine pc_lt fun v5 ev5 => ?_
        refine pc_ite (fun c5 => ?_) (fun c5 => ?_)
        · rw [fa_eq, k_0, ev5] at c5
          have b0 : (s.1 31 e).toInt = 0 := Classical.byContradiction fun z => wk.mpr z c5
          refine pc_calp (t_isInB (x := τ.2 4 0) (i := y) y0 (by omega)) (fun v7 h7 => ?_)
          rw [f.2 4 List.not_mem_nil] at h7
          have wm := (w3 y.toNatClampNeg (by omega)).2.2.1
          rcases t with ⟨z, _⟩ | ⟨_, z, _⟩ | ⟨fw, mm, el⟩ | ⟨fw, nm, t⟩
          · exact absurd j0 z
          · exact absurd b0 z
          · obtain ⟨ea, eb⟩ := go_ab w1.1 e2 e3
            have eby : eB s e = y.toNatClampNeg := by omega
            refine pc_ite (fun c7 => ?_) (fun _ => ?_)
            · exact absurd (wm.mpr (by rw [← eby]; exact mm)) (h7.mp c7)
            · exact one (Or.inl k_6) (by rw [k_6]; exact el)
          · obtain ⟨ea, eb⟩ := go_ab w1.1 e2 e3
            have eby : eB s e = y.toNatClampNeg := by omega
            refine pc_ite (fun _ => ?_) (fun c7 => ?_)
            · have o := w1.lt (w1.ch fw nm)
              rw [ea, eby] at o
              have g33 := gM_33 w1.1 x.toNatClampNeg
              have lv40 : lv.toInt < 100 := by unfold oR at lvo; omega
              have elv : (lv + 1).toInt = lv.toInt + 1 := i1 (by omega)
              rw [eby] at t
              exact pc_cals (hT y (lv + 1) τ n d l y0 (by omega) (by omega) (by omega) f t h hn) (fun s8 a8 => pc_ret a8)
            · exact absurd (wm.mp (Classical.byContradiction fun z => c7 (h7.mpr z))) (by rw [← eby]; exact nm)
        · rw [fa_eq, k_0, ev5] at c5
          have b1 := wk.mp c5
          rcases t with ⟨z, _⟩ | ⟨_, _, el⟩ | ⟨fw, _⟩ | ⟨fw, _⟩
          · exact absurd j0 z
          · exact one (Or.inr (Or.inl k_7)) (by rw [k_7]; exact el)
          · exact absurd fw.2 b1
          · exact absurd fw.2 b1
      · rw [fa_eq, k_0, ev3] at c3
        have j1 := wj.mp c3
        rcases t with ⟨_, el⟩ | ⟨z, _⟩ | ⟨fw, _⟩ | ⟨fw, _⟩
        · exact one (Or.inr (Or.inr k_8)) (by rw [k_8]; exact el)
        · exact absurd z j1
        · exact absurd fw.1.2 j1
        · exact absurd fw.1.2 j1
theorem d_tellEnd {σ s : Sto} (W : WTL σ s) {D : Nat} (hG : TGD σ s D) : TED σ s (D + 1) := by
  intro x lv τ n d l x0 xb lv0 lvo f t h hn
  have k_3 : (3 : Int32).toInt = 3 := by decide +kernel
  have k_m1 : ((-1) : Int32).toInt = -1 := by decide +kernel
  have cx := clamp_I x0
  obtain ⟨w1, w2, w3, w4, w5, w6, w7⟩ := W
  obtain ⟨_, _, _, _, on1, on2⟩ := w3 _ xb
  show PC (b_X2_tellEnd (f_X2_goOn D) (f_X2_tellEnd D) (f_X2_tell D) x lv τ) _
  unfold b_X2_tellEnd
  refine pc_ix (fun _ => ?_)
  rw [f.1 25 (by decide)]
  refine pc_lt fun v1 ev1 => ?_
  -- a way alone
  have way : ¬ FORK s x.toNatClampNeg → (∀ v3 : Int32, v3 = σ.1 24 x.toNatClampNeg → PC (f_X2_goOn D x v3 lv τ) (TPX n l τ)) → PC (if v1 = (-1) then (ix 40 x <| lt (τ.1 24 x.toNatClampNeg) fun v_3 => cals (f_X2_goOn D x v_3 lv τ) fun s_4 => some s_4) else (cals (f_X2_openLine (3 : Int32) x τ) fun s_5 => ix 40 x <| lt (s_5.1 24 x.toNatClampNeg) fun v_6 => cals (f_X2_goOn D x v_6 lv s_5) fun s_7 => lt (sti s_7 77 0 ((s_7.1 77 0) - 1)) fun s_8 => cals (f_X2_openLine (4 : Int32) x s_8) fun s_9 => cals (f_X2_goOn D x v1 lv s_9) fun s_10 => cals (f_X2_closeLine x s_10) fun s_11 => some s_11)) (TPX n l τ) := fun nf hv => by
    refine pc_ite (fun _ => ?_) (fun c => ?_)
    · refine pc_ix (fun _ => ?_)
      rw [f.1 24 (by decide)]
      refine pc_lt fun v3 ev3 => ?_
      exact pc_cals (hv v3 ev3) (fun s4 a4 => pc_ret a4)
    · rw [fa_eq, k_m1, ev1] at c
      exact absurd (on2 nf).1 c
  rcases t with ⟨fk, l1, l2, t1, t2, el⟩ | ⟨nf, g, t⟩ | ⟨nf, g1, g2, t⟩ | ⟨nf, g, el⟩
  · obtain ⟨o1, o2⟩ := on1 fk
    have jp : 0 ≤ jmpT s x.toNatClampNeg := by
      cases d with
      | zero => exact t2.elim
      | succ d =>
        rcases t2 with ⟨z, _⟩ | ⟨z, _⟩ | ⟨z, _⟩ | ⟨_, e, e1, e2, e3, _⟩
        · exact absurd z (by decide)
        · exact absurd z (by decide)
        · exact absurd z (by decide)
        · rw [← e3]; exact (w1.2.2.2.1.1 e e1).2.1.1
    rw [el] at hn ⊢
    simp only [List.length_append, List.length_cons, List.length_nil] at hn
    refine pc_ite (fun c => ?_) (fun _ => ?_)
    · rw [fa_eq, k_m1, ev1] at c; omega
    · refine pc_cals (u_open (w := -1) h (by omega) (Or.inr (Or.inr (Or.inl k_3)))) (fun s5 a5 => ?_)
      rw [k_3, ← cx] at a5
      have f5 : FR MSl [] σ s5 := FR.cal f a5.1 rfl rfl
      refine pc_ix (fun _ => ?_)
      rw [f5.1 24 (by decide)]
      refine pc_lt fun v6 ev6 => ?_
      have e6 : v6.toInt = fallT s x.toNatClampNeg := by rw [ev6]; exact o1
      refine pc_cals (hG x v6 lv s5 (n + 1) d l1 x0 xb lv0 lvo f5 (by rw [e6]; exact t1) a5.2.1 (by omega)) (fun s7 a7 => ?_)
      have f7 : FR MSl [] σ s7 := FR.cal f5 a7.1 rfl rfl
      refine pc_lt fun s8 ev8 => ?_
      refine pc_cals (u_else (w := -1) a7.2.1 (by omega) ev8) (fun s9 a9 => ?_)
      rw [← cx] at a9
      have f9 : FR MSl [] σ s9 := FR.cal f7 a9.1 rfl rfl
      have e1 : v1.toInt = jmpT s x.toNatClampNeg := by rw [ev1]; exact o2
      refine pc_cals (hG x v1 lv s9 (n + 1 + l1.length + 1) d l2 x0 xb lv0 lvo f9 (by rw [e1]; exact t2) a9.2.1 (by omega)) (fun s10 a10 => ?_)
      refine pc_cals (u_close (w := 3) a10.2.1 (by omega)) (fun s11 a11 => ?_)
      rw [← cx] at a11
      have A1 := a5.app a7
      have A2 := A1.app (show TPX (n + ([((3 : Int), (x.toNatClampNeg : Int), (-1 : Int))] ++ l1).length) _ s7 s9 from by
        rw [show n + ([((3 : Int), (x.toNatClampNeg : Int), (-1 : Int))] ++ l1).length = n + 1 + l1.length by simp only [List.length_append, List.length_cons, List.length_nil]; omega]
        exact a9)
      have A3 := A2.app (show TPX (n + ([((3 : Int), (x.toNatClampNeg : Int), (-1 : Int))] ++ l1 ++ [((4 : Int), (x.toNatClampNeg : Int), (-1 : Int))]).length) _ s9 s10 from by
        rw [show n + ([((3 : Int), (x.toNatClampNeg : Int), (-1 : Int))] ++ l1 ++ [((4 : Int), (x.toNatClampNeg : Int), (-1 : Int))]).length = n + 1 + l1.length + 1 by simp only [List.length_append, List.length_cons, List.length_nil]; omega]
        exact a10)
      have A4 := A3.app (show TPX (n + ([((3 : Int), (x.toNatClampNeg : Int), (-1 : Int))] ++ l1 ++ [((4 : Int), (x.toNatClampNeg : Int), (-1 : Int))] ++ l2).length) _ s10 s11 from by
        rw [show n + ([((3 : Int), (x.toNatClampNeg : Int), (-1 : Int))] ++ l1 ++ [((4 : Int), (x.toNatClampNeg : Int), (-1 : Int))] ++ l2).length = n + 1 + l1.length + 1 + l2.length by simp only [List.length_append, List.length_cons, List.length_nil]; omega]
        exact a11)
      exact pc_ret (A4.to (by simp only [List.append_assoc]))
  · exact way nf (fun v3 ev3 => hG x v3 lv τ n d l x0 xb lv0 lvo f (by rw [ev3, (on2 nf).2.1 g]; exact t) h hn)
  · exact way nf (fun v3 ev3 => hG x v3 lv τ n d l x0 xb lv0 lvo f (by rw [ev3, (on2 nf).2.2.1 g1 g2]; exact t) h hn)
  · refine way nf (fun v3 ev3 => pc_imp (goOn_no (by rw [ev3]; exact (on2 nf).2.2.2 g.1 g.2) D) (fun s4 e4 => ?_))
    rw [e4, el]
    exact TPX.nil h
/-- what is told behind a block, merge by merge -/
def RSL (s : Sto) (x : Nat) (od : Nat → Nat) : Nat → Nat → List Ln → Prop
  | 0, _, r => r = []
  | j + 1, p, r => (MC s x (od p) ∧ ∃ d l2 r', TEL s d 0 (od p) 0 l2 ∧ r = [(5, (od p : Int), 2)] ++ (l2 ++ r') ∧ RSL s x od j (p + 1) r') ∨ (¬ MC s x (od p) ∧ RSL s x od j (p + 1) r)
/-- one place down, where no merge stands -/
theorem tel_dn {s : Sto} {x p d : Nat} {l : List Ln} (hW : LNW s) {m : Nat} (hm : m < nB s) (hp : oR s m = (p : Int)) (hno : ¬ MC s x m) (t : TEL s d 1 x ((p : Int) + 1) l) : TEL s d 1 x (p : Int) l := by
  cases d with
  | zero => exact t.elim
  | succ d =>
    rcases t with ⟨z, _⟩ | ⟨_, ⟨a, t⟩ | ⟨u, l1, l2, u1, u2, u3, t1, t2, e⟩⟩ | ⟨z, _⟩ | ⟨z, _⟩
    · exact absurd z (by decide)
    · exact Or.inr (Or.inl ⟨rfl, Or.inl ⟨fun v hv => by have := a v hv; omega, t⟩⟩)
    · have ne : oR s u ≠ (p : Int) := fun z => hno (by
        have e := hW.2.2.2.2.2.1.1 u m u1.1.1 hm (by show oR s u = oR s m; rw [z, hp])
        rw [← e]; exact u1)
      exact Or.inr (Or.inl ⟨rfl, Or.inr ⟨u, l1, l2, u1, by omega, fun v hv hk => u3 v hv (by omega), t1, t2, e⟩⟩)
    · exact absurd z (by decide)
    · exact absurd z (by decide)
theorem tel_mg {s : Sto} {x p d : Nat} {l : List Ln} (hW : LNW s) {m : Nat} (hp : oR s m = (p : Int)) (hm : MC s x m) (t : TEL s d 1 x ((p : Int) + 1) l) : ∃ d2 l1 l2, TEL s d2 1 x (p : Int) l1 ∧ TEL s d2 0 m 0 l2 ∧ l = [(2, (m : Int), -1)] ++ (l1 ++ ([(5, (m : Int), 2)] ++ l2)) := by
  cases d with
  | zero => exact t.elim
  | succ d =>
    rcases t with ⟨z, _⟩ | ⟨_, ⟨a, t⟩ | ⟨u, l1, l2, u1, u2, u3, t1, t2, e⟩⟩ | ⟨z, _⟩ | ⟨z, _⟩
    · exact absurd z (by decide)
    · have := a m hm; omega
    · have b := u3 m hm (by omega)
      have e2 := hW.2.2.2.2.2.1.1 u m u1.1.1 hm.1.1 (by show oR s u = oR s m; omega)
      subst e2
      rw [hp] at t1
      exact ⟨d, l1, l2, t1, t2, e⟩
    · exact absurd z (by decide)
    · exact absurd z (by decide)
theorem tel_in {s : Sto} {x d : Nat} {l : List Ln} (hB : BM s) (t : TEL s d 1 x 0 l) : ∃ d2, TEL s d2 2 x 0 l := by
  cases d with
  | zero => exact t.elim
  | succ d =>
    rcases t with ⟨z, _⟩ | ⟨_, ⟨_, t⟩ | ⟨u, l1, l2, u1, u2, _⟩⟩ | ⟨z, _⟩ | ⟨z, _⟩
    · exact absurd z (by decide)
    · exact ⟨d, t⟩
    · have g := gM_33 hB u
      unfold oR at u2
      omega
    · exact absurd z (by decide)
    · exact absurd z (by decide)
theorem tel_2 {s : Sto} {x d : Nat} {l : List Ln} (t : TEL s d 2 x 0 l) : ∃ d2 tl, l = [(11, (x : Int), -1)] ++ (tyL s x ++ (stLs x (sB s x) (sB s (x + 1) - sB s x).toNat ++ (caL s x ++ tl))) ∧ TLE s d2 x tl := by
  cases d with
  | zero => exact t.elim
  | succ d =>
    rcases t with ⟨z, _⟩ | ⟨z, _⟩ | ⟨_, tl, e, t⟩ | ⟨z, _⟩
    · exact absurd z (by decide)
    · exact absurd z (by decide)
    · exact ⟨d, tl, e, t⟩
    · exact absurd z (by decide)
theorem tel_0 {s : Sto} {x d : Nat} {l : List Ln} (t : TEL s d 0 x 0 l) : ∃ d2, (s.2 1 x = 0 ∧ TEL s d2 1 x (nB s) l) ∨ (s.2 1 x ≠ 0 ∧ ∃ l1, TEL s d2 1 x (nB s) l1 ∧ l = [(1, (x : Int), -1)] ++ (l1 ++ [(5, (x : Int), 1)])) := by
  cases d with
  | zero => exact t.elim
  | succ d =>
    rcases t with ⟨_, t⟩ | ⟨z, _⟩ | ⟨z, _⟩ | ⟨z, _⟩
    · exact ⟨d, t⟩
    · exact absurd z (by decide)
    · exact absurd z (by decide)
    · exact absurd z (by decide)
/-- a block is told: the class tells what the reference tells -/
theorem d_tell {σ s : Sto} (W : WTL σ s) {D : Nat} (hT : TTD σ s D) (hE : TED σ s D) : TTD σ s (D + 1) := by
  intro x lv τ n d l x0 xb lv0 lvo f t h hn
  have k_0 : (0 : Int32).toInt = 0 := by decide +kernel
  have k_1 : (1 : Int32).toInt = 1 := by decide +kernel
  have k_2 : (2 : Int32).toInt = 2 := by decide +kernel
  have k_60 : (60 : Int32).toInt = 60 := by decide +kernel
  have k_m1 : ((-1) : Int32).toInt = -1 := by decide +kernel
  have cx := clamp_I x0
  have W0 := W
  obtain ⟨w1, w2, w3, w4, w5, w6, w7⟩ := W
  have hB := w1.1
  have nb := nB_le hB
  have g33 := gM_33 hB x.toNatClampNeg
  have wl := (w3 _ xb).2.2.2.1
  have od_ : ∀ p, p < nB s → ((σ.1 39 p).toInt = ((σ.1 39 p).toInt.toNat : Int)) ∧ (σ.1 39 p).toInt.toNat < nB s ∧ oR s (σ.1 39 p).toInt.toNat = (p : Int) := fun p hp => by
    obtain ⟨b, b1, b2, b3⟩ := w5 p hp
    have e : (σ.1 39 p).toInt.toNat = b := by omega
    rw [e]
    exact ⟨b2, b1, b3⟩
  have mu : ∀ m, m < nB s → ((bL (σ.2 4 0) m = true ∧ σ.1 41 m = x) ↔ MC s x.toNatClampNeg m) := fun m hm => by
    obtain ⟨_, b1, b2, _⟩ := w3 m hm
    constructor
    · rintro ⟨q1, q2⟩
      have e : (s.1 34 m).toInt = (x.toNatClampNeg : Int) := by rw [← b1, q2]; omega
      refine ⟨⟨hm, fun z => ?_, e⟩, b2.mp q1⟩
      have a0 := w1.2.2.2.2.2.2.1.1
      rw [z] at e
      omega
    · rintro ⟨⟨_, _, q1⟩, q2⟩
      refine ⟨b2.mpr q2, ?_⟩
      rw [fa_eq, b1, q1]
      omega
  obtain ⟨d2, tt⟩ := tel_0 t
  show PC (b_X2_tell (f_X2_goOn D) (f_X2_tellEnd D) (f_X2_tell D) x lv τ) _
  unfold b_X2_tell
  refine pc_ite (fun _ => ?_) (fun c => ?_)
  rotate_left
  · rw [fa_le, k_60] at c
    unfold oR at lvo
    exact absurd (by omega) c
  refine pc_calp (t_isInB (x := τ.2 2 0) (i := x) x0 (by omega)) (fun v2 h2 => ?_)
  rw [f.2 2 List.not_mem_nil] at h2
  have sp : ∃ pre post l1 : List Ln, TEL s d2 1 x.toNatClampNeg (nB s) l1 ∧ l = pre ++ (l1 ++ post) ∧ ((v2 = 0 ∧ pre = [] ∧ post = []) ∨ (v2 ≠ 0 ∧ pre = [(1, (x.toNatClampNeg : Int), -1)] ∧ post = [(5, (x.toNatClampNeg : Int), 1)])) := by
    rcases tt with ⟨a, tt⟩ | ⟨a, l1, tt, e⟩
    · exact ⟨[], [], l, tt, (List.append_nil l).symm, Or.inl ⟨h2.mpr (fun z => wl.mp z a), rfl, rfl⟩⟩
    · exact ⟨_, _, l1, tt, e, Or.inr ⟨fun z => h2.mp z (wl.mpr a), rfl, rfl⟩⟩
  obtain ⟨pre, post, l1, t1, el, hpp⟩ := sp
  have len : l.length = pre.length + (l1.length + post.length) := by rw [el, List.length_append, List.length_append]
  refine pc_jnI1 (fun u => TPX n pre τ u) (fun u hu => ?_) (fun k29 hk29 => ?_)
  rotate_left
  · refine pc_ite (fun c => ?_) (fun c => ?_)
    · rcases hpp with ⟨_, e, _⟩ | ⟨z, _⟩
      · refine hk29 τ ?_
        rw [e]
        exact TPX.nil h
      · exact absurd c z
    · rcases hpp with ⟨z, _⟩ | ⟨_, e, _⟩
      · exact absurd z c
      · rw [e] at len
        simp only [List.length_cons, List.length_nil] at len
        refine pc_cals (u_open (w := -1) h (by omega) (Or.inl k_1)) (fun s30 a30 => hk29 s30 ?_)
        rw [k_1, ← cx] at a30
        rw [e]
        exact a30
  have fu : FR MSl [] σ u := FR.cal f hu.1 rfl rfl
  refine pc_lt fun x4 e4 => ?_
  have x4t : x4.toInt = (nB s : Int) - 1 := by
    rw [e4, fu.1 20 (by decide), i32_m1 (by omega), w2]
  have hb1 := w1.2.2.2.2.2.2.2.2
  refine pc_itr2 (fun p r => ∃ q : Nat, p.toInt + 1 = (q : Int) ∧ q ≤ nB s ∧ ∃ (A l' rr : List Ln) (d' : Nat), TEL s d' 1 x.toNatClampNeg (q : Int) l' ∧ RSL s x.toNatClampNeg (fun p => (σ.1 39 p).toInt.toNat) (nB s - q) q rr ∧ TPX n A τ r ∧ pre ++ l1 = A ++ (l' ++ rr)) ?_ ⟨nB s, by omega, Nat.le_refl _, pre, l1, [], d2, t1, by rw [Nat.sub_self]; exact rfl, hu, by rw [List.append_nil]⟩
  intro ag p r I ih
  obtain ⟨q, pq, qn, A, l', rr, d', ta, hrs, hr, he⟩ := I
  have fr : FR MSl [] σ r := FR.cal f hr.1 rfl rfl
  have len2 := congrArg List.length he
  simp only [List.length_append] at len2
  refine pc_ite (fun c => ?_) (fun c => ?_)
  · rw [fa_lt, k_0] at c
    have q0 : q = 0 := by omega
    subst q0
    obtain ⟨d3, t2⟩ := tel_in hB ta
    obtain ⟨d4, tl, e2, te⟩ := tel_2 t2
    have hs := stLs_len (x.toNatClampNeg : Int) (sB s x.toNatClampNeg) (sB s (x.toNatClampNeg + 1) - sB s x.toNatClampNeg).toNat
    have len3 := congrArg List.length e2
    simp only [List.length_append, List.length_cons, List.length_nil, hs] at len3
    refine pc_cals (t_tellStatements W0 fr x0 xb hr.2.1 (by omega)) (fun s7 a7 => ?_)
    have f7 : FR MSl [] σ s7 := FR.cal fr a7.1 rfl rfl
    have n7 := a7.2.1
    refine pc_cals (hE x lv s7 _ d4 tl x0 xb lv0 lvo f7 te n7 (by simp only [List.length_append, List.length_cons, List.length_nil, hs]; omega)) (fun s8 a8 => ?_)
    have B8 : TPX n (A ++ l') τ s8 := (hr.app (a7.app a8)).to (by rw [e2]; simp only [List.append_assoc])
    refine pc_itr2 (fun y r2 => ∃ q : Nat, y.toInt = (q : Int) ∧ q ≤ nB s ∧ ∃ (B r' : List Ln), RSL s x.toNatClampNeg (fun p => (σ.1 39 p).toInt.toNat) (nB s - q) q r' ∧ TPX n B τ r2 ∧ pre ++ l1 = B ++ r') ?_ ⟨0, k_0, Nat.zero_le _, A ++ l', rr, hrs, B8, by rw [he, List.append_assoc]⟩
    intro ag2 y r2 I2 ih2
    obtain ⟨q, yq, qn, B, r', hrs, hr2, he2⟩ := I2
    have fr2 : FR MSl [] σ r2 := FR.cal f hr2.1 rfl rfl
    have cy := clamp_I (x := y) (by omega)
    have yn : y.toNatClampNeg = q := by omega
    have len4 := congrArg List.length he2
    simp only [List.length_append] at len4
    refine pc_ite (fun c2 => ?_) (fun c2 => ?_)
    · rw [fa_le, fr2.1 20 (by decide), w2] at c2
      rw [show nB s - q = 0 by omega] at hrs
      have r0 : r' = [] := hrs
      rw [r0, List.append_nil] at he2
      refine pc_ite (fun c3 => ?_) (fun c3 => ?_)
      · rcases hpp with ⟨_, _, e⟩ | ⟨z, _⟩
        · refine pc_ret (hr2.to ?_)
          rw [el, e, List.append_nil, ← he2]
        · exact absurd c3 z
      · rcases hpp with ⟨z, _⟩ | ⟨_, _, e⟩
        · exact absurd z c3
        · rw [r0] at len4
          rw [e] at len
          simp only [List.length_cons, List.length_nil] at len len4
          refine pc_cals (u_close (w := 1) hr2.2.1 (by omega)) (fun s12 a12 => ?_)
          rw [← cx] at a12
          refine pc_ret ((hr2.app a12).to ?_)
          rw [el, e, ← List.append_assoc, he2]
    · rw [fa_le, fr2.1 20 (by decide), w2] at c2
      have ql : q < nB s := by omega
      obtain ⟨o1, o2, o3⟩ := od_ q ql
      have mq := mu _ o2
      have ey : (y + 1).toInt = y.toInt + 1 := i1 (by omega)
      refine pc_ix (fun _ => ?_)
      rw [fr2.1 39 (by decide), yn]
      refine pc_lt fun v13 e13 => ?_
      have v13c : v13.toNatClampNeg = (σ.1 39 q).toInt.toNat := by have := clamp_I (x := v13) (by rw [e13]; omega); rw [e13] at this ⊢; omega
      refine pc_calp (t_isMU (τ := r2) (m := v13) (b := x) (by rw [e13]; omega) (by rw [e13]; omega)) (fun v14 h14 => ?_)
      rw [v13c, fr2.1 41 (by decide), fr2.2 4 List.not_mem_nil, mq] at h14
      rw [show nB s - q = (nB s - (q + 1)) + 1 by omega] at hrs
      refine pc_jnI1 (fun w => ∃ (B r' : List Ln), RSL s x.toNatClampNeg (fun p => (σ.1 39 p).toInt.toNat) (nB s - (q + 1)) (q + 1) r' ∧ TPX n B τ w ∧ pre ++ l1 = B ++ r') (fun w hw => ?_) (fun k159 hk159 => ?_)
      · refine pc_lt fun x16 e16 => ?_
        subst e16
        exact ih2 (y + 1) w ⟨q + 1, by omega, by omega, hw⟩
      · refine pc_ite (fun c4 => ?_) (fun c4 => ?_)
        · rcases hrs with ⟨z, _⟩ | ⟨_, hrs⟩
          · exact absurd z (h14.mp c4)
          · exact hk159 r2 ⟨B, r', hrs, hr2, he2⟩
        · rcases hrs with ⟨hm, d5, l2, r3, t5, e5, hrs⟩ | ⟨z, _⟩
          · have len5 := congrArg List.length e5
            simp only [List.length_append, List.length_cons, List.length_nil] at len5
            have lt : oR s x.toNatClampNeg < oR s (σ.1 39 q).toInt.toNat := w1.lt hm.1
            refine pc_ix (fun _ => ?_)
            refine pc_lt fun v18 e18 => ?_
            have v18t : v18.toInt = ((σ.1 39 q).toInt.toNat : Int) := by rw [e18]; exact o1
            refine pc_cals (u_close (w := 2) hr2.2.1 (by omega)) (fun s19 a19 => ?_)
            rw [v18t] at a19
            have f19 : FR MSl [] σ s19 := FR.cal fr2 a19.1 rfl rfl
            refine pc_ix (fun _ => ?_)
            rw [f19.1 39 (by decide)]
            refine pc_lt fun v20 e20 => ?_
            have v20c : v20.toNatClampNeg = (σ.1 39 q).toInt.toNat := by have := clamp_I (x := v20) (by rw [e20]; omega); rw [e20] at this ⊢; omega
            have elv : (lv + 1).toInt = lv.toInt + 1 := i1 (by unfold oR at lvo; omega)
            refine pc_cals (hT v20 (lv + 1) s19 _ d5 l2 (by rw [e20]; omega) (by rw [v20c]; exact o2) (by omega) (by rw [v20c]; omega) f19 (by rw [v20c]; exact t5) a19.2.1 (by simp only [List.length_cons, List.length_nil]; omega)) (fun s21 a21 => ?_)
            refine hk159 s21 ⟨B ++ ([(5, ((σ.1 39 q).toInt.toNat : Int), 2)] ++ l2), r3, hrs, hr2.app (a19.app a21), ?_⟩
            rw [he2, e5]
            simp only [List.append_assoc]
          · exact absurd (h14.mpr z) c4
  · rw [fa_lt, k_0] at c
    have cp := clamp_I (x := p) (by omega)
    have pn : p.toNatClampNeg + 1 = q := by omega
    obtain ⟨o1, o2, o3⟩ := od_ p.toNatClampNeg (by omega)
    have mq := mu _ o2
    have tq : TEL s d' 1 x.toNatClampNeg ((p.toNatClampNeg : Int) + 1) l' := by
      rw [show (p.toNatClampNeg : Int) + 1 = (q : Int) by omega]
      exact ta
    refine pc_ix (fun _ => ?_)
    rw [fr.1 39 (by decide)]
    refine pc_lt fun v22 e22 => ?_
    have v22c : v22.toNatClampNeg = (σ.1 39 p.toNatClampNeg).toInt.toNat := by have := clamp_I (x := v22) (by rw [e22]; omega); rw [e22] at this ⊢; omega
    refine pc_calp (t_isMU (τ := r) (m := v22) (b := x) (by rw [e22]; omega) (by rw [e22]; omega)) (fun v23 h23 => ?_)
    rw [v22c, fr.1 41 (by decide), fr.2 4 List.not_mem_nil, mq] at h23
    refine pc_jnI1 (fun w => ∃ (A l' rr : List Ln) (d' : Nat), TEL s d' 1 x.toNatClampNeg (p.toNatClampNeg : Int) l' ∧ RSL s x.toNatClampNeg (fun p => (σ.1 39 p).toInt.toNat) (nB s - p.toNatClampNeg) p.toNatClampNeg rr ∧ TPX n A τ w ∧ pre ++ l1 = A ++ (l' ++ rr)) (fun w hw => ?_) (fun k78 hk78 => ?_)
    · refine pc_lt fun x25 e25 => ?_
      have ex : x25.toInt = p.toInt - 1 := by rw [e25]; exact i_m1 (by omega) (by omega)
      exact ih x25 w ⟨p.toNatClampNeg, by omega, by omega, hw⟩
    · have ej : nB s - p.toNatClampNeg = (nB s - q) + 1 := by omega
      refine pc_ite (fun c4 => ?_) (fun c4 => ?_)
      · refine hk78 r ⟨A, l', rr, d', tel_dn w1 o2 o3 (h23.mp c4) tq, ?_, hr, he⟩
        rw [ej]
        refine Or.inr ⟨h23.mp c4, ?_⟩
        rw [pn]
        exact hrs
      · have hm : MC s x.toNatClampNeg (σ.1 39 p.toNatClampNeg).toInt.toNat := Classical.byContradiction fun z => c4 (h23.mpr z)
        obtain ⟨d6, l6, l7, t6, t7, e6⟩ := tel_mg w1 o3 hm tq
        have len6 := congrArg List.length e6
        simp only [List.length_append, List.length_cons, List.length_nil] at len6
        refine pc_ix (fun _ => ?_)
        refine pc_lt fun v27 e27 => ?_
        have v27t : v27.toInt = ((σ.1 39 p.toNatClampNeg).toInt.toNat : Int) := by rw [e27]; exact o1
        refine pc_cals (u_open (w := -1) hr.2.1 (by omega) (Or.inr (Or.inl k_2))) (fun s28 a28 => ?_)
        rw [k_2, v27t] at a28
        refine hk78 s28 ⟨_, l6, [(5, ((σ.1 39 p.toNatClampNeg).toInt.toNat : Int), 2)] ++ (l7 ++ rr), d6, t6, ?_, hr.app a28, ?_⟩
        · rw [ej]
          refine Or.inl ⟨hm, d6, l7, rr, t7, rfl, ?_⟩
          rw [pn]
          exact hrs
        · rw [he, e6]
          simp only [List.append_assoc]
theorem d_all {σ s : Sto} (W : WTL σ s) : ∀ D, TTD σ s D ∧ TED σ s D ∧ TGD σ s D
  | 0 => ⟨fun _ _ _ _ _ _ _ _ _ _ _ _ _ _ => pc_no, fun _ _ _ _ _ _ _ _ _ _ _ _ _ _ => pc_no, fun _ _ _ _ _ _ _ _ _ _ _ _ _ _ _ => pc_no⟩
  | D + 1 => by
    obtain ⟨h1, h2, h3⟩ := d_all W D
    exact ⟨d_tell W h1 h2, d_tellEnd W h3, d_goOn W h1⟩
