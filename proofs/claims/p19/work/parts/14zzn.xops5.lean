theorem slot_z {k v : Int32} (h0 : 0 ≤ k.toInt) (h6 : k.toInt < 6) : v &&& ((1 : Int32) <<< (((6 : Int32) + k) &&& 31)) = 0 ↔ bI v (6 + k.toNatClampNeg) = false := by
  have k_6 : (6 : Int32).toInt = 6 := by decide +kernel
  have ck := clamp_I h0
  have s6 : ((6 : Int32) + k).toInt = 6 + k.toInt := by rw [fb_addI (by rw [k_6]; omega) (by rw [k_6]; omega), k_6]
  have c6 : ((6 : Int32) + k).toNatClampNeg = 6 + k.toNatClampNeg := by
    have := clamp_I (x := (6 : Int32) + k) (by omega)
    omega
  rw [and_z]
  constructor
  · intro z
    refine bf (fun y => z (6 + k.toNatClampNeg) (by omega) ⟨y, ?_⟩)
    rw [bI_sl (by omega) (by omega) (by omega), c6]
    exact decide_eq_true rfl
  · intro z i hi ⟨a, w⟩
    rw [bI_sl (by omega) (by omega) hi, c6, decide_eq_true_eq] at w
    rw [w, z] at a
    exact absurd a (by decide)
theorem t_slotBit {k : Int32} : PC (f_X7_slotBit k) (fun v => v = (1 : Int32) <<< (((6 : Int32) + k) &&& 31)) := fun _ e => (Option.some.inj e).symm
theorem tTn_lf {t : Term} (h : kdl t = true) {k : Nat} (g : tTn k t = true) : t = .index k := by
  obtain ⟨_, _, ⟨i, rfl⟩ | ⟨_, q⟩⟩ := tLf h
  · rw [of_decide_eq_true (show decide (i = k) = true from g)]
  · rw [q k] at g
    exact absurd g (by decide)
section
variable {b : BTy} {n : Nat} {σ : Sto} {tr : Nat → Term} {P : PSt}
/-- an expression of two, of one, a leaf -/
theorem PLX.ways {e : Nat} (h : PLX σ n tr) (he : e < n) : (isBi (σ.1 47 e).toInt ∧ ∃ l r, tr e = bn (σ.1 47 e) l r ∧ EXV (σ.1 48 e) e tr (some l) ∧ EXV (σ.1 49 e) e tr (some r)) ∨ (¬ isBi (σ.1 47 e).toInt ∧ opU (σ.1 47 e) ∧ ∃ l, tr e = mkX (σ.1 47 e) (σ.1 48 e) 0 tr ∧ (tr e = .length l ∧ (σ.1 47 e).toInt = 33 ∨ tr e = .sum l ∧ (σ.1 47 e).toInt = 110) ∧ EXV (σ.1 48 e) e tr (some l)) ∨ (¬ isBi (σ.1 47 e).toInt ∧ ¬ opU (σ.1 47 e) ∧ kdl (tr e) = true) := by
  obtain ⟨w, q, _⟩ := h.2.2.1 e he
  have nu : ∀ {g : Int32}, g.toInt ≠ 33 → g.toInt ≠ 110 → ¬ opU g := fun a b z => by unfold opU at z; omega
  rcases w with w | w | w | w | w | w | w
  · exact Or.inr (Or.inr ⟨by omega, nu (by omega) (by omega), by rw [q, mkX_k w.1]; rfl⟩)
  · exact Or.inr (Or.inr ⟨by omega, nu (by omega) (by omega), by rw [q, mkX_l w.1]; rfl⟩)
  · exact Or.inr (Or.inr ⟨by omega, nu (by omega) (by omega), by rw [q, mkX_t w.1]; rfl⟩)
  · exact Or.inr (Or.inr ⟨by omega, nu (by omega) (by omega), by rw [q, mkX_x w.1]; rfl⟩)
  · exact Or.inr (Or.inr ⟨by omega, nu (by omega) (by omega), by rw [q, mkX_i w.1]; rfl⟩)
  · obtain ⟨w1, w2, w3, w4⟩ := w
    have c := clamp_I w2
    rw [w4] at q
    refine Or.inr (Or.inl ⟨by omega, by unfold opU; omega, tr (σ.1 48 e).toNatClampNeg, q, ?_, EXV.mk c.symm (by omega) rfl⟩)
    rcases w1 with z | z
    · exact Or.inl ⟨by rw [q, mkX_n z], z⟩
    · exact Or.inr ⟨by rw [q, mkX_g z], z⟩
  · obtain ⟨w1, w2, w3⟩ := w
    have c := clamp_I w2.1
    have d := clamp_I w3.1
    exact Or.inl ⟨w1, _, _, by rw [q, mkX_b w1], EXV.mk c.symm (by omega) rfl, EXV.mk d.symm (by omega) rfl⟩
/-- of two: by its tree -/
theorem PLX.bin {e : Nat} {g : Int32} {l r : Term} (h : PLX σ n tr) (he : e < n) (q : tr e = bn g l r) : isBi g.toInt ∧ σ.1 47 e = g ∧ EXV (σ.1 48 e) e tr (some l) ∧ EXV (σ.1 49 e) e tr (some r) := by
  rcases h.ways he with ⟨w, l', r', w1, w2, w3⟩ | ⟨_, _, l', _, w1, _⟩ | ⟨_, _, w1⟩
  · rw [q] at w1
    obtain ⟨q1, q2⟩ := Term.add.inj w1
    obtain ⟨q3, q4⟩ := Term.sub.inj q2
    have q5 := Term.int.inj q1
    rw [q3, q4, q5]
    exact ⟨w, rfl, w2, w3⟩
  · rw [q] at w1
    rcases w1 with z | z
    · exact absurd z.1 (by simp)
    · exact absurd z.1 (by simp)
  · rw [q] at w1
    exact absurd w1 (by simp [kdl])
theorem PLX.una {e : Nat} {t l : Term} (h : PLX σ n tr) (he : e < n) (q : tr e = t) (ht : t = .length l ∨ t = .sum l) : EXV (σ.1 48 e) e tr (some l) ∧ (t = .length l → (σ.1 47 e).toInt = 33) ∧ (t = .sum l → (σ.1 47 e).toInt = 110) := by
  rcases h.ways he with ⟨w, l', r', w1, w2, w3⟩ | ⟨_, _, l', _, w1, w2⟩ | ⟨_, _, w1⟩
  · rw [q] at w1
    rcases ht with z | z
    · rw [z] at w1; exact absurd w1 (by simp)
    · rw [z] at w1; exact absurd w1 (by simp)
  · rw [q] at w1
    rcases ht with z | z
    · rw [z] at w1 ⊢
      rcases w1 with y | y
      · rw [Term.length.inj y.1]
        exact ⟨w2, fun _ => y.2, fun u => absurd u (by simp)⟩
      · exact absurd y.1 (by simp)
    · rw [z] at w1 ⊢
      rcases w1 with y | y
      · exact absurd y.1 (by simp)
      · rw [Term.sum.inj y.1]
        exact ⟨w2, fun u => absurd u (by simp), fun _ => y.2⟩
  · rw [q] at w1
    rcases ht with z | z
    · rw [z] at w1; exact absurd w1 (by simp [kdl])
    · rw [z] at w1; exact absurd w1 (by simp [kdl])
/-- what replace answers -/
def RPA (σ : Sto) (n : Nat) (tr : Nat → Term) (k x : Nat) (t : Term) (r : Int32 × Sto) : Prop := FR MPL [] σ r.2 ∧ ∃ n2 tr2, PLX r.2 n2 tr2 ∧ EXT n tr n2 tr2 ∧ nzT n2 tr2 ≤ nzT n tr + tOp t ∧ EXV r.1 n2 tr2 (some (tRp k x t))
theorem EXV.wk {v : Int32} {m n : Nat} {tr : Nat → Term} {o : Option Term} (h : EXV v m tr o) (hm : m ≤ n) : EXV v n tr o := h.up ⟨hm, fun _ _ => rfl⟩
end
theorem t_replace {k xv : Int32} {x : Nat} (h0 : 0 ≤ k.toInt) (h6 : k.toInt < 6) : ∀ (d : Nat) (v dep : Int32) (σ : Sto) (n : Nat) (tr : Nat → Term) (t : Term), PLX σ n tr → EXV v n tr (some t) → EXV xv n tr (some (tX x)) → 0 ≤ dep.toInt → dep.toInt + tSz t ≤ 61 → nzT n tr + tOp t ≤ 505 → PC (f_X7_replace d v k xv dep σ) (RPA σ n tr k.toNatClampNeg x t)
  | 0, _, _, _, _, _, _, _, _, _, _, _, _ => pc_no
  | d + 1, v, dep, σ, n, tr, t, h, hv, hx, d0, ds, hz => by
    have k_0 : (0 : Int32).toInt = 0 := by decide +kernel
    have k_60 : (60 : Int32).toInt = 60 := by decide +kernel
    have ck := clamp_I h0
    have sp := tSz_pos t
    have ed : (dep + 1).toInt = dep.toInt + 1 := i1 (by omega)
    obtain ⟨e, v1, v2, v3, v4⟩ := hv.so
    have tb := h.at_ v2
    rw [v3] at tb
    have t60 := (h.2.2.1 e v2).2.2.2.2
    rw [v3] at t60
    show PC (b_X7_replace (g_X7_replace d) v k xv dep σ) _
    unfold b_X7_replace
    refine pc_ite (fun c => ?_) (fun _ => ?_)
    · rw [fa_lt, k_60] at c
      omega
    refine pc_ix (fun _ => ?_)
    refine pc_lt fun w2 ew2 => ?_
    rw [v4] at ew2
    refine pc_calp t_slotBit (fun w3 ew3 => ?_)
    rw [← ew2] at tb
    refine pc_ite (fun c => ?_) (fun c => ?_)
    · rw [ew3, slot_z h0 h6, tb.2.1 _ (by omega)] at c
      refine pc_ret ⟨FR.rf, n, tr, h, EXT.rf, Nat.le_add_right _ _, ?_⟩
      rw [tRp_id _ _ _ c]
      exact hv
    · rw [ew3, slot_z h0 h6, tb.2.1 _ (by omega)] at c
      have tt : tTn k.toNatClampNeg t = true := by
        cases y : tTn k.toNatClampNeg t with
        | true => rfl
        | false => exact absurd y c
      refine pc_ix (fun _ => ?_)
      rw [v4]
      refine pc_lt fun g eg => ?_
      refine pc_calp (pc_ok s_X11_isBinary) (fun w6 h6_ => ?_)
      have h61 := h6_.1
      have ways := h.ways v2
      rw [v3, ← eg] at ways
      refine pc_ite (fun c6 => ?_) (fun c6 => ?_)
      · rw [fa_eq, k_0] at c6
        have nb : ¬ isBi g.toInt := fun z => by
          have := h6_.2.mpr (isB_1 z)
          omega
        refine pc_ix (fun _ => ?_)
        refine pc_lt fun g8 eg8 => ?_
        rw [← eg] at eg8
        subst eg8
        have gr : 0 ≤ g8.toInt ∧ g8.toInt ≤ 255 := by
          obtain ⟨w, _⟩ := h.2.2.1 e v2
          rw [← eg] at w
          rcases w with w | w | w | w | w | w | w <;> omega
        refine pc_calp (pc_ok (s_X11_isUnary gr)) (fun w9 h9 => ?_)
        have h91 := h9.1
        refine pc_ite (fun c9 => ?_) (fun c9 => ?_)
        · rw [fa_eq, k_0] at c9
          rcases ways with ⟨w, _⟩ | ⟨_, w, _⟩ | ⟨_, _, w⟩
          · exact absurd w nb
          · have := h9.2.mpr w
            omega
          · refine pc_ret ⟨FR.rf, n, tr, h, EXT.rf, Nat.le_add_right _ _, ?_⟩
            rw [tTn_lf w tt, tRp_i, if_pos rfl]
            exact hx
        · rw [fa_eq, k_0] at c9
          have hu := h9.2.mp (by omega)
          rcases ways with ⟨w, _⟩ | ⟨_, _, l, _, w1, w2_⟩ | ⟨_, w, _⟩
          · exact absurd w nb
          · have sz : tSz t = 1 + tSz l ∧ tOp t = 1 + tOp l := by
              rcases w1 with z | z
              · rw [z.1]; exact ⟨rfl, rfl⟩
              · rw [z.1]; exact ⟨rfl, rfl⟩
            refine pc_ix (fun _ => ?_)
            refine pc_lt fun g11 eg11 => ?_
            rw [← eg] at eg11
            subst eg11
            refine pc_ix (fun _ => ?_)
            refine pc_lt fun v12 e12 => ?_
            rw [← e12] at w2_
            refine pc_calv (t_replace h0 h6 d v12 (dep + 1) σ n tr l h (w2_.wk (by omega)) hx (by omega) (by omega) (by omega)) (fun v13 s13 u => ?_)
            obtain ⟨u1, n2, tr2, u2, u3, u4, u5⟩ := u
            (try dsimp only at u1 u2 u5)
            obtain ⟨e13, y1, y2, y3, y4⟩ := u5.so
            have mk : mkX g11 v13 0 tr2 = tRp k.toNatClampNeg x t := by
              rcases w1 with z | z
              · rw [mkX_n z.2, y4, y3, z.1]; rfl
              · rw [mkX_g z.2, y4, y3, z.1]; rfl
            have nz2 := u2.nz_
            refine pc_calv (t_make (sg := g11) (lf := v13) (rt := 0) u2 (Or.inr (Or.inr (Or.inr (Or.inr (Or.inr (Or.inl ⟨by unfold opU at hu; exact hu, by omega, by omega, rfl⟩)))))) (by omega) (by rw [mk, (tRp_sz _ _ _).1]; omega)) (fun v14 s14 r => ?_)
            rw [mk] at r
            have r1 := r.1
            obtain ⟨n3, tr3, r2, r3, r4, r5⟩ := r.cnt
            (try dsimp only at r1 r2 r5)
            have o1 := oneT_le (tRp k.toNatClampNeg x t)
            exact pc_ret ⟨FR.cal (FR.cal FR.rf u1 rfl rfl) r1 rfl rfl, n3, tr3, r2, u3.tr r3, by omega, r5⟩
          · exact absurd hu w
      · rw [fa_eq, k_0] at c6
        have gb : isBi g.toInt := isB_2 (h6_.2.mp (by omega))
        rcases ways with ⟨_, l, r, w1, w2_, w3_⟩ | ⟨w, _⟩ | ⟨w, _⟩
        · have sz : tSz t = 1 + (tSz l + tSz r) ∧ tOp t = 1 + (tOp l + tOp r) := by rw [w1]; exact ⟨rfl, rfl⟩
          have spl := tSz_pos l
          have spr := tSz_pos r
          refine pc_ix (fun _ => ?_)
          refine pc_lt fun v15 e15 => ?_
          rw [← e15] at w2_
          refine pc_calv (t_replace h0 h6 d v15 (dep + 1) σ n tr l h (w2_.wk (by omega)) hx (by omega) (by omega) (by omega)) (fun v16 s16 u => ?_)
          obtain ⟨u1, n2, tr2, u2, u3, u4, u5⟩ := u
          (try dsimp only at u1 u2 u5)
          have e2 : tr2 e = bn g l r := by rw [u3.2 e v2, v3, w1]
          have v2' : e < n2 := Nat.lt_of_lt_of_le v2 u3.1
          have B2 := u2.bin v2' e2
          refine pc_ix (fun _ => ?_)
          refine pc_lt fun v17 e17 => ?_
          refine pc_calv (t_replace h0 h6 d v17 (dep + 1) s16 n2 tr2 r u2 (by rw [e17]; exact B2.2.2.2.wk (by omega)) (hx.up u3) (by omega) (by omega) (by omega)) (fun v18 s18 y => ?_)
          obtain ⟨y1, n3, tr3, y2, y3, y4, y5⟩ := y
          (try dsimp only at y1 y2 y5)
          have e3 : tr3 e = bn g l r := by rw [y3.2 e v2', e2]
          have B3 := y2.bin (Nat.lt_of_lt_of_le v2' y3.1) e3
          refine pc_ix (fun _ => ?_)
          refine pc_lt fun g19 eg19 => ?_
          rw [B3.2.1] at eg19
          subst eg19
          obtain ⟨a1, z1, z2, z3, z4⟩ := (u5.up y3).so
          obtain ⟨a2, x1, x2, x3, x4⟩ := y5.so
          have mk : mkX g19 v16 v18 tr3 = tRp k.toNatClampNeg x t := by
            rw [mkX_b gb, z4, z3, x4, x3, w1]; rfl
          have nz3 := y2.nz_
          refine pc_calv (t_make (sg := g19) (lf := v16) (rt := v18) y2 (Or.inr (Or.inr (Or.inr (Or.inr (Or.inr (Or.inr ⟨gb, ⟨by omega, by omega⟩, by omega, by omega⟩)))))) (by omega) (by rw [mk, (tRp_sz _ _ _).1]; omega)) (fun v20 s20 q => ?_)
          rw [mk] at q
          have q1 := q.1
          obtain ⟨n4, tr4, q2, q3, q4, q5⟩ := q.cnt
          (try dsimp only at q1 q2 q5)
          have o1 := oneT_le (tRp k.toNatClampNeg x t)
          exact pc_ret ⟨FR.cal (FR.cal (FR.cal FR.rf u1 rfl rfl) y1 rfl rfl) q1 rfl rfl, n4, tr4, q2, (u3.tr y3).tr q3, by omega, q5⟩
        · exact absurd gb w
        · exact absurd gb w
