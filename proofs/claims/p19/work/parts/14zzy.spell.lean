/-- a number's digits -/
def dgs (x : Int32) : List Int32 := if x ≤ 9 then [48 + (x - x / 10 * 10)] else if x ≤ 99 then [48 + ((x / 10) - (x / 10) / 10 * 10), 48 + (x - x / 10 * 10)] else [48 + x / 100, 48 + ((x / 10) - (x / 10) / 10 * 10), 48 + (x - x / 10 * 10)]
theorem dgs_1 {x : Int32} (h : x ≤ 9) : dgs x = [48 + (x - x / 10 * 10)] := if_pos h
theorem dgs_2 {x : Int32} (h : ¬ x ≤ 9) (g : x ≤ 99) : dgs x = [48 + ((x / 10) - (x / 10) / 10 * 10), 48 + (x - x / 10 * 10)] := by unfold dgs; rw [if_neg h, if_pos g]
theorem dgs_3 {x : Int32} (h : ¬ x ≤ 9) (g : ¬ x ≤ 99) : dgs x = [48 + x / 100, 48 + ((x / 10) - (x / 10) / 10 * 10), 48 + (x - x / 10 * 10)] := by unfold dgs; rw [if_neg h, if_neg g]
theorem dgs_l (x : Int32) : (dgs x).length ≤ 3 := by
  by_cases h : x ≤ 9
  · rw [dgs_1 h]; show 1 ≤ 3; omega
  · by_cases g : x ≤ 99
    · rw [dgs_2 h g]; show 2 ≤ 3; omega
    · rw [dgs_3 h g]; exact Nat.le_refl _
/-- a word -/
def wd (c n : Nat) : List Int32 := (List.range n).map (fun i => chS c (nI i))
theorem wd_s (c n : Nat) : wd c (n + 1) = wd c n ++ [chS c (nI n)] := by
  unfold wd
  rw [List.range_succ, List.map_append]
  rfl
/-- what an expression is spelled -/
def spl : Term → List Int32
  | .int n => dgs n
  | .arg v => [97 + nI v]
  | .index k => 116 :: dgs (nI k)
  | .string _ x => 120 :: dgs (nI x)
  | .null => wd 18 2
  | .length t => 33 :: spl t
  | .sum t => 45 :: spl t
  | .add (.int op) (.sub l r) => 40 :: (spl l ++ (op :: (spl r ++ [41])))
  | _ => []
theorem spl_l : ∀ t, (spl t).length ≤ 4 * tSz t :=
  tAll (fun t h => by
    show (spl t).length + 1 ≤ 4 * (1 + tSz t)
    omega) (fun t h => by
    show (spl t).length + 1 ≤ 4 * (1 + tSz t)
    omega) (fun op l r h g => by
    show (spl l ++ (op :: (spl r ++ [41]))).length + 1 ≤ 4 * (1 + (tSz l + tSz r))
    rw [List.length_append, List.length_cons, List.length_append]
    show (spl l).length + ((spl r).length + 1 + 1) + 1 ≤ _
    omega) (fun t h => by
    have s := (tLf h).1
    rw [s]
    cases t with
    | int n => have := dgs_l n; show (dgs n).length ≤ 4 * 1; omega
    | arg v => show 1 ≤ 4 * 1; omega
    | index k => have := dgs_l (nI k); show (dgs (nI k)).length + 1 ≤ 4 * 1; omega
    | string a x => have := dgs_l (nI x); show (dgs (nI x)).length + 1 ≤ 4 * 1; omega
    | null => show 2 ≤ 4 * 1; omega
    | length u => exact absurd h (by simp [kdl])
    | sum u => exact absurd h (by simp [kdl])
    | add a b =>
      cases a with
      | int op =>
        cases b with
        | sub l r => exact absurd h (by simp [kdl])
        | _ => exact Nat.zero_le _
      | _ => exact Nat.zero_le _
    | _ => exact Nat.zero_le _)
/-- the class's signs written -/
def WRX (σ : Sto) (L : List Int32) : Prop := (σ.1 94 0).toInt = (L.length : Int) ∧ ∀ i, i < L.length → L[i]? = some (σ.1 93 i)
theorem app_l {L : List Int32} {c : Int32} {i : Nat} (h : i < L.length) : (L ++ [c])[i]? = L[i]? := List.getElem?_append_left h
theorem app_r {L : List Int32} {c : Int32} : (L ++ [c])[L.length]? = some c := by
  rw [List.getElem?_append_right (Nat.le_refl _), Nat.sub_self]
  rfl
section
variable {σ : Sto} {L : List Int32}
theorem w_sign {c : Int32} (h : WRX σ L) (hl : L.length + 1 ≤ 400) : PC (f_X6_writeSign c σ) (fun s => FR [93, 94] [] σ s ∧ WRX s (L ++ [c])) := by
  have k_400 : (400 : Int32).toInt = 400 := by decide +kernel
  obtain ⟨h1, h2⟩ := h
  unfold f_X6_writeSign
  refine pc_jnI1 (fun s => s = sti σ 93 L.length c) (fun s es => ?_) (fun k hk => ?_)
  · refine pc_lt fun s2 e2 => ?_
    have q : ∀ i, s2.1 93 i = if i = L.length then c else σ.1 93 i := fun i => by rw [e2, sti_o (by decide), es, sti_if]
    refine pc_ret ⟨by rw [e2, es]; exact FR.st (FR.st FR.rf (by decide)) (by decide), ?_, fun i hi => ?_⟩
    · rw [e2, sti_s, es, sti_o (by decide), i1 (by omega), h1, List.length_append]
      rfl
    · rw [List.length_append] at hi
      have hi : i < L.length + 1 := hi
      rw [q]
      by_cases z : i = L.length
      · rw [if_pos z, z, app_r]
      · rw [if_neg z, app_l (by omega)]; exact h2 i (by omega)
  · refine pc_ite (fun z => ?_) (fun _ => ?_)
    · rw [fa_le, k_400] at z
      omega
    · have cn : (σ.1 94 0).toNatClampNeg = L.length := by
        have := clamp_I (x := σ.1 94 0) (by omega)
        omega
      refine pc_ix (fun _ => ?_)
      rw [cn]
      exact pc_lt fun s4 e4 => hk s4 e4
theorem app_2 {a b : Int32} : L ++ [a] ++ [b] = L ++ [a, b] := List.append_assoc _ _ _
theorem w_number {x : Int32} (h : WRX σ L) (hl : L.length + (dgs x).length ≤ 400) : PC (f_X6_writeNumber x σ) (fun s => FR [93, 94] [] σ s ∧ WRX s (L ++ dgs x)) := by
  unfold f_X6_writeNumber
  have le9 : x ≤ 9 → x ≤ 99 := fun z => by
    have k_9 : (9 : Int32).toInt = 9 := by decide +kernel
    have k_99 : (99 : Int32).toInt = 99 := by decide +kernel
    rw [fa_le] at z ⊢
    omega
  refine pc_jn ?_
  by_cases g : x ≤ 99
  · rw [if_pos g]
    refine pc_jn ?_
    by_cases z : x ≤ 9
    · rw [if_pos z]
      rw [dgs_1 z] at hl ⊢
      exact pc_cals (w_sign h hl) (fun s u => pc_ret u)
    · rw [if_neg z]
      rw [dgs_2 z g] at hl ⊢
      have hl : L.length + 2 ≤ 400 := hl
      refine pc_cals (w_sign h (by omega)) (fun s u => ?_)
      refine pc_cals (w_sign u.2 (by rw [List.length_append]; exact hl)) (fun s2 w => pc_ret ⟨FR.cal u.1 w.1 rfl rfl, ?_⟩)
      rw [← app_2]; exact w.2
  · rw [if_neg g]
    have z : ¬ x ≤ 9 := fun z => g (le9 z)
    rw [dgs_3 z g] at hl ⊢
    have hl : L.length + 3 ≤ 400 := hl
    refine pc_cals (w_sign h (by omega)) (fun s u => ?_)
    refine pc_jn ?_
    rw [if_neg z]
    refine pc_cals (w_sign u.2 (by rw [List.length_append]; show L.length + 1 + 1 ≤ 400; omega)) (fun s2 w => ?_)
    refine pc_cals (w_sign w.2 (by rw [List.length_append, List.length_append]; exact hl)) (fun s3 y => pc_ret ⟨FR.cal (FR.cal u.1 w.1 rfl rfl) y.1 rfl rfl, ?_⟩)
    have e : L ++ [48 + x / 100] ++ [48 + ((x / 10) - (x / 10) / 10 * 10)] ++ [48 + (x - x / 10 * 10)] = L ++ [48 + x / 100, 48 + ((x / 10) - (x / 10) / 10 * 10), 48 + (x - x / 10 * 10)] := by rw [List.append_assoc, List.append_assoc]; rfl
    rw [← e]; exact y.2
theorem w_name {c x : Int32} (h : WRX σ L) (hl : L.length + ((dgs x).length + 1) ≤ 400) : PC (f_X6_writeName c x σ) (fun s => FR [93, 94] [] σ s ∧ WRX s (L ++ c :: dgs x)) := by
  unfold f_X6_writeName
  refine pc_cals (w_sign h (by omega)) (fun s u => ?_)
  refine pc_cals (w_number u.2 (by rw [List.length_append]; show L.length + 1 + (dgs x).length ≤ 400; omega)) (fun s2 w => pc_ret ⟨FR.cal u.1 w.1 rfl rfl, ?_⟩)
  have e : L ++ [c] ++ dgs x = L ++ c :: dgs x := by rw [List.append_assoc]; rfl
  rw [← e]; exact w.2
/-- words -/
theorem w_word {c n : Nat} {N : Int32} (hN : N.toInt = (n : Int)) (h : WRX σ L) (hl : L.length + n ≤ 400) : PC (itr (fun _ _ => none) (fun (a_2 : Int32 → Sto → Option Sto) (x2_1 : Int32) (s_1 : Sto) => (
    if N ≤ x2_1 then (
      some s_1
    ) else (
      ix n x2_1 <| lt (chS c x2_1) fun v_3 =>
      cals (f_X6_writeSign v_3 s_1) fun s_4 =>
      lt (x2_1 + 1) fun x2_5 =>
      a_2 x2_5 s_4
    )
  )) LF (0 : Int32) σ) (fun s => FR [93, 94] [] σ s ∧ WRX s (L ++ wd c n)) := by
  have k_0 : (0 : Int32).toInt = 0 := by decide +kernel
  have rN := tI_rng N
  refine pc_itr2 (fun x s => 0 ≤ x.toInt ∧ x.toInt ≤ (n : Int) ∧ FR [93, 94] [] σ s ∧ WRX s (L ++ wd c x.toNatClampNeg)) ?_ (by exact ⟨by omega, by omega, FR.rf, by show WRX σ (L ++ []); rw [List.append_nil]; exact h⟩)
  intro ag x s I ih
  obtain ⟨x0, xn, f, w⟩ := I
  have cx := clamp_I x0
  refine pc_ite (fun z => ?_) (fun z => ?_)
  · rw [fa_le, hN] at z
    rw [show x.toNatClampNeg = n by omega] at w
    exact pc_ret ⟨f, w⟩
  · rw [fa_le, hN] at z
    have ex : (x + 1).toInt = x.toInt + 1 := i1 (by omega)
    have cx1 : (x + 1).toNatClampNeg = x.toNatClampNeg + 1 := by have := clamp_I (x := x + 1) (by omega); omega
    have wl : (wd c x.toNatClampNeg).length = x.toNatClampNeg := by unfold wd; rw [List.length_map, List.length_range]
    refine pc_ix (fun _ => ?_)
    refine pc_lt fun v3 e3 => ?_
    refine pc_cals (w_sign w (by rw [List.length_append, wl]; omega)) (fun s4 u => ?_)
    refine pc_lt fun x5 e5 => ?_
    subst e5
    refine ih (x + 1) s4 ⟨by omega, by omega, FR.cal f u.1 rfl rfl, ?_⟩
    rw [cx1, wd_s, ← List.append_assoc, ← nI_id x0, ← e3]
    exact u.2
theorem w_s18 (h : WRX σ L) (hl : L.length + 2 ≤ 400) : PC (f_X6_write_s18 σ) (fun s => FR [93, 94] [] σ s ∧ WRX s (L ++ wd 18 2)) := w_word (N := 2) (by decide +kernel) h hl
theorem w_s19 (h : WRX σ L) (hl : L.length + 1 ≤ 400) : PC (f_X6_write_s19 σ) (fun s => FR [93, 94] [] σ s ∧ WRX s (L ++ [40])) := by
  have q := w_word (c := 19) (n := 1) (N := 1) (by decide +kernel) h hl
  rw [show wd 19 1 = [40] by decide +kernel] at q
  exact q
theorem w_s20 (h : WRX σ L) (hl : L.length + 1 ≤ 400) : PC (f_X6_write_s20 σ) (fun s => FR [93, 94] [] σ s ∧ WRX s (L ++ [41])) := by
  have q := w_word (c := 20) (n := 1) (N := 1) (by decide +kernel) h hl
  rw [show wd 20 1 = [41] by decide +kernel] at q
  exact q
end
/-- what the class writes of an expression -/
theorem w_exp {n : Nat} {tr : Nat → Term} : ∀ (d : Nat) (v dep : Int32) (σ : Sto) (t : Term) (L : List Int32), PLX σ n tr → EXV v n tr (some t) → WRX σ L → 0 ≤ dep.toInt → dep.toInt + tSz t ≤ 61 → L.length + (spl t).length ≤ 400 → PC (f_X6_writeExpression d v dep σ) (fun s => FR [93, 94] [] σ s ∧ WRX s (L ++ spl t))
  | 0, _, _, _, _, _, _, _, _, _, _, _ => pc_no
  | d + 1, v, dep, σ, t, L, h, hv, hw, d0, ds, hl => by
    have k_0 : (0 : Int32).toInt = 0 := by decide +kernel
    have k_60 : (60 : Int32).toInt = 60 := by decide +kernel
    have k_110 : (110 : Int32).toInt = 110 := by decide +kernel
    have k_33 : (33 : Int32).toInt = 33 := by decide +kernel
    have sp := tSz_pos t
    have ed : (dep + 1).toInt = dep.toInt + 1 := i1 (by omega)
    have nm1 := hv.nm1
    obtain ⟨e, v1, v2, v3, v4⟩ := hv.so
    obtain ⟨wf, q, _⟩ := h.2.2.1 e v2
    rw [v3] at q
    show PC (b_X6_writeExpression (g_X6_writeExpression d) v dep σ) _
    unfold b_X6_writeExpression
    refine pc_ite (fun z => absurd z nm1) (fun _ => ?_)
    refine pc_ite (fun _ => ?_) (fun z => ?_)
    rotate_left
    · rw [fa_le, k_60] at z
      omega
    refine pc_ix (fun _ => ?_)
    rw [v4]
    refine pc_lt fun g eg => ?_
    refine pc_ix (fun _ => ?_)
    refine pc_lt fun lf el => ?_
    have ways := h.ways v2
    rw [v3] at ways
    rw [← eg] at wf q ways
    rw [← el] at wf q ways
    refine pc_ite (fun z => ?_) (fun z1 => ?_)
    · rw [mkX_t z] at q
      have l0 : 0 ≤ lf.toInt := by
        rcases wf with w | w | w | w | w | w | w <;> omega
      have es : spl t = 116 :: dgs lf := by
        rw [q]
        show 116 :: dgs (nI lf.toNatClampNeg) = _
        rw [← nI_id l0]
      rw [es] at hl ⊢
      exact pc_cals (w_name hw hl) (fun s u => pc_ret u)
    refine pc_ite (fun z => ?_) (fun z2 => ?_)
    · rw [mkX_x z] at q
      have l0 : 0 ≤ lf.toInt := by
        rcases wf with w | w | w | w | w | w | w <;> omega
      have es : spl t = 120 :: dgs lf := by
        rw [q]
        show 120 :: dgs (nI lf.toNatClampNeg) = _
        rw [← nI_id l0]
      rw [es] at hl ⊢
      exact pc_cals (w_name hw hl) (fun s u => pc_ret u)
    refine pc_ite (fun z => ?_) (fun z3 => ?_)
    · rw [mkX_i z] at q
      have es : spl t = wd 18 2 := by rw [q]; rfl
      rw [es] at hl ⊢
      exact pc_cals (w_s18 hw hl) (fun s u => pc_ret u)
    refine pc_ite (fun z => ?_) (fun z4 => ?_)
    · rw [mkX_k z] at q
      have es : spl t = dgs lf := by rw [q]; rfl
      rw [es] at hl ⊢
      exact pc_cals (w_number hw hl) (fun s u => pc_ret u)
    refine pc_ite (fun z => ?_) (fun z5 => ?_)
    · rw [mkX_l z] at q
      have l0 : 0 ≤ lf.toInt := by
        rcases wf with w | w | w | w | w | w | w <;> omega
      have es : spl t = [97 + lf] := by
        rw [q]
        show [97 + nI lf.toNatClampNeg] = _
        rw [← nI_id l0]
      rw [es] at hl ⊢
      exact pc_cals (w_sign hw hl) (fun s u => pc_ret u)
    refine pc_calp (pc_ok s_X11_isBinary) (fun r hr => ?_)
    have hr1 := hr.1
    refine pc_ite (fun c => ?_) (fun c => ?_)
    · rw [fa_eq, k_0] at c
      have nb : ¬ isBi g.toInt := fun z => by
        have := hr.2.mpr (isB_1 z)
        omega
      rcases ways with ⟨w, _⟩ | ⟨_, hu, l, _, w1, w2⟩ | ⟨_, w, _⟩
      · exact absurd w nb
      · unfold opU at hu
        have es : ∃ y : Int32, spl t = y :: spl l ∧ tSz t = 1 + tSz l ∧ ((g = 110 ∧ y = 45) ∨ (¬ g = 110 ∧ y = g)) := by
          rcases w1 with y | y
          · exact ⟨33, by rw [y.1]; rfl, by rw [y.1]; rfl, Or.inr ⟨fun u => by rw [u, k_110] at y; omega, by rw [fa_eq, k_33]; omega⟩⟩
          · exact ⟨45, by rw [y.1]; rfl, by rw [y.1]; rfl, Or.inl ⟨by rw [fa_eq, k_110]; exact y.2, rfl⟩⟩
        obtain ⟨y, es, ez, ey⟩ := es
        rw [es] at hl ⊢
        have hl : L.length + ((spl l).length + 1) ≤ 400 := hl
        have rest : PC (cals (f_X6_writeSign y σ) fun s_14 => cals (g_X6_writeExpression d lf (dep + 1) s_14) fun s_15 => some s_15) (fun s => FR [93, 94] [] σ s ∧ WRX s (L ++ y :: spl l)) := by
          refine pc_cals (w_sign hw (by omega)) (fun s u => ?_)
          refine pc_cals (w_exp d lf (dep + 1) s l (L ++ [y]) (h.cg (fun k hk => u.1.1 k (by simp; omega))) (w2.wk (by omega)) u.2 (by omega) (by omega) (by rw [List.length_append]; show L.length + 1 + (spl l).length ≤ 400; omega)) (fun s2 w => pc_ret ⟨FR.cal u.1 w.1 rfl rfl, ?_⟩)
          have e2 : L ++ [y] ++ spl l = L ++ y :: spl l := by rw [List.append_assoc]; rfl
          rw [← e2]; exact w.2
        refine pc_jn ?_
        rcases ey with ⟨y1, y2⟩ | ⟨y1, y2⟩
        · rw [if_pos y1, ← y2]; exact rest
        · rw [if_neg y1, ← y2]; exact rest
      · exfalso
        unfold opU at w
        rcases wf with u | u | u | u | u | u | u <;> omega
    · rw [fa_eq, k_0] at c
      have gb : isBi g.toInt := isB_2 (hr.2.mp (by omega))
      rcases ways with ⟨_, l, r_, w1, w2, w3⟩ | ⟨w, _⟩ | ⟨w, _⟩
      · have es : spl t = 40 :: (spl l ++ (g :: (spl r_ ++ [41]))) := by rw [w1]; rfl
        have ez : tSz t = 1 + (tSz l + tSz r_) := by rw [w1]; rfl
        have sl := tSz_pos l
        have sr := tSz_pos r_
        have el_ : (spl t).length = (spl l).length + (spl r_).length + 3 := by
          rw [es, List.length_cons, List.length_append, List.length_cons, List.length_append]
          show (spl l).length + ((spl r_).length + 1 + 1) + 1 = _
          omega
        rw [el_] at hl
        refine pc_cals (w_s19 hw (by omega)) (fun s u => ?_)
        refine pc_cals (w_exp d lf (dep + 1) s l (L ++ [40]) (h.cg (fun k hk => u.1.1 k (by simp; omega))) (w2.wk (by omega)) u.2 (by omega) (by omega) (by rw [List.length_append]; show L.length + 1 + (spl l).length ≤ 400; omega)) (fun s2 w => ?_)
        have f2 : FR [93, 94] [] σ s2 := FR.cal u.1 w.1 rfl rfl
        refine pc_cals (w_sign w.2 (by rw [List.length_append, List.length_append]; show L.length + 1 + (spl l).length + 1 ≤ 400; omega)) (fun s3 y => ?_)
        have f3 : FR [93, 94] [] σ s3 := FR.cal f2 y.1 rfl rfl
        refine pc_ix (fun _ => ?_)
        refine pc_lt fun rt er => ?_
        rw [f3.1 49 (by decide)] at er
        rw [← er] at w3
        refine pc_cals (w_exp d rt (dep + 1) s3 r_ (L ++ [40] ++ spl l ++ [g]) (h.cg (fun k hk => f3.1 k (by simp; omega))) (w3.wk (by omega)) y.2 (by omega) (by omega) (by rw [List.length_append, List.length_append, List.length_append]; show L.length + 1 + (spl l).length + 1 + (spl r_).length ≤ 400; omega)) (fun s4 x => ?_)
        refine pc_cals (w_s20 x.2 (by rw [List.length_append, List.length_append, List.length_append, List.length_append]; show L.length + 1 + (spl l).length + 1 + (spl r_).length + 1 ≤ 400; omega)) (fun s5 x5 => pc_ret ⟨FR.cal (FR.cal f3 x.1 rfl rfl) x5.1 rfl rfl, ?_⟩)
        have e2 : L ++ [40] ++ spl l ++ [g] ++ spl r_ ++ [41] = L ++ spl t := by
          rw [es]
          simp only [List.append_assoc, List.cons_append, List.nil_append, List.singleton_append]
        rw [← e2]; exact x5.2
      · exact absurd gb w
      · exact absurd gb w
