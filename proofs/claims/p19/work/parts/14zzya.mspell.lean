/-- the reference's signs written -/
def WRM (σ : Sto) (L : List Int32) : Prop := (σ.1 66 0).toInt = (L.length : Int) ∧ ∀ i, i < L.length → L[i]? = some (σ.1 65 i)
theorem ten_ : ∀ n, n < 1000 → ¬ nI n ≤ 99 → 48 + ((nI n / 10 / 10) - (nI n / 10 / 10) / 10 * 10) = 48 + nI n / 100 ∧ nI n / 10 / 10 ≤ 9 ∧ ¬ nI n / 10 ≤ 9 := by decide +kernel
theorem ten_1 : ∀ n, n < 1000 → ¬ nI n ≤ 9 → nI n ≤ 99 → nI n / 10 ≤ 9 := by decide +kernel
section
variable {σ : Sto} {L : List Int32}
theorem v_sign {c : Int32} (h : WRM σ L) : PC (f_X12_writes c σ) (fun s => FR [65, 66] [] σ s ∧ WRM s (L ++ [c])) := by
  obtain ⟨h1, h2⟩ := h
  unfold f_X12_writes
  refine pc_ix (fun g => ?_)
  have cn : (σ.1 66 0).toNatClampNeg = L.length := by
    have := clamp_I (x := σ.1 66 0) (by omega)
    omega
  rw [cn]
  refine pc_lt fun s es => ?_
  refine pc_lt fun s2 e2 => ?_
  have q : ∀ i, s2.1 65 i = if i = L.length then c else σ.1 65 i := fun i => by rw [e2, sti_o (by decide), es, sti_if]
  refine pc_ret ⟨by rw [e2, es]; exact FR.st (FR.st FR.rf (by decide)) (by decide), ?_, fun i hi => ?_⟩
  · rw [e2, sti_s, es, sti_o (by decide), i1 (by omega), h1, List.length_append]
    rfl
  · rw [List.length_append] at hi
    have hi : i < L.length + 1 := hi
    rw [q]
    by_cases z : i = L.length
    · rw [if_pos z, z, app_r]
    · rw [if_neg z, app_l (by omega)]; exact h2 i (by omega)
theorem v_num1 {d : Nat} {x : Int32} (h : WRM σ L) (hx : x ≤ 9) : PC (g_X12_writesNumber (d + 1) x σ) (fun s => FR [65, 66] [] σ s ∧ WRM s (L ++ [48 + (x - x / 10 * 10)])) := by
  show PC (b_X12_writesNumber (g_X12_writesNumber d) x σ) _
  unfold b_X12_writesNumber
  refine pc_jn ?_
  rw [if_pos hx]
  exact pc_cals (v_sign h) (fun s u => pc_ret u)
theorem v_number {x : Int32} (h : WRM σ L) (h0 : 0 ≤ x.toInt) (h9 : x.toInt ≤ 999) : PC (f_X12_writesNumber 250 x σ) (fun s => FR [65, 66] [] σ s ∧ WRM s (L ++ dgs x)) := by
  have cx := clamp_I h0
  have ex : x = nI x.toNatClampNeg := nI_id h0
  by_cases z : x ≤ 9
  · rw [dgs_1 z]
    exact v_num1 (d := 249) h z
  · show PC (b_X12_writesNumber (g_X12_writesNumber 249) x σ) _
    unfold b_X12_writesNumber
    refine pc_jn ?_
    rw [if_neg z]
    by_cases g : x ≤ 99
    · have t := ten_1 x.toNatClampNeg (by omega)
      rw [← ex] at t
      rw [dgs_2 z g]
      refine pc_cals (v_num1 (d := 248) h (t z g)) (fun s u => ?_)
      refine pc_cals (v_sign u.2) (fun s2 w => pc_ret ⟨FR.cal u.1 w.1 rfl rfl, ?_⟩)
      rw [← app_2]; exact w.2
    · have t := ten_ x.toNatClampNeg (by omega)
      rw [← ex] at t
      obtain ⟨t1, t2, t3⟩ := t g
      rw [dgs_3 z g]
      have two : PC (g_X12_writesNumber 249 (x / 10) σ) (fun s => FR [65, 66] [] σ s ∧ WRM s (L ++ [48 + x / 100] ++ [48 + ((x / 10) - (x / 10) / 10 * 10)])) := by
        show PC (b_X12_writesNumber (g_X12_writesNumber 248) (x / 10) σ) _
        unfold b_X12_writesNumber
        refine pc_jn ?_
        rw [if_neg t3]
        refine pc_cals (v_num1 (d := 247) h t2) (fun s u => ?_)
        rw [t1] at u
        exact pc_cals (v_sign u.2) (fun s2 w => pc_ret ⟨FR.cal u.1 w.1 rfl rfl, w.2⟩)
      refine pc_cals two (fun s u => ?_)
      refine pc_cals (v_sign u.2) (fun s2 w => pc_ret ⟨FR.cal u.1 w.1 rfl rfl, ?_⟩)
      have e : L ++ [48 + x / 100] ++ [48 + ((x / 10) - (x / 10) / 10 * 10)] ++ [48 + (x - x / 10 * 10)] = L ++ [48 + x / 100, 48 + ((x / 10) - (x / 10) / 10 * 10), 48 + (x - x / 10 * 10)] := by rw [List.append_assoc, List.append_assoc]; rfl
      rw [← e]; exact w.2
theorem v_name {c x : Int32} (h : WRM σ L) (h0 : 0 ≤ x.toInt) (h9 : x.toInt ≤ 999) : PC (f_X12_writesName c x σ) (fun s => FR [65, 66] [] σ s ∧ WRM s (L ++ c :: dgs x)) := by
  unfold f_X12_writesName
  refine pc_cals (v_sign h) (fun s u => ?_)
  refine pc_cals (v_number u.2 h0 h9) (fun s2 w => pc_ret ⟨FR.cal u.1 w.1 rfl rfl, ?_⟩)
  have e : L ++ [c] ++ dgs x = L ++ c :: dgs x := by rw [List.append_assoc]; rfl
  rw [← e]; exact w.2
theorem v_word {c n : Nat} {N : Int32} (hN : N.toInt = (n : Int)) (h : WRM σ L) : PC (itr (fun _ _ => none) (fun (a_2 : Int32 → Sto → Option Sto) (x2_1 : Int32) (s_1 : Sto) => (
    if N ≤ x2_1 then (
      some s_1
    ) else (
      ix n x2_1 <| lt (chS c x2_1) fun v_3 =>
      cals (f_X12_writes v_3 s_1) fun s_4 =>
      lt (x2_1 + 1) fun x2_5 =>
      a_2 x2_5 s_4
    )
  )) LF (0 : Int32) σ) (fun s => FR [65, 66] [] σ s ∧ WRM s (L ++ wd c n)) := by
  have k_0 : (0 : Int32).toInt = 0 := by decide +kernel
  have rN := tI_rng N
  refine pc_itr2 (fun x s => 0 ≤ x.toInt ∧ x.toInt ≤ (n : Int) ∧ FR [65, 66] [] σ s ∧ WRM s (L ++ wd c x.toNatClampNeg)) ?_ (by exact ⟨by omega, by omega, FR.rf, by show WRM σ (L ++ []); rw [List.append_nil]; exact h⟩)
  intro ag x s I ih
  obtain ⟨x0, xn, f, w⟩ := I
  have cx := clamp_I x0
  refine pc_ite (fun z => ?_) (fun z => ?_)
  · rw [fa_le, hN] at z
    rw [show x.toNatClampNeg = n by omega] at w
    exact pc_ret ⟨f, w⟩
  · rw [fa_le, hN] at z
    have ex : (x + 1).toInt = x.toInt + 1 := i1 (by omega)
    have cx1 : (x + 1).toNatClampNeg = x.toNatClampNeg + 1 := by have := clamp_I (x := x + 1) (by omega); omega
    refine pc_ix (fun _ => ?_)
    refine pc_lt fun v3 e3 => ?_
    refine pc_cals (v_sign w) (fun s4 u => ?_)
    refine pc_lt fun x5 e5 => ?_
    subst e5
    refine ih (x + 1) s4 ⟨by omega, by omega, FR.cal f u.1 rfl rfl, ?_⟩
    rw [cx1, wd_s, ← List.append_assoc, ← nI_id x0, ← e3]
    exact u.2
theorem v_in (h : WRM σ L) : PC (f_X12_writesWord_s110 σ) (fun s => FR [65, 66] [] σ s ∧ WRM s (L ++ wd 18 2)) := by
  have q := v_word (c := 110) (n := 2) (N := 2) (by decide +kernel) h
  rw [show wd 110 2 = wd 18 2 by decide +kernel] at q
  exact q
end
/-- numbers of a tree are below 1000 -/
def sN (t : Term) : Prop := match t with
  | .int n => 0 ≤ n.toInt ∧ n.toInt ≤ 999
  | .index k => k ≤ 999
  | .string _ x => x ≤ 999
  | _ => True
def tN : Term → Prop
  | .length t => tN t
  | .sum t => tN t
  | .add (.int _) (.sub l r) => tN l ∧ tN r
  | t => sN t
/-- what the reference writes of an expression -/
theorem v_exp {n : Nat} {tr : Nat → Term} : ∀ (d : Nat) (v : Int32) (σ : Sto) (t : Term) (L : List Int32), PLM σ n tr → EXV v n tr (some t) → tN t → WRM σ L → PC (f_X12_spells d v σ) (fun s => FR [65, 66] [] σ s ∧ WRM s (L ++ spl t))
  | 0, _, _, _, _, _, _, _, _ => pc_no
  | d + 1, v, σ, t, L, h, hv, hn, hw => by
    obtain ⟨e, v1, v2, v3, v4⟩ := hv.so
    obtain ⟨wf, q⟩ := h.2 e v2
    rw [v3] at q
    show PC (b_X12_spells (g_X12_spells d) v σ) _
    unfold b_X12_spells
    refine pc_ix (fun _ => ?_)
    rw [v4]
    refine pc_lt fun g eg => ?_
    have ways := h.ways v2
    rw [v3] at ways
    rw [← eg] at wf q ways
    -- one of one
    have one : ∀ (l : Term) (y : Int32), spl t = y :: spl l → tN l → EXV (σ.1 39 e) e tr (some l) → PC (cals (f_X12_writes y σ) fun s_12 => ix 6000 v <| lt (s_12.1 39 e) fun v_13 => cals (g_X12_spells d v_13 s_12) fun s_14 => some s_14) (fun s => FR [65, 66] [] σ s ∧ WRM s (L ++ spl t)) := by
      intro l y es nl vl
      refine pc_cals (v_sign hw) (fun s u => ?_)
      refine pc_ix (fun _ => ?_)
      refine pc_lt fun w13 e13 => ?_
      rw [u.1.1 39 (by decide)] at e13
      rw [← e13] at vl
      refine pc_cals (v_exp d w13 s l (L ++ [y]) (h.cg (fun k hk => u.1.1 k (by simp; omega))) (vl.wk (by omega)) nl u.2) (fun s2 w => pc_ret ⟨FR.cal u.1 w.1 rfl rfl, ?_⟩)
      have e2 : L ++ [y] ++ spl l = L ++ spl t := by rw [es, List.append_assoc]; rfl
      rw [← e2]; exact w.2
    refine pc_ite (fun z => ?_) (fun z0 => ?_)
    · rw [mkM_0 z] at q
      rw [q] at hn
      have hn : 0 ≤ (σ.1 39 e).toInt ∧ (σ.1 39 e).toInt ≤ 999 := hn
      refine pc_ix (fun _ => ?_)
      refine pc_lt fun w3 e3 => ?_
      have es : spl t = dgs w3 := by rw [q, e3]; rfl
      rw [es]
      exact pc_cals (v_number hw (by rw [e3]; exact hn.1) (by rw [e3]; exact hn.2)) (fun s u => pc_ret u)
    refine pc_ite (fun z => ?_) (fun z1 => ?_)
    · rw [mkM_1 z] at q
      have l0 : 0 ≤ (σ.1 39 e).toInt := by
        rcases wf with w | ⟨w, w2⟩ | w | ⟨w, w2, _⟩ | ⟨w, w2, _⟩ <;> omega
      refine pc_ix (fun _ => ?_)
      refine pc_lt fun w3 e3 => ?_
      have es : spl t = [97 + w3] := by
        rw [q, e3]
        show [97 + nI (σ.1 39 e).toNatClampNeg] = _
        rw [← nI_id l0]
      rw [es]
      exact pc_cals (v_sign hw) (fun s u => pc_ret u)
    refine pc_ite (fun z => ?_) (fun z2 => ?_)
    · rw [mkM_2 z] at q
      have l0 : 0 ≤ (σ.1 39 e).toInt := by
        rcases wf with w | ⟨w, w2⟩ | w | ⟨w, w2, _⟩ | ⟨w, w2, _⟩ <;> omega
      have cl := clamp_I l0
      rw [q] at hn
      have hn : (σ.1 39 e).toNatClampNeg ≤ 999 := hn
      refine pc_ix (fun _ => ?_)
      refine pc_lt fun w3 e3 => ?_
      have es : spl t = 116 :: dgs w3 := by
        rw [q, e3]
        show 116 :: dgs (nI (σ.1 39 e).toNatClampNeg) = _
        rw [← nI_id l0]
      rw [es]
      exact pc_cals (v_name hw (by rw [e3]; omega) (by rw [e3]; omega)) (fun s u => pc_ret u)
    refine pc_ite (fun z => ?_) (fun z3 => ?_)
    · rw [mkM_3 z] at q
      have l0 : 0 ≤ (σ.1 39 e).toInt := by
        rcases wf with w | ⟨w, w2⟩ | w | ⟨w, w2, _⟩ | ⟨w, w2, _⟩ <;> omega
      have cl := clamp_I l0
      rw [q] at hn
      have hn : (σ.1 39 e).toNatClampNeg ≤ 999 := hn
      refine pc_ix (fun _ => ?_)
      refine pc_lt fun w3 e3 => ?_
      have es : spl t = 120 :: dgs w3 := by
        rw [q, e3]
        show 120 :: dgs (nI (σ.1 39 e).toNatClampNeg) = _
        rw [← nI_id l0]
      rw [es]
      exact pc_cals (v_name hw (by rw [e3]; omega) (by rw [e3]; omega)) (fun s u => pc_ret u)
    refine pc_ite (fun z => ?_) (fun z4 => ?_)
    · rw [mkM_4 z] at q
      have es : spl t = wd 18 2 := by rw [q]; rfl
      rw [es]
      exact pc_cals (v_in hw) (fun s u => pc_ret u)
    refine pc_ite (fun z => ?_) (fun z5 => ?_)
    · rcases ways with ⟨w, _⟩ | ⟨_, l, w1, w2⟩ | ⟨_, w, _⟩
      · omega
      · rcases w1 with y | y
        · rw [y.1] at hn
          exact one l 33 (by rw [y.1]; rfl) hn w2
        · omega
      · omega
    refine pc_ite (fun z => ?_) (fun z6 => ?_)
    · rcases ways with ⟨w, _⟩ | ⟨_, l, w1, w2⟩ | ⟨_, w, _⟩
      · omega
      · rcases w1 with y | y
        · omega
        · rw [y.1] at hn
          exact one l 45 (by rw [y.1]; rfl) hn w2
      · omega
    · rcases ways with ⟨gb, l, r_, w1, w2, w3⟩ | ⟨w, _⟩ | ⟨w, w', _⟩
      · have es : spl t = 40 :: (spl l ++ (g :: (spl r_ ++ [41]))) := by rw [w1]; rfl
        rw [w1] at hn
        have hn : tN l ∧ tN r_ := hn
        refine pc_cals (v_sign hw) (fun s u => ?_)
        refine pc_ix (fun _ => ?_)
        refine pc_lt fun w19 e19 => ?_
        rw [u.1.1 39 (by decide)] at e19
        rw [← e19] at w2
        refine pc_cals (v_exp d w19 s l (L ++ [40]) (h.cg (fun k hk => u.1.1 k (by simp; omega))) (w2.wk (by omega)) hn.1 u.2) (fun s2 w => ?_)
        have f2 : FR [65, 66] [] σ s2 := FR.cal u.1 w.1 rfl rfl
        refine pc_ix (fun _ => ?_)
        refine pc_lt fun g21 e21 => ?_
        rw [f2.1 38 (by decide), ← eg] at e21
        refine pc_cals (v_sign w.2) (fun s3 y => ?_)
        have f3 : FR [65, 66] [] σ s3 := FR.cal f2 y.1 rfl rfl
        refine pc_ix (fun _ => ?_)
        refine pc_lt fun rt er => ?_
        rw [f3.1 40 (by decide)] at er
        rw [← er] at w3
        refine pc_cals (v_exp d rt s3 r_ (L ++ [40] ++ spl l ++ [g21]) (h.cg (fun k hk => f3.1 k (by simp; omega))) (w3.wk (by omega)) hn.2 y.2) (fun s4 x => ?_)
        refine pc_cals (v_sign x.2) (fun s5 x5 => pc_ret ⟨FR.cal (FR.cal f3 x.1 rfl rfl) x5.1 rfl rfl, ?_⟩)
        have e2 : L ++ [40] ++ spl l ++ [g21] ++ spl r_ ++ [41] = L ++ spl t := by
          rw [es, e21]
          simp only [List.append_assoc, List.cons_append, List.nil_append, List.singleton_append]
        rw [← e2]; exact x5.2
      · omega
      · omega
