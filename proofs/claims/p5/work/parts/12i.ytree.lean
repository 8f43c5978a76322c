theorem s_lifts {σ : Sto} {y y2 : Nat} {B p m c : Int} {x1 x2 : Int32} (hB : BM σ) (h : LSt σ y B p m c) (hv : VG x1.toInt x2.toInt) (h2 : 0 ≤ x2.toInt ∧ x2.toInt ≤ 999) (hz : x1.toInt ≠ 122) (hn : ndI x1.toInt ≤ y) (he : (y2 : Int) = y - ndI x1.toInt + gvI x1.toInt) (hy : y ≤ 6) (hy2 : y2 ≤ 6) (hB6 : B ≤ 58) (hp : p ≤ 390) (hm : m ≤ 5000) (p1 : 0 ≤ x1.toInt ∧ x1.toInt ≤ 255) : OK (f_X12_lifts x1 x2 σ) (fun s => BM s ∧ FR FL_ [] σ s ∧ (NGr σ s ∧ SGr σ s) ∧ LSt s y2 (B + 1) (p + 4) (m + 1) (c + 1) ∧ (x1.toInt = 116 ∨ x1.toInt = 114 → ENk σ s)) := by
  have k_0 : (0 : Int32).toInt = 0 := by decide +kernel
  have k_1 : (1 : Int32).toInt = 1 := by decide +kernel
  have k_4 : (4 : Int32).toInt = 4 := by decide +kernel
  have k_5 : (5 : Int32).toInt = 5 := by decide +kernel
  have k_6 : (6 : Int32).toInt = 6 := by decide +kernel
  have hst := h.st
  have hno := h.2.2.2.1
  have g41 := gM_41 hB 0
  unfold f_X12_lifts
  -- a leaf more
  have leaf : ∀ k w : Int32, y2 = y + 1 → ¬ (x1.toInt = 116 ∨ x1.toInt = 114) → 0 ≤ k.toInt ∧ k.toInt ≤ 4 → 0 ≤ w.toInt ∧ w.toInt ≤ 999 → LFB k.toInt w.toInt → OK (calv (f_X12_makes k w 0 σ) fun v s => cals (f_X12_lays v s) fun s_7 => some s_7) (fun s => BM s ∧ FR FL_ [] σ s ∧ (NGr σ s ∧ SGr σ s) ∧ LSt s y2 (B + 1) (p + 4) (m + 1) (c + 1) ∧ (x1.toInt = 116 ∨ x1.toInt = 114 → ENk σ s)) := by
    intro k w ey nx hk hw hl
    refine ok_calv (mk_one hB (x1 := k) (x2 := w) (x3 := 0) (z := 1) (by omega) (by omega) (by omega) (by omega) (Or.inl ⟨rfl, hk.2, hl⟩)) (fun v s q => ?_)
    obtain ⟨q1, q2, q3, q4, q5, q6, q7, -⟩ := q
    (try dsimp only at q1 q2 q3 q4 q5 q6 q7)
    have L := h.nodes (q := 1) q3 q2 (by omega)
    refine ok_cals (s_push q1 L (by omega) q6 q7) (fun s7 u => ?_)
    obtain ⟨u1, u2, u3⟩ := u
    have sp := sp_01 s v.toNatClampNeg
    have ch := ch_01 s y v.toNatClampNeg
    rw [ey]
    exact ok_ret ⟨u1, FR.cal (FR.cal FR.rf q2 rfl rfl) u2 rfl rfl, ⟨q3.tr (NGr.fr u2 rfl), (SGr.fr q2 rfl).tr (SGr.fr u2 rfl)⟩, u3.up (by omega) (by omega) (by omega) (by omega), fun z => absurd z nx⟩
  -- one of one
  have one : ∀ k : Int32, y2 = y → 1 ≤ y → ¬ (x1.toInt = 116 ∨ x1.toInt = 114) → k.toInt = 5 ∨ k.toInt = 6 → OK (calv (f_X12_pops_ σ) fun v_2 s_2 => calv (f_X12_makes k v_2 0 s_2) fun v s => cals (f_X12_lays v s) fun s_7 => some s_7) (fun s => BM s ∧ FR FL_ [] σ s ∧ (NGr σ s ∧ SGr σ s) ∧ LSt s y2 (B + 1) (p + 4) (m + 1) (c + 1) ∧ (x1.toInt = 116 ∨ x1.toInt = 114 → ENk σ s)) := by
    intro k ey y1 nx hk
    obtain ⟨w, rfl⟩ : ∃ w, y = w + 1 := ⟨y - 1, by omega⟩
    refine ok_calv (s_pop hB h) (fun v2 s2 q => ?_)
    obtain ⟨q1, q2, q3, q4, z, z1, z2, z3⟩ := q
    (try dsimp only at q1 q2 q3 q4 z1 z2 z3)
    have sp2 := sp_01 s2 v2.toNatClampNeg
    have ch2 := ch_01 s2 w v2.toNatClampNeg
    have e41 : (s2.1 41 0).toInt = (σ.1 41 0).toInt := by rw [q2.1 41 (by decide)]
    have l2 := idx q4 z2.lt
    refine ok_calv (mk_one q1 (x1 := k) (x2 := v2) (x3 := 0) (z := z + 1) (by omega) (by omega) (by omega) (by omega) (Or.inr (Or.inl ⟨hk, by omega, z2⟩))) (fun v s u => ?_)
    obtain ⟨u1, u2, u3, u4, u5, u6, u7, -⟩ := u
    (try dsimp only at u1 u2 u3 u4 u5 u6 u7)
    have L := z3.nodes (q := 1) u3 u2 (by omega)
    refine ok_cals (s_push u1 L (by omega) u6 u7) (fun s7 r => ?_)
    obtain ⟨r1, r2, r3⟩ := r
    have sp := sp_01 s v.toNatClampNeg
    have ch := ch_01 s w v.toNatClampNeg
    rw [ey]
    exact ok_ret ⟨r1, FR.cal (FR.cal (FR.cal FR.rf q2 rfl rfl) u2 rfl rfl) r2 rfl rfl, ⟨((NGr.fr q2 rfl).tr u3).tr (NGr.fr r2 rfl), ((SGr.fr q2 rfl).tr (SGr.fr u2 rfl)).tr (SGr.fr r2 rfl)⟩, r3.up (by omega) (by omega) (by omega) (by omega), fun z => absurd z nx⟩
  refine ok_ite (fun c1 => ?_) (fun c1 => ?_)
  · have e1 : ndI x1.toInt = 1 := by rw [c1]; decide
    have e2 : gvI x1.toInt = 1 := by rw [c1]; decide
    exact one 5 (by omega) (by omega) (by omega) (Or.inl k_5)
  refine ok_ite (fun c2 => ?_) (fun c2 => ?_)
  · have e1 : ndI x1.toInt = 1 := by rw [c2]; decide
    have e2 : gvI x1.toInt = 2 := by rw [c2]; decide
    obtain ⟨w, rfl⟩ : ∃ w, y = w + 1 := ⟨y - 1, by omega⟩
    refine ok_cals (s_doubles hB h (by omega) (by omega) hp hm) (fun s q => ?_)
    obtain ⟨q1, q2, q3, q4⟩ := q
    rw [show y2 = w + 2 by omega]
    exact ok_ret ⟨q1, q2, q3, q4.up (Int.le_refl _) (Int.le_refl _) (by omega) (by omega), fun z => by omega⟩
  refine ok_ite (fun c3 => ?_) (fun c3 => ?_)
  · have e1 : ndI x1.toInt = 0 := by rw [c3]; decide
    have e2 : gvI x1.toInt = 1 := by rw [c3]; decide
    exact leaf 4 0 (by omega) (by omega) (by omega) (by omega) (by unfold LFB; omega)
  refine ok_ite (fun c4 => ?_) (fun c4 => ?_)
  · have e1 : ndI x1.toInt = 0 := by rw [c4]; decide
    have e2 : gvI x1.toInt = 1 := by rw [c4]; decide
    exact leaf 0 x2 (by omega) (by omega) (by omega) h2 (by unfold LFB; omega)
  refine ok_ite (fun c5 => ?_) (fun c5 => ?_)
  · have e1 : ndI x1.toInt = 0 := by rw [c5]; decide
    have e2 : gvI x1.toInt = 1 := by rw [c5]; decide
    have := hv.1 (Or.inl c5)
    exact leaf 1 x2 (by omega) (by omega) (by omega) h2 (by unfold LFB; omega)
  refine ok_ite (fun c6 => ?_) (fun c6 => ?_)
  · have e1 : ndI x1.toInt = 1 := by rw [c6]; decide
    have e2 : gvI x1.toInt = 1 := by rw [c6]; decide
    exact one 6 (by omega) (by omega) (by omega) (Or.inr k_6)
  refine ok_ite (fun c7 => ?_) (fun c7 => ?_)
  · have e1 : ndI x1.toInt = 1 := by rw [c7]; decide
    have e2 : gvI x1.toInt = 0 := by rw [c7]; decide
    obtain ⟨w, rfl⟩ : ∃ w, y = w + 1 := ⟨y - 1, by omega⟩
    refine ok_calv (s_pop hB h) (fun v s q => ?_)
    obtain ⟨q1, q2, q3, q4, z, z1, z2, z3⟩ := q
    (try dsimp only at q1 q2 q3 q4 z1 z2 z3)
    have sp := sp_01 s v.toNatClampNeg
    have ch := ch_01 s w v.toNatClampNeg
    have nn := z3.2.1.nn
    refine ok_cals (s_alone q1 z3 (by omega) (by omega) (by omega) hm q4 (z2.up (by omega) (by omega))) (fun s2 u => ?_)
    obtain ⟨u1, u2, u3, u4⟩ := u
    rw [show y2 = w by omega]
    exact ok_ret ⟨u1, FR.cal (FR.cal FR.rf q2 rfl rfl) u2 rfl rfl, ⟨(NGr.fr q2 rfl).tr u3.1, (SGr.fr q2 rfl).tr u3.2⟩, u4.up (by omega) (by omega) (by omega) (by omega), fun z => by omega⟩
  refine ok_ite (fun c8 => ?_) (fun c8 => ?_)
  · have e1 : ndI x1.toInt = 2 := by rw [c8]; decide
    have e2 : gvI x1.toInt = 2 := by rw [c8]; decide
    obtain ⟨w, rfl⟩ : ∃ w, y = w + 2 := ⟨y - 2, by omega⟩
    refine ok_cals (s_changes hB h (by omega) (by omega) hp hm) (fun s q => ?_)
    obtain ⟨q1, q2, q3, q4⟩ := q
    rw [show y2 = w + 2 by omega]
    exact ok_ret ⟨q1, q2, q3, q4.up (by omega) (Int.le_refl _) (by omega) (by omega), fun z => by omega⟩
  refine ok_calp (s_X12_isOneOf_s108 (x1 := x1) p1) (fun v18 h18 => ?_)
  refine ok_ite (fun c9 => ?_) (fun c9 => ?_)
  · rw [fa_eq, k_0] at c9
    have n18 : ¬ (x1.toInt = 43 ∨ x1.toInt = 45 ∨ x1.toInt = 42 ∨ x1.toInt = 47 ∨ x1.toInt = 37 ∨ x1.toInt = 60 ∨ x1.toInt = 61) := fun z => by have := h18.2.mpr z; omega
    have hk := hv.2.2
    have hx : (x1.toInt = 115 ∨ x1.toInt = 111 ∨ x1.toInt = 116) ∨ (x1.toInt = 114 ∨ x1.toInt = 103) := by omega
    have h5 := hv.1
    refine ok_cals (s_tells (y2 := y2) (x2 := x2) hB h ?_ (fun z => by omega) (by omega) (by omega) hp hm) (fun s q => ?_)
    · rcases hx with q | q
      · have e1 : ndI x1.toInt = 1 := by unfold ndI; rw [if_neg (by omega), if_pos (by omega)]
        have e2 : gvI x1.toInt = 0 := by unfold gvI; rw [if_neg (by omega), if_neg (by omega)]
        exact Or.inl ⟨q, by omega⟩
      · have e1 : ndI x1.toInt = 0 := by unfold ndI; rw [if_neg (by omega), if_neg (by omega)]
        have e2 : gvI x1.toInt = 0 := by unfold gvI; rw [if_neg (by omega), if_neg (by omega)]
        exact Or.inr ⟨q, by omega⟩
    · obtain ⟨q1, q2, q3, q4, q5⟩ := q
      exact ok_ret ⟨q1, q2, q3, q4.up (by omega) (by omega) (by omega) (by omega), q5⟩
  · rw [fa_eq, k_0] at c9
    have h181 := h18.1
    have b18 := h18.2.mp (by omega)
    have e1 : ndI x1.toInt = 2 := by unfold ndI; rw [if_pos (by omega)]
    have e2 : gvI x1.toInt = 1 := by unfold gvI; rw [if_neg (by omega), if_pos (by omega)]
    obtain ⟨w, rfl⟩ : ∃ w, y = w + 2 := ⟨y - 2, by omega⟩
    refine ok_calv (s_pop hB h) (fun v21 s21 q => ?_)
    obtain ⟨q1, q2, q3, q4, z, z1, z2, z3⟩ := q
    (try dsimp only at q1 q2 q3 q4 z1 z2 z3)
    have sp := sp_01 s21 v21.toNatClampNeg
    have ch := ch_01 s21 (w + 1) v21.toNatClampNeg
    refine ok_calv (s_pop q1 z3) (fun v22 s22 u => ?_)
    obtain ⟨u1, u2, u3, u4, z', u5, u6, u7⟩ := u
    (try dsimp only at u1 u2 u3 u4 u5 u6 u7)
    have sp2 := sp_01 s22 v22.toNatClampNeg
    have ch2 := ch_01 s22 w v22.toNatClampNeg
    have g22 : NGr s21 s22 := NGr.fr u2 rfl
    have t21 := z2.ng g22 (Nat.le_refl _)
    have e41 : (s22.1 41 0).toInt = (σ.1 41 0).toInt := by rw [u2.1 41 (by decide), q2.1 41 (by decide)]
    have l21 := idx q4 t21.lt
    have l22 := idx u4 u6.lt
    refine ok_calv (mk_one u1 (x1 := x1) (x2 := v22) (x3 := v21) (z := z' + z + 1) p1 (by omega) (by omega) (by omega) (Or.inr (Or.inr ⟨by omega, z', z, Nat.le_refl _, u6, t21⟩))) (fun v s r => ?_)
    obtain ⟨r1, r2, r3, r4, r5, r6, r7, -⟩ := r
    (try dsimp only at r1 r2 r3 r4 r5 r6 r7)
    have L := u7.nodes (q := 1) r3 r2 (by omega)
    refine ok_cals (s_push r1 L (by omega) r6 r7) (fun s7 o => ?_)
    obtain ⟨o1, o2, o3⟩ := o
    have sp3_ := sp_01 s v.toNatClampNeg
    have ch3 := ch_01 s w v.toNatClampNeg
    rw [show y2 = w + 1 by omega]
    exact ok_ret ⟨o1, FR.cal (FR.cal (FR.cal (FR.cal FR.rf q2 rfl rfl) u2 rfl rfl) r2 rfl rfl) o2 rfl rfl, ⟨(((NGr.fr q2 rfl).tr g22).tr r3).tr (NGr.fr o2 rfl), (((SGr.fr q2 rfl).tr (SGr.fr u2 rfl)).tr (SGr.fr r2 rfl)).tr (SGr.fr o2 rfl)⟩, o3.up (by omega) (by omega) (by omega) (by omega), fun z => by omega⟩
