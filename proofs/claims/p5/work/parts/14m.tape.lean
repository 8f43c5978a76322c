/-- a byte of a number, the lowest is 0 -/
def byW (w : Int32) (j : Nat) : Int32 := (w >>> (((8 : Int32) * nI j) &&& 31)) &&& 255
theorem byW_nz (w : Int32) (j : Nat) : nzB w j = if byW w j = 0 then 0 else 1 := by
  unfold nzB
  have k0 : (0 : Int32).toInt = 0 := by decide +kernel
  by_cases q : byW w j = 0
  · rw [if_pos q, if_pos]
    show (byW w j).toInt = 0
    rw [q]; exact k0
  · rw [if_neg q, if_neg]
    exact fun z => q (Int32.toInt_inj.mp (by rw [k0]; exact z))
theorem us_eq (w : Int32) {x : Int32} {j : Nat} (h : x.toInt = 8 * (j : Int)) (hj : j < 4) : ((w.toUInt32 >>> (x.toUInt32 &&& Int32.toUInt32 31)).toInt32) &&& 255 = byW w j := by
  have hx := br_sh h hj
  have e : (8 : Int32) * nI j = nI (8 * j) := by
    have : j = 0 ∨ j = 1 ∨ j = 2 ∨ j = 3 := by omega
    rcases this with q | q | q | q <;> subst q <;> decide +kernel
  unfold byW
  rw [hx, e]
  refine b_ext (fun i hi => ?_)
  rw [b_and, b_and, b_ushr _ (by omega), b_sshr _ (by omega) _ hi, b_255]
  by_cases q : i < 8
  · rw [if_pos (by omega)]
  · rw [decide_eq_false q, Bool.and_false, Bool.and_false]
abbrev Tp : Type := (Nat → Int32) × Int32
def tpB (b : Int32) (t : Tp) : Tp := if b = 0 then t else (upd t.1 t.2.toNatClampNeg b.toInt8.toInt32.toInt8.toInt32, t.2 + 1)
/-- a number's bytes come to the tape, the highest first -/
def tpW (w : Int32) : Nat → Tp → Tp
  | 0, t => t
  | j + 1, t => tpW w j (tpB (byW w j) t)
def Tq (s : Sto) : Tp := (s.1 1, s.1 2 0)
theorem tq_app {s s7 s8 : Sto} {b : Int32} (hb : ¬ b = 0) (e7 : s7 = sti s 1 (s.1 2 0).toNatClampNeg b.toInt8.toInt32.toInt8.toInt32) (e8 : s8 = sti s7 2 0 ((s7.1 2 0) + 1)) : Tq s8 = tpB b (Tq s) := by
  unfold tpB
  rw [if_neg hb]
  unfold Tq
  have h1 : s8.1 1 = upd (s.1 1) (s.1 2 0).toNatClampNeg b.toInt8.toInt32.toInt8.toInt32 := by
    rw [e8, sti_o (by decide), e7]; rfl
  have h2 : s8.1 2 0 = s.1 2 0 + 1 := by rw [e8, sti_if, if_pos rfl, e7, sti_o (by decide)]
  rw [h1, h2]
theorem t_brings {x1 : Int32} {σ : Sto} (h0 : 0 ≤ (σ.1 2 0).toInt) (hl : (σ.1 2 0).toInt + cB x1 4 ≤ 240) : OK (f_X12_brings x1 σ) (fun s => Tq s = tpW x1 4 (Tq σ) ∧ (s.1 2 0).toInt = (σ.1 2 0).toInt + cB x1 4) := by
  have k_m8 : ((-8) : Int32).toInt = -8 := by decide +kernel
  have k_0 : (0 : Int32).toInt = 0 := by decide +kernel
  have k_24 : (24 : Int32).toInt = 24 := by decide +kernel
  unfold f_X12_brings
  refine ok_itr2 (fun (n : Nat) (x : Int32) (s : Sto) => n = (x.toInt + 9).toNat ∧ ∃ j : Nat, j ≤ 4 ∧ x.toInt = 8 * (j : Int) - 8 ∧ tpW x1 j (Tq s) = tpW x1 4 (Tq σ) ∧ (s.1 2 0).toInt + cB x1 j = (σ.1 2 0).toInt + cB x1 4 ∧ 0 ≤ (s.1 2 0).toInt) ?_ (n := ((24 : Int32).toInt + 9).toNat) ⟨rfl, 4, Nat.le_refl _, by rw [k_24]; decide, rfl, rfl, h0⟩ (by rw [k_24]; decide)
  intro ag n x s I ih
  obtain ⟨hn, j0, j4, hj, ht, hs, s0⟩ := I
  refine ok_ite (fun c => ?_) (fun c => ?_)
  · rw [fa_lt, k_0] at c
    have : j0 = 0 := by omega
    subst this
    have z : cB x1 0 = 0 := rfl
    exact ok_ret ⟨ht, by omega⟩
  · rw [fa_lt, k_0] at c
    obtain ⟨j, rfl⟩ : ∃ j, j0 = j + 1 := ⟨j0 - 1, by omega⟩
    have cj := cB_le x1 j
    have bz := byW_nz x1 j
    rw [cB_s] at hs
    have sh := br_sh (x := x) (j := j) (by omega) (by omega)
    refine ok_lt fun b eb => ?_
    have eb' : b = byW x1 j := by rw [eb, sh]; rfl
    refine ok_jnI1 (fun u => tpW x1 j (Tq u) = tpW x1 4 (Tq σ) ∧ (u.1 2 0).toInt + cB x1 j = (σ.1 2 0).toInt + cB x1 4 ∧ 0 ≤ (u.1 2 0).toInt) (fun u hu => ?_) (fun k hk => ?_)
    · refine ok_lt fun x5 e5 => ?_
      have ex : x5.toInt = x.toInt - 8 := by rw [e5, fb_addI (by omega) (by omega), k_m8]; omega
      exact ih (x5.toInt + 9).toNat x5 u (by omega) ⟨rfl, j, by omega, by omega, hu⟩
    · refine ok_ite (fun c2 => ?_) (fun c2 => ?_)
      · refine hk s ⟨?_, ?_, s0⟩
        · rw [← ht]
          show _ = tpW x1 j (tpB (byW x1 j) (Tq s))
          unfold tpB
          rw [if_pos (by rw [← eb']; exact c2)]
        · rw [if_pos (by rw [← eb']; exact c2)] at bz
          omega
      · have nb : ¬ byW x1 j = 0 := by rw [← eb']; exact c2
        rw [if_neg nb] at bz
        refine ok_ix ⟨s0, by omega⟩ ?_
        refine ok_lt fun s7 e7 => ?_
        refine ok_lt fun s8 e8 => ?_
        have q := tq_app c2 e7 e8
        have l8 : (s8.1 2 0).toInt = (s.1 2 0).toInt + 1 := by
          rw [e8, sti_if, if_pos rfl, e7, sti_o (by decide)]
          exact i1 (by omega)
        refine hk s8 ⟨?_, by omega, by omega⟩
        rw [q, eb', ← ht]
        rfl
theorem t_append {x1 : Int32} {σ : Sto} (h0 : 0 ≤ (σ.1 2 0).toInt) (hl : (σ.1 2 0).toInt + cB x1 4 ≤ 240) : OK (f_X9_append x1 σ) (fun s => Tq s = tpW x1 4 (Tq σ) ∧ (s.1 2 0).toInt = (σ.1 2 0).toInt + cB x1 4) := by
  have k_m8 : ((-8) : Int32).toInt = -8 := by decide +kernel
  have k_0 : (0 : Int32).toInt = 0 := by decide +kernel
  have k_24 : (24 : Int32).toInt = 24 := by decide +kernel
  have k_240 : (240 : Int32).toInt = 240 := by decide +kernel
  unfold f_X9_append
  refine ok_itr2 (fun (n : Nat) (x : Int32) (s : Sto) => n = (x.toInt + 9).toNat ∧ ∃ j : Nat, j ≤ 4 ∧ x.toInt = 8 * (j : Int) - 8 ∧ tpW x1 j (Tq s) = tpW x1 4 (Tq σ) ∧ (s.1 2 0).toInt + cB x1 j = (σ.1 2 0).toInt + cB x1 4 ∧ 0 ≤ (s.1 2 0).toInt) ?_ (n := ((24 : Int32).toInt + 9).toNat) ⟨rfl, 4, Nat.le_refl _, by rw [k_24]; decide, rfl, rfl, h0⟩ (by rw [k_24]; decide)
  intro ag n x s I ih
  obtain ⟨hn, j0, j4, hj, ht, hs, s0⟩ := I
  refine ok_ite (fun c => ?_) (fun c => ?_)
  · rw [fa_lt, k_0] at c
    have : j0 = 0 := by omega
    subst this
    have z : cB x1 0 = 0 := rfl
    exact ok_ret ⟨ht, by omega⟩
  · rw [fa_lt, k_0] at c
    obtain ⟨j, rfl⟩ : ∃ j, j0 = j + 1 := ⟨j0 - 1, by omega⟩
    have cj := cB_le x1 j
    have bz := byW_nz x1 j
    rw [cB_s] at hs
    refine ok_lt fun b eb => ?_
    have eb' : b = byW x1 j := by rw [eb]; exact us_eq x1 (by omega) (by omega)
    refine ok_jnI1 (fun u => tpW x1 j (Tq u) = tpW x1 4 (Tq σ) ∧ (u.1 2 0).toInt + cB x1 j = (σ.1 2 0).toInt + cB x1 4 ∧ 0 ≤ (u.1 2 0).toInt) (fun u hu => ?_) (fun k hk => ?_)
    · refine ok_lt fun x5 e5 => ?_
      have ex : x5.toInt = x.toInt - 8 := by rw [e5, fb_addI (by omega) (by omega), k_m8]; omega
      exact ih (x5.toInt + 9).toNat x5 u (by omega) ⟨rfl, j, by omega, by omega, hu⟩
    · refine ok_ite (fun c2 => ?_) (fun c2 => ?_)
      · refine hk s ⟨?_, ?_, s0⟩
        · rw [← ht]
          show _ = tpW x1 j (tpB (byW x1 j) (Tq s))
          unfold tpB
          rw [if_pos (by rw [← eb']; exact c2)]
        · rw [if_pos (by rw [← eb']; exact c2)] at bz
          omega
      · have nb : ¬ byW x1 j = 0 := by rw [← eb']; exact c2
        rw [if_neg nb] at bz
        refine ok_ite (fun c3 => ?_) (fun _ => ?_)
        · rw [fa_le, k_240] at c3; omega
        refine ok_ix ⟨s0, by omega⟩ ?_
        refine ok_lt fun s7 e7 => ?_
        refine ok_lt fun s8 e8 => ?_
        have q := tq_app c2 e7 e8
        have l8 : (s8.1 2 0).toInt = (s.1 2 0).toInt + 1 := by
          rw [e8, sti_if, if_pos rfl, e7, sti_o (by decide)]
          exact i1 (by omega)
        refine hk s8 ⟨?_, by omega, by omega⟩
        rw [q, eb', ← ht]
        rfl
theorem t_bytesIn {x1 : Int32} : OK (f_X11_bytesIn x1) (fun v => v.toInt = cB x1 4) := by
  have k_m8 : ((-8) : Int32).toInt = -8 := by decide +kernel
  have k_0 : (0 : Int32).toInt = 0 := by decide +kernel
  have k_24 : (24 : Int32).toInt = 24 := by decide +kernel
  have c4 := cB_le x1 4
  unfold f_X11_bytesIn
  refine ok_itr2 (fun (n : Nat) (a : Int32) (x : Int32) => n = (x.toInt + 9).toNat ∧ ∃ j : Nat, j ≤ 4 ∧ x.toInt = 8 * (j : Int) - 8 ∧ a.toInt + cB x1 j = cB x1 4 ∧ 0 ≤ a.toInt) ?_ (n := ((24 : Int32).toInt + 9).toNat) ⟨rfl, 4, Nat.le_refl _, by rw [k_24]; decide, by rw [k_0]; omega, by omega⟩ (by rw [k_24]; decide)
  intro ag n a x I ih
  obtain ⟨hn, j0, j4, hj, hs, s0⟩ := I
  refine ok_ite (fun c => ?_) (fun c => ?_)
  · rw [fa_lt, k_0] at c
    have : j0 = 0 := by omega
    subst this
    have z : cB x1 0 = 0 := rfl
    exact ok_ret (by omega)
  · rw [fa_lt, k_0] at c
    obtain ⟨j, rfl⟩ : ∃ j, j0 = j + 1 := ⟨j0 - 1, by omega⟩
    have cj := cB_le x1 j
    have bz := byW_nz x1 j
    rw [cB_s] at hs
    refine ok_jnI1 (fun u => u.toInt + cB x1 j = cB x1 4 ∧ 0 ≤ u.toInt) (fun u hu => ?_) (fun k hk => ?_)
    · refine ok_lt fun x5 e5 => ?_
      have ex : x5.toInt = x.toInt - 8 := by rw [e5, fb_addI (by omega) (by omega), k_m8]; omega
      exact ih (x5.toInt + 9).toNat u x5 (by omega) ⟨rfl, j, by omega, by omega, hu⟩
    · have ub := us_eq x1 (x := x) (j := j) (by omega) (by omega)
      refine ok_ite (fun c2 => ?_) (fun c2 => ?_)
      · rw [ub] at c2
        rw [if_pos c2] at bz
        exact hk a ⟨by omega, s0⟩
      · rw [ub] at c2
        rw [if_neg c2] at bz
        refine ok_lt fun x6 e6 => ?_
        have e6' : x6.toInt = a.toInt + 1 := by rw [e6]; exact i1 (by omega)
        exact hk x6 ⟨by omega, by omega⟩
/-- the tape behind feed, and its answer -/
def fdT (a b c d e : Int32) (t : Tp) : Tp × Int32 := if t.2.toInt + cB a 4 + cB b 4 + cB c 4 + cB d 4 + cB e 4 ≤ 240 then (tpW e 4 (tpW d 4 (tpW c 4 (tpW b 4 (tpW a 4 t)))), (tpW e 4 (tpW d 4 (tpW c 4 (tpW b 4 (tpW a 4 t))))).2) else (t, -1)
theorem t_feedX {a b c d e : Int32} {σ : Sto} (h : 0 ≤ (σ.1 2 0).toInt ∧ (σ.1 2 0).toInt ≤ 240) : OK (f_X11_feed a b c d e σ) (fun r => (Tq r.2, r.1) = fdT a b c d e (Tq σ)) := by
  have k_240 : (240 : Int32).toInt = 240 := by decide +kernel
  have ca := cB_le a 4
  have cb := cB_le b 4
  have cc := cB_le c 4
  have cd := cB_le d 4
  have ce := cB_le e 4
  have t2 : (Tq σ).2.toInt = (σ.1 2 0).toInt := rfl
  unfold f_X11_feed
  refine ok_calp t_bytesIn (fun v1 q1 => ?_)
  refine ok_calp t_bytesIn (fun v2 q2 => ?_)
  refine ok_calp t_bytesIn (fun v3 q3 => ?_)
  refine ok_calp t_bytesIn (fun v4 q4 => ?_)
  refine ok_calp t_bytesIn (fun v5 q5 => ?_)
  have p2 : (v1 + v2).toInt = v1.toInt + v2.toInt := fb_addI (by omega) (by omega)
  have p3 : (v1 + v2 + v3).toInt = v1.toInt + v2.toInt + v3.toInt := by rw [fb_addI (by rw [p2]; omega) (by rw [p2]; omega), p2]
  have p4 : (v1 + v2 + v3 + v4).toInt = v1.toInt + v2.toInt + v3.toInt + v4.toInt := by rw [fb_addI (by rw [p3]; omega) (by rw [p3]; omega), p3]
  have p5 : (v1 + v2 + v3 + v4 + v5).toInt = v1.toInt + v2.toInt + v3.toInt + v4.toInt + v5.toInt := by rw [fb_addI (by rw [p4]; omega) (by rw [p4]; omega), p4]
  refine ok_lt fun x6 e6 => ?_
  have p6 : ((σ.1 2 0) + x6).toInt = (σ.1 2 0).toInt + (v1.toInt + v2.toInt + v3.toInt + v4.toInt + v5.toInt) := by rw [e6, fb_addI (by rw [p5]; omega) (by rw [p5]; omega), p5]
  clear p2 p3 p4 p5
  refine ok_ite (fun c1 => ?_) (fun c1 => ?_)
  · rw [fa_le, p6, k_240] at c1
    refine ok_cals (t_append h.1 (by omega)) (fun s8 r8 => ?_)
    refine ok_cals (t_append (by omega) (by omega)) (fun s9 r9 => ?_)
    refine ok_cals (t_append (by omega) (by omega)) (fun s10 r10 => ?_)
    refine ok_cals (t_append (by omega) (by omega)) (fun s11 r11 => ?_)
    refine ok_cals (t_append (by omega) (by omega)) (fun s12 r12 => ?_)
    refine ok_ret ?_
    unfold fdT
    rw [if_pos (by omega), ← r8.1, ← r9.1, ← r10.1, ← r11.1, ← r12.1]
    rfl
  · rw [fa_le, p6, k_240] at c1
    refine ok_ret ?_
    unfold fdT
    rw [if_neg (by omega)]
theorem t_feedM {a b c d e : Int32} {σ : Sto} (h : 0 ≤ (σ.1 2 0).toInt ∧ (σ.1 2 0).toInt ≤ 240) : OK (f_X12_feed a b c d e σ) (fun r => (Tq r.2, r.1) = fdT a b c d e (Tq σ)) := by
  have k_240 : (240 : Int32).toInt = 240 := by decide +kernel
  have ca := cB_le a 4
  have cb := cB_le b 4
  have cc := cB_le c 4
  have cd := cB_le d 4
  have ce := cB_le e 4
  have t2 : (Tq σ).2.toInt = (σ.1 2 0).toInt := rfl
  unfold f_X12_feed
  refine ok_lt fun s1 e1 => ?_
  have q0 : s1.1 2 = σ.1 2 := by rw [e1, sti_o (by decide)]
  have tq1 : Tq s1 = Tq σ := by unfold Tq; rw [q0, e1, sti_o (by decide)]
  refine ok_calp s_X12_bytesOf (fun v1 q1 => ?_)
  refine ok_calp s_X12_bytesOf (fun v2 q2 => ?_)
  refine ok_calp s_X12_bytesOf (fun v3 q3 => ?_)
  refine ok_calp s_X12_bytesOf (fun v4 q4 => ?_)
  refine ok_calp s_X12_bytesOf (fun v5 q5 => ?_)
  rw [q0]
  have p1 : ((σ.1 2 0) + v1).toInt = (σ.1 2 0).toInt + v1.toInt := fb_addI (by omega) (by omega)
  have p2 : ((σ.1 2 0) + v1 + v2).toInt = (σ.1 2 0).toInt + v1.toInt + v2.toInt := by rw [fb_addI (by rw [p1]; omega) (by rw [p1]; omega), p1]
  have p3 : ((σ.1 2 0) + v1 + v2 + v3).toInt = (σ.1 2 0).toInt + v1.toInt + v2.toInt + v3.toInt := by rw [fb_addI (by rw [p2]; omega) (by rw [p2]; omega), p2]
  have p4 : ((σ.1 2 0) + v1 + v2 + v3 + v4).toInt = (σ.1 2 0).toInt + v1.toInt + v2.toInt + v3.toInt + v4.toInt := by rw [fb_addI (by rw [p3]; omega) (by rw [p3]; omega), p3]
  have p5 : ((σ.1 2 0) + v1 + v2 + v3 + v4 + v5).toInt = (σ.1 2 0).toInt + v1.toInt + v2.toInt + v3.toInt + v4.toInt + v5.toInt := by rw [fb_addI (by rw [p4]; omega) (by rw [p4]; omega), p4]
  clear p1 p2 p3 p4
  have l1 : (s1.1 2 0).toInt = (σ.1 2 0).toInt := by rw [q0]
  refine ok_ite (fun c1 => ?_) (fun c1 => ?_)
  · rw [fa_le, p5, k_240] at c1
    clear p5
    refine ok_cals (t_brings (by omega) (by omega)) (fun s8 r8 => ?_)
    refine ok_cals (t_brings (by omega) (by omega)) (fun s9 r9 => ?_)
    refine ok_cals (t_brings (by omega) (by omega)) (fun s10 r10 => ?_)
    refine ok_cals (t_brings (by omega) (by omega)) (fun s11 r11 => ?_)
    refine ok_cals (t_brings (by omega) (by omega)) (fun s12 r12 => ?_)
    refine ok_ret ?_
    unfold fdT
    rw [if_pos (by omega), ← tq1, ← r8.1, ← r9.1, ← r10.1, ← r11.1, ← r12.1]
    rfl
  · rw [fa_le, p5, k_240] at c1
    clear p5
    refine ok_ret ?_
    unfold fdT
    rw [if_neg (by omega), ← tq1]
/-- the tape behind end, and its answer -/
def enT (x : Int32) (t : Tp) : Tp × Int32 := if x < 0 then (t, 0) else if x ≤ t.2 then ((t.1, x), 1) else (t, 0)
theorem t_endX {x : Int32} {σ : Sto} : OK (f_X11_end x σ) (fun r => (Tq r.2, r.1) = enT x (Tq σ)) := by
  unfold f_X11_end
  refine ok_ite (fun c => ok_ret (by unfold enT; rw [if_pos c])) (fun c => ?_)
  refine ok_ite (fun c2 => ?_) (fun c2 => ok_ret (by unfold enT; rw [if_neg c]; exact (if_neg c2).symm))
  refine ok_lt fun s3 e3 => ok_ret ?_
  unfold enT
  rw [if_neg c]
  refine Eq.trans ?_ (if_pos c2).symm
  unfold Tq
  rw [e3, sti_if, if_pos rfl, sti_o (by decide)]
theorem t_endM {x : Int32} {σ : Sto} : OK (f_X12_end x σ) (fun r => (Tq r.2, r.1) = enT x (Tq σ)) := by
  unfold f_X12_end
  refine ok_lt fun s1 e1 => ?_
  have tq1 : Tq s1 = Tq σ := by unfold Tq; rw [e1, sti_o (by decide), sti_o (by decide)]
  rw [← tq1]
  refine ok_ite (fun c => ok_ret (by unfold enT; rw [if_pos c])) (fun c => ?_)
  refine ok_ite (fun c2 => ?_) (fun c2 => ok_ret (by unfold enT; rw [if_neg c]; exact (if_neg c2).symm))
  refine ok_lt fun s3 e3 => ok_ret ?_
  unfold enT
  rw [if_neg c]
  refine Eq.trans ?_ (if_pos c2).symm
  unfold Tq
  rw [e3, sti_if, if_pos rfl, sti_o (by decide)]
