theorem bgP_cg {d d2 : Nat → Int} {ct ct2 : Nat → Prop} {i : Nat} (h : d2 i = d i) (hc : ct2 i ↔ ct i) : bgP d2 ct2 i = bgP d ct i := by
  cases e : bgP d ct i with
  | true =>
    rw [bgP_t] at e ⊢
    rw [h, hc]
    exact e
  | false =>
    rw [bgP_f] at e ⊢
    rw [h, hc]
    exact e
theorem cbP_cg {d d2 : Nat → Int} {ct ct2 : Nat → Prop} {k : Nat} (h : ∀ i, i < k → d2 i = d i) (hc : ∀ i, i < k → (ct2 i ↔ ct i)) : cbP d2 ct2 k = cbP d ct k := by
  induction k with
  | zero => rfl
  | succ k ih =>
    have e := bgP_cg (h k (by omega)) (hc k (by omega))
    have r := ih (fun i hi => h i (by omega)) (fun i hi => hc i (by omega))
    cases q : bgP d ct k with
    | true => rw [cbP_t q, cbP_t (e.trans q), r]
    | false => rw [cbP_f q, cbP_f (e.trans q), r]
theorem CM.cp {n : Nat} {sg nm sg2 nm2 d : Nat → Int} {i : Nat} (a : ∀ i, i < n → sg2 i = sg i ∧ nm2 i = nm i) (h : CM sg nm d n i) : CM sg2 nm2 d n i := by
  obtain ⟨j, h1, h2, h3⟩ := h
  refine ⟨j, h1, h2, ?_⟩
  rw [(a j h1).1, (a j h1).2]
  exact h3
theorem CH.cp {n : Nat} {fr up go fr2 up2 go2 : Nat → Int} {i : Nat} (b : ∀ h, h < n → fr2 h = fr h ∧ up2 h = up h ∧ go2 h = go h) (h : CH fr up go n i) : CH fr2 up2 go2 n i := by
  obtain ⟨j, h1, h2⟩ := h
  refine ⟨j, h1, ?_⟩
  rw [(b j h1).1, (b j h1).2.1, (b j h1).2.2]
  exact h2
theorem CUTC.cp {n hs : Nat} {sg nm fr up go sg2 nm2 fr2 up2 go2 d : Nat → Int} {i : Nat} (a : ∀ i, i < n → sg2 i = sg i ∧ nm2 i = nm i) (b : ∀ h, h < hs → fr2 h = fr h ∧ up2 h = up h ∧ go2 h = go h) : CUTC n hs sg2 nm2 fr2 up2 go2 d i ↔ CUTC n hs sg nm fr up go d i :=
  ⟨fun h => h.imp (CM.cp (fun i hi => ⟨(a i hi).1.symm, (a i hi).2.symm⟩)) (CH.cp (fun h hh => ⟨(b h hh).1.symm, (b h hh).2.1.symm, (b h hh).2.2.symm⟩)), fun h => h.imp (CM.cp a) (CH.cp b)⟩
/-- what code answers of a tape -/
def COa (n : Nat) (c : Nat → Int) (v : Int) : Prop := ((paT n c).1 = 0 → v = -1) ∧ ((paT n c).1 = 1 →
  (¬ LDP (paQ n c).2.2.1 (paR n c).2.2.1 (paQ n c).2.2.2.1 (paQ n c).2.2.2.2 (paR n c).2.2.2.1 (paR n c).2.2.2.2.1 (paR n c).2.2.2.2.2 → v = -2) ∧
  (LDP (paQ n c).2.2.1 (paR n c).2.2.1 (paQ n c).2.2.2.1 (paQ n c).2.2.2.2 (paR n c).2.2.2.1 (paR n c).2.2.2.2.1 (paR n c).2.2.2.2.2 → ∀ q, q = JUP (paQ n c).2.2.1 (paR n c).2.2.1 (paQ n c).2.2.2.1 (paQ n c).2.2.2.2 (paR n c).2.2.2.1 (paR n c).2.2.2.2.1 (paR n c).2.2.2.2.2 → (q.1 ≠ 0 → v = q.1) ∧ (q.1 = 0 → v = (cbP q.2 (CUTC (paQ n c).2.2.1 (paR n c).2.2.1 (paQ n c).2.2.2.1 (paQ n c).2.2.2.2 (paR n c).2.2.2.1 (paR n c).2.2.2.2.1 (paR n c).2.2.2.2.2 q.2) (paQ n c).2.2.1 : Int))))
theorem COa.uq {n : Nat} {c : Nat → Int} {v w : Int} (ht : (paT n c).1 = 0 ∨ (paT n c).1 = 1) (h : COa n c v) (k : COa n c w) : v = w := by
  rcases ht with t | t
  · rw [h.1 t, k.1 t]
  · have a := h.2 t
    have b := k.2 t
    by_cases L : LDP (paQ n c).2.2.1 (paR n c).2.2.1 (paQ n c).2.2.2.1 (paQ n c).2.2.2.2 (paR n c).2.2.2.1 (paR n c).2.2.2.2.1 (paR n c).2.2.2.2.2
    · have a2 := a.2 L _ rfl
      have b2 := b.2 L _ rfl
      by_cases z : (JUP (paQ n c).2.2.1 (paR n c).2.2.1 (paQ n c).2.2.2.1 (paQ n c).2.2.2.2 (paR n c).2.2.2.1 (paR n c).2.2.2.2.1 (paR n c).2.2.2.2.2).1 = 0
      · rw [a2.2 z, b2.2 z]
      · rw [a2.1 z, b2.1 z]
    · rw [a.1 L, b.1 L]
theorem COa.of {n : Nat} {c : Nat → Int} {z w : Nat} {r1 r2 r3 r4 r5 q1 q2 q3 q4 q5 : Nat → Int32} {v x : Int} {e : Nat → Int} (ht : (paT n c).1 = 1) (hq : EqQ n c z (mk0 z r1) (mk0 z r2)) (hr : EqR n c w (mk0 w r3) (mk0 w r4) (mk0 w r5)) (h1 : ∀ i, i < z → q1 i = r1 i ∧ q2 i = r2 i) (h2 : ∀ h, h < w → q3 h = r3 h ∧ q4 h = r4 h ∧ q5 h = r5 h) (j1 : LDP z w (ri q1) (ri q2) (ri q3) (ri q4) (ri q5) → (v, e) = JUP z w (ri q1) (ri q2) (ri q3) (ri q4) (ri q5)) (j2 : ¬ LDP z w (ri q1) (ri q2) (ri q3) (ri q4) (ri q5) → v = -2) (x1 : v ≠ 0 → x = v) (x2 : v = 0 → x = (cbP e (CUTC z w (ri q1) (ri q2) (ri q3) (ri q4) (ri q5) e) z : Int)) : COa n c x := by
  obtain ⟨a1, a2, a3⟩ := hq
  obtain ⟨b1, b2, b3, b4⟩ := hr
  have ca : ∀ i, i < z → ri q1 i = (paQ n c).2.2.2.1 i ∧ ri q2 i = (paQ n c).2.2.2.2 i := fun i hi => by
    rw [← a2, ← a3, mk0_lt hi, mk0_lt hi]
    unfold ri
    rw [(h1 i hi).1, (h1 i hi).2]
    exact ⟨rfl, rfl⟩
  have cb_ : ∀ h, h < w → ri q3 h = (paR n c).2.2.2.1 h ∧ ri q4 h = (paR n c).2.2.2.2.1 h ∧ ri q5 h = (paR n c).2.2.2.2.2 h := fun h hh => by
    rw [← b2, ← b3, ← b4, mk0_lt hh, mk0_lt hh, mk0_lt hh]
    unfold ri
    rw [(h2 h hh).1, (h2 h hh).2.1, (h2 h hh).2.2]
    exact ⟨rfl, rfl, rfl⟩
  have ca2 : ∀ i, i < z → (paQ n c).2.2.2.1 i = ri q1 i ∧ (paQ n c).2.2.2.2 i = ri q2 i := fun i hi => ⟨(ca i hi).1.symm, (ca i hi).2.symm⟩
  have cb2 : ∀ h, h < w → (paR n c).2.2.2.1 h = ri q3 h ∧ (paR n c).2.2.2.2.1 h = ri q4 h ∧ (paR n c).2.2.2.2.2 h = ri q5 h := fun h hh => ⟨(cb_ h hh).1.symm, (cb_ h hh).2.1.symm, (cb_ h hh).2.2.symm⟩
  unfold COa
  rw [← a1, ← b1]
  refine ⟨fun t => by omega, fun _ => ⟨fun L => ?_, fun L q hq => ?_⟩⟩
  · have v2 := j2 (fun y => L (LDP.cp ca2 cb2 y))
    rw [x1 (by omega), v2]
  · have L2 := LDP.cp ca cb_ L
    rw [JUP_cp ca2 cb2, ← j1 L2] at hq
    subst hq
    refine ⟨fun y => x1 y, fun y => ?_⟩
    rw [x2 y, cbP_cg (fun i _ => rfl) (fun i _ => CUTC.cp ca cb_)]
