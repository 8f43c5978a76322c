/-! how a tape is read, as plain functions: n bytes, c tells each of them -/
section
variable (n : Nat) (c : Nat → Int)
/-- behind blanks -/
def skP (a : Nat) : Nat := a + fsP (fun k => decide (c (a + k) ≠ 32)) (n - a)
abbrev isD (a : Nat) : Prop := a < n ∧ 48 ≤ c a ∧ c a ≤ 57
def dg (v x : Int) : Int := (if 0 ≤ v then v else 0) * 10 + x - 48
/-- digits: the number so far, where; -1 where it is too much -/
def nuP (lim : Int) : Nat → Int → Nat → Int × Nat
  | 0, v, a => (v, a)
  | f + 1, v, a => if isD n c a then (if lim < dg v (c a) then (-1, a) else nuP lim f (dg v (c a)) (a + 1)) else (v, a)
def nuQ (lim : Int) (v : Int) (a : Nat) : Int × Nat := nuP n c lim (n - a) v a
/-- the number behind a sign -/
def rdN (lim : Int) (a : Nat) : Int × Nat := nuQ n c lim (-1) (skP n c (a + 1))
abbrev isV (a : Nat) : Prop := a < n ∧ 97 ≤ c a ∧ c a ≤ 102
def rdL (a : Nat) : Int × Nat := if isV n c (skP n c (a + 1)) then (c (skP n c (a + 1)) - 97, skP n c (a + 1) + 1) else (-1, skP n c (a + 1))
abbrev bareI (g : Int) : Prop := g = 33 ∨ g = 100 ∨ g = 105 ∨ g = 110 ∨ g = 111 ∨ g = 112 ∨ g = 114 ∨ g = 116 ∨ g = 119 ∨ g = 43 ∨ g = 45 ∨ g = 42 ∨ g = 47 ∨ g = 37 ∨ g = 60 ∨ g = 61
/-- the number of an instruction, and where; -1 where there is none such -/
def inP (a : Nat) : Int × Nat :=
  if bareI (c a) then (0, a + 1) else if c a = 107 then rdN n c 999 a else if c a = 103 ∨ c a = 122 then rdN n c 39 a else if c a = 108 ∨ c a = 115 then rdL n c a else (-1, a)
/-- instructions: whether it went well, where, how many, signs, numbers -/
def paI : Nat → Nat → Nat → (Nat → Int) → (Nat → Int) → Int × Nat × Nat × (Nat → Int) × (Nat → Int)
  | 0, a, z, sg, nm => (1, a, z, sg, nm)
  | f + 1, a, z, sg, nm =>
    if a < n ∧ c a ≠ 104 then
      (if z = 40 then (0, a, z, sg, nm) else if (inP n c a).1 = -1 then (0, (inP n c a).2, z, sg, nm) else paI f (skP n c (inP n c a).2) (z + 1) (upI sg z (c a)) (upI nm z (inP n c a).1))
    else (1, a, z, sg, nm)
/-- a comma behind blanks -/
abbrev isC (a : Nat) : Prop := a < n ∧ c a = 44
/-- a handler: whether it went well, where, its three numbers -/
def haP (a : Nat) : Int × Nat × Int × Int × Int :=
  if (rdN n c 40 a).1 = -1 then (0, (rdN n c 40 a).2, 0, 0, 0) else
  if ¬ isC n c (skP n c (rdN n c 40 a).2) then (0, skP n c (rdN n c 40 a).2, 0, 0, 0) else
  if (rdN n c 40 (skP n c (rdN n c 40 a).2)).1 = -1 then (0, (rdN n c 40 (skP n c (rdN n c 40 a).2)).2, 0, 0, 0) else
  if ¬ isC n c (skP n c (rdN n c 40 (skP n c (rdN n c 40 a).2)).2) then (0, skP n c (rdN n c 40 (skP n c (rdN n c 40 a).2)).2, 0, 0, 0) else
  if (rdN n c 40 (skP n c (rdN n c 40 (skP n c (rdN n c 40 a).2)).2)).1 = -1 then (0, (rdN n c 40 (skP n c (rdN n c 40 (skP n c (rdN n c 40 a).2)).2)).2, 0, 0, 0) else
  (1, (rdN n c 40 (skP n c (rdN n c 40 (skP n c (rdN n c 40 a).2)).2)).2, (rdN n c 40 a).1, (rdN n c 40 (skP n c (rdN n c 40 a).2)).1, (rdN n c 40 (skP n c (rdN n c 40 (skP n c (rdN n c 40 a).2)).2)).1)
def paH : Nat → Nat → Nat → (Nat → Int) → (Nat → Int) → (Nat → Int) → Int × Nat × Nat × (Nat → Int) × (Nat → Int) × (Nat → Int)
  | 0, a, h, fr, up, go => (1, a, h, fr, up, go)
  | f + 1, a, h, fr, up, go =>
    if a < n then
      (if c a ≠ 104 ∨ h = 3 then (0, a, h, fr, up, go) else if (haP n c a).1 = 0 then (0, (haP n c a).2.1, h, fr, up, go) else paH f (skP n c (haP n c a).2.1) (h + 1) (upI fr h (haP n c a).2.2.1) (upI up h (haP n c a).2.2.2.1) (upI go h (haP n c a).2.2.2.2))
    else (1, a, h, fr, up, go)
def zP : Nat → Int := fun _ => 0
def paQ : Int × Nat × Nat × (Nat → Int) × (Nat → Int) := paI n c 41 (skP n c 0) 0 zP zP
def paR : Int × Nat × Nat × (Nat → Int) × (Nat → Int) × (Nat → Int) := paH n c 4 (paQ n c).2.1 0 zP zP zP
/-- whether it is a text; where reading stopped -/
def paT : Int × Nat := if (paQ n c).1 = 0 ∨ (paQ n c).2.2.1 = 0 then (0, (paQ n c).2.1) else ((paR n c).1, (paR n c).2.1)
end
def mk0 (n : Nat) (r : Nat → Int32) : Nat → Int := fun i => if i < n then (r i).toInt else 0
theorem mk0_lt {n : Nat} {r : Nat → Int32} {i : Nat} (h : i < n) : mk0 n r i = (r i).toInt := if_pos h
theorem mk0_app {n k : Nat} {σ : Sto} {v : Int32} : mk0 (n + 1) ((sti σ k n v).1 k) = upI (mk0 n (σ.1 k)) n v.toInt := by
  funext i
  unfold mk0 upI
  by_cases q : i = n
  · subst q; rw [if_pos (by omega), if_pos rfl, sti_s]
  · rw [if_neg q, sti_j q]
    by_cases r : i < n
    · rw [if_pos (show i < n + 1 by omega)]; exact (if_pos r).symm
    · rw [if_neg (show ¬ i < n + 1 by omega)]; exact (if_neg r).symm
/-- the bytes of a tape -/
def cb (r : Nat → Int32) : Nat → Int := fun i => (r i &&& 255).toInt
section
variable {n : Nat} {c : Nat → Int}
theorem skP_eq {a v : Nat} (h1 : a ≤ v) (h2 : v ≤ n ∨ v = a) (h3 : ∀ i, a ≤ i → i < v → c i = 32) (h4 : v < n → c v ≠ 32) : skP n c a = v := by
  unfold skP
  have : fsP (fun k => decide (c (a + k) ≠ 32)) (n - a) = v - a := fsP_eq (by omega) (fun h => by
    have e : a + (v - a) = v := by omega
    simp only [e]; exact decide_eq_true (h4 (by omega))) (fun i hi => decide_eq_false (fun z => z (h3 _ (by omega) (by omega))))
  omega
theorem skP_ge {a : Nat} : a ≤ skP n c a := by unfold skP; omega
theorem skP_le {a : Nat} (h : a ≤ n) : skP n c a ≤ n := by unfold skP; have := fsP_le (fun k => decide (c (a + k) ≠ 32)) (n - a); omega
theorem nu_end {lim : Int} {f : Nat} {v : Int} {a : Nat} {T : Int × Nat} (h : nuP n c lim f v a = T) (hd : ¬ isD n c a) : (v, a) = T := by
  cases f with
  | zero => exact h
  | succ f => rw [← h]; unfold nuP; rw [if_neg hd]
theorem nu_bad {lim : Int} {f : Nat} {v w : Int} {a : Nat} {T : Int × Nat} (h : nuP n c lim f v a = T) (hf : 0 < f) (hd : isD n c a) (hw : w = dg v (c a)) (hl : lim < w) : ((-1 : Int), a) = T := by
  subst hw
  cases f with
  | zero => omega
  | succ f => rw [← h]; unfold nuP; rw [if_pos hd, if_pos hl]
theorem nu_on {lim : Int} {f g : Nat} {v w : Int} {a : Nat} {T : Int × Nat} (h : nuP n c lim f v a = T) (hf : f = g + 1) (hd : isD n c a) (hw : w = dg v (c a)) (hl : w ≤ lim) : nuP n c lim g w (a + 1) = T := by
  subst hf; subst hw
  rw [← h]; conv => rhs; unfold nuP
  rw [if_pos hd, if_neg (by omega)]
/-- from nothing or from 0: the same, where a digit is -/
theorem nu_0 {lim : Int} {f : Nat} {a : Nat} (hd : isD n c a) (hf : 0 < f) : nuP n c lim f (-1) a = nuP n c lim f 0 a := by
  cases f with
  | zero => omega
  | succ f => unfold nuP; rw [if_pos hd, if_pos hd]; rfl
theorem paI_end {f a z : Nat} {sg nm : Nat → Int} {T : Int × Nat × Nat × (Nat → Int) × (Nat → Int)} (h : paI n c f a z sg nm = T) (hd : ¬ (a < n ∧ c a ≠ 104)) : (1, a, z, sg, nm) = T := by
  cases f with
  | zero => exact h
  | succ f => rw [← h]; unfold paI; rw [if_neg hd]
theorem paI_40 {f a z : Nat} {sg nm : Nat → Int} {T : Int × Nat × Nat × (Nat → Int) × (Nat → Int)} (h : paI n c f a z sg nm = T) (hf : 0 < f) (hd : a < n ∧ c a ≠ 104) (hz : z = 40) : (0, a, z, sg, nm) = T := by
  cases f with
  | zero => omega
  | succ f => rw [← h]; unfold paI; rw [if_pos hd, if_pos hz]
theorem paI_bad {f a z b : Nat} {sg nm : Nat → Int} {T : Int × Nat × Nat × (Nat → Int) × (Nat → Int)} (h : paI n c f a z sg nm = T) (hf : 0 < f) (hd : a < n ∧ c a ≠ 104) (hz : z ≠ 40) (hi : (-1, b) = inP n c a) : (0, b, z, sg, nm) = T := by
  cases f with
  | zero => omega
  | succ f => rw [← h]; unfold paI; rw [if_pos hd, if_neg hz, ← hi, if_pos rfl]
theorem paI_on {f g a z b : Nat} {v : Int} {sg nm : Nat → Int} {T : Int × Nat × Nat × (Nat → Int) × (Nat → Int)} (h : paI n c f a z sg nm = T) (hf : f = g + 1) (hd : a < n ∧ c a ≠ 104) (hz : z ≠ 40) (hi : (v, b) = inP n c a) (hv : v ≠ -1) : paI n c g (skP n c b) (z + 1) (upI sg z (c a)) (upI nm z v) = T := by
  subst hf
  rw [← h]; conv => rhs; unfold paI
  rw [if_pos hd, if_neg hz, ← hi, if_neg hv]
theorem paH_end {f a z : Nat} {fr up go : Nat → Int} {T : Int × Nat × Nat × (Nat → Int) × (Nat → Int) × (Nat → Int)} (h : paH n c f a z fr up go = T) (hd : ¬ a < n) : (1, a, z, fr, up, go) = T := by
  cases f with
  | zero => exact h
  | succ f => rw [← h]; unfold paH; rw [if_neg hd]
theorem paH_no {f a z : Nat} {fr up go : Nat → Int} {T : Int × Nat × Nat × (Nat → Int) × (Nat → Int) × (Nat → Int)} (h : paH n c f a z fr up go = T) (hf : 0 < f) (hd : a < n) (hz : c a ≠ 104 ∨ z = 3) : (0, a, z, fr, up, go) = T := by
  cases f with
  | zero => omega
  | succ f => rw [← h]; unfold paH; rw [if_pos hd, if_pos hz]
theorem paH_bad {f a z b : Nat} {x y w : Int} {fr up go : Nat → Int} {T : Int × Nat × Nat × (Nat → Int) × (Nat → Int) × (Nat → Int)} (h : paH n c f a z fr up go = T) (hf : 0 < f) (hd : a < n) (hz : ¬ (c a ≠ 104 ∨ z = 3)) (hi : (0, b, x, y, w) = haP n c a) : (0, b, z, fr, up, go) = T := by
  cases f with
  | zero => omega
  | succ f => rw [← h]; unfold paH; rw [if_pos hd, if_neg hz, ← hi, if_pos rfl]
theorem paH_on {f g a z b : Nat} {x y w : Int} {fr up go : Nat → Int} {T : Int × Nat × Nat × (Nat → Int) × (Nat → Int) × (Nat → Int)} (h : paH n c f a z fr up go = T) (hf : f = g + 1) (hd : a < n) (hz : ¬ (c a ≠ 104 ∨ z = 3)) (hi : (1, b, x, y, w) = haP n c a) : paH n c g (skP n c b) (z + 1) (upI fr z x) (upI up z y) (upI go z w) = T := by
  subst hf
  rw [← h]; conv => rhs; unfold paH
  rw [if_pos hd, if_neg hz, ← hi, if_neg (by simp)]
theorem ha_1 {a b : Nat} (h : (-1, b) = rdN n c 40 a) : (0, b, 0, 0, 0) = haP n c a := by unfold haP; rw [← h, if_pos rfl]
theorem ha_2 {a b q : Nat} {x : Int} (h : (x, b) = rdN n c 40 a) (hx : x ≠ -1) (hq : skP n c b = q) (hc : ¬ isC n c q) : (0, q, 0, 0, 0) = haP n c a := by unfold haP; rw [← h, if_neg hx, hq, if_pos hc]
theorem ha_3 {a b q b2 : Nat} {x : Int} (h : (x, b) = rdN n c 40 a) (hx : x ≠ -1) (hq : skP n c b = q) (hc : isC n c q) (h2 : (-1, b2) = rdN n c 40 q) : (0, b2, 0, 0, 0) = haP n c a := by unfold haP; rw [← h, if_neg hx, hq, if_neg (fun z => z hc), ← h2, if_pos rfl]
theorem ha_4 {a b q b2 q2 : Nat} {x y : Int} (h : (x, b) = rdN n c 40 a) (hx : x ≠ -1) (hq : skP n c b = q) (hc : isC n c q) (h2 : (y, b2) = rdN n c 40 q) (hy : y ≠ -1) (hq2 : skP n c b2 = q2) (hc2 : ¬ isC n c q2) : (0, q2, 0, 0, 0) = haP n c a := by
  unfold haP; rw [← h, if_neg hx, hq, if_neg (fun z => z hc), ← h2, if_neg hy, hq2, if_pos hc2]
theorem ha_5 {a b q b2 q2 b3 : Nat} {x y : Int} (h : (x, b) = rdN n c 40 a) (hx : x ≠ -1) (hq : skP n c b = q) (hc : isC n c q) (h2 : (y, b2) = rdN n c 40 q) (hy : y ≠ -1) (hq2 : skP n c b2 = q2) (hc2 : isC n c q2) (h3 : (-1, b3) = rdN n c 40 q2) : (0, b3, 0, 0, 0) = haP n c a := by
  unfold haP; rw [← h, if_neg hx, hq, if_neg (fun z => z hc), ← h2, if_neg hy, hq2, if_neg (fun z => z hc2), ← h3, if_pos rfl]
theorem ha_6 {a b q b2 q2 b3 : Nat} {x y w : Int} (h : (x, b) = rdN n c 40 a) (hx : x ≠ -1) (hq : skP n c b = q) (hc : isC n c q) (h2 : (y, b2) = rdN n c 40 q) (hy : y ≠ -1) (hq2 : skP n c b2 = q2) (hc2 : isC n c q2) (h3 : (w, b3) = rdN n c 40 q2) (hw : w ≠ -1) : (1, b3, x, y, w) = haP n c a := by
  unfold haP; rw [← h, if_neg hx, hq, if_neg (fun z => z hc), ← h2, if_neg hy, hq2, if_neg (fun z => z hc2), ← h3, if_neg hw]
theorem in_b {a : Nat} (h : bareI (c a)) : (0, a + 1) = inP n c a := by unfold inP; rw [if_pos h]
theorem in_k {a : Nat} (h : ¬ bareI (c a)) (h2 : c a = 107) : rdN n c 999 a = inP n c a := by unfold inP; rw [if_neg h, if_pos h2]
theorem in_g {a : Nat} (h : ¬ bareI (c a)) (h3 : c a = 103 ∨ c a = 122) : rdN n c 39 a = inP n c a := by unfold inP; rw [if_neg h, if_neg (by omega), if_pos h3]
theorem in_l {a : Nat} (h : ¬ bareI (c a)) (h3 : c a = 108 ∨ c a = 115) : rdL n c a = inP n c a := by unfold inP; rw [if_neg h, if_neg (by omega), if_neg (by omega), if_pos h3]
theorem in_x {a : Nat} (h : ¬ bareI (c a)) (h2 : c a ≠ 107) (h3 : ¬ (c a = 103 ∨ c a = 122)) (h4 : ¬ (c a = 108 ∨ c a = 115)) : (-1, a) = inP n c a := by unfold inP; rw [if_neg h, if_neg h2, if_neg h3, if_neg h4]
theorem rdL_y {a q : Nat} (hq : skP n c (a + 1) = q) (h : isV n c q) : (c q - 97, q + 1) = rdL n c a := by unfold rdL; rw [hq, if_pos h]
theorem rdL_n {a q : Nat} (hq : skP n c (a + 1) = q) (h : ¬ isV n c q) : (-1, q) = rdL n c a := by unfold rdL; rw [hq, if_neg h]
end
/-- a byte whose sign isn't set -/
theorem by_7 : ∀ m : Nat, m < 256 → (fun x : Int32 => (x &&& 255).toInt ≤ 127 → x.toInt = (x &&& 255).toInt) (Int32.ofInt ((m : Int) - 128)) := by decide +kernel
theorem by_id {x : Int32} (h : -128 ≤ x.toInt ∧ x.toInt ≤ 127) (h7 : (x &&& 255).toInt ≤ 127) : x.toInt = (x &&& 255).toInt := by
  have e : Int32.ofInt (((x.toInt + 128).toNat : Int) - 128) = x := by
    rw [show ((x.toInt + 128).toNat : Int) - 128 = x.toInt by omega, Int32.ofInt_toInt]
  have := by_7 (x.toInt + 128).toNat (by omega)
  rw [e] at this
  exact this h7
section
variable {n : Nat} {c : Nat → Int}
theorem paT_q {x : Int} {a z : Nat} {sg nm : Nat → Int} (h : (x, a, z, sg, nm) = paQ n c) (h0 : x = 0 ∨ z = 0) : ((0 : Int), a) = paT n c := by
  unfold paT; rw [← h, if_pos h0]
theorem paT_r {a z b w : Nat} {x : Int} {sg nm fr up go : Nat → Int} (h : (1, a, z, sg, nm) = paQ n c) (hz : z ≠ 0) (hr : (x, b, w, fr, up, go) = paR n c) : (x, b) = paT n c := by
  unfold paT; rw [← h, if_neg (fun y => by rcases y with y | y <;> simp_all), ← hr]
theorem paR_i {a z : Nat} {sg nm : Nat → Int} (h : (1, a, z, sg, nm) = paQ n c) : paH n c 4 a 0 zP zP zP = paR n c := by unfold paR; rw [← h]
end
/-- a listing's rows are those that were read -/
def EqQ (n : Nat) (c : Nat → Int) (z : Nat) (sg nm : Nat → Int) : Prop := z = (paQ n c).2.2.1 ∧ sg = (paQ n c).2.2.2.1 ∧ nm = (paQ n c).2.2.2.2
def EqR (n : Nat) (c : Nat → Int) (z : Nat) (fr up go : Nat → Int) : Prop := z = (paR n c).2.2.1 ∧ fr = (paR n c).2.2.2.1 ∧ up = (paR n c).2.2.2.2.1 ∧ go = (paR n c).2.2.2.2.2
theorem EqQ.of {n : Nat} {c : Nat → Int} {x : Int} {a z : Nat} {sg nm : Nat → Int} (h : (x, a, z, sg, nm) = paQ n c) : EqQ n c z sg nm := by unfold EqQ; rw [← h]; exact ⟨rfl, rfl, rfl⟩
theorem EqR.of {n : Nat} {c : Nat → Int} {x : Int} {a z : Nat} {fr up go : Nat → Int} (h : (x, a, z, fr, up, go) = paR n c) : EqR n c z fr up go := by unfold EqR; rw [← h]; exact ⟨rfl, rfl, rfl, rfl⟩
/-- what omega is not to look at -/
def Hid (P : Prop) : Prop := P
theorem Hid.i {P : Prop} (h : P) : Hid P := h
theorem Hid.o {P : Prop} (h : Hid P) : P := h
