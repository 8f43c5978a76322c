/-- edges as they are laid: how many; from, to, as something throws -/
abbrev EVt : Type := Nat × (Nat → Int) × (Nat → Int) × (Nat → Bool)
def knP (b g : Int) (V : EVt) : Nat := fsP (fun e => decide (V.2.1 e = b) && decide (V.2.2.1 e = g)) V.1
def leP (b g : Int) (x : Bool) (V : EVt) : EVt := if knP b g V < V.1 then (V.1, V.2.1, V.2.2.1, fun e => V.2.2.2 e || (decide (e = knP b g V) && x)) else (V.1 + 1, upI V.2.1 V.1 b, upI V.2.2.1 V.1 g, fun e => if e = V.1 then x else V.2.2.2 e)
def EVw (s : Sto) (n f t x : Nat) : EVt := ((s.1 n 0).toInt.toNat, ri (s.1 f), ri (s.1 t), fun e => decide ((s.1 x e).toInt ≠ 0))
theorem EVw.cg {σ s : Sto} {n f t x : Nat} (h1 : s.1 n = σ.1 n) (h2 : s.1 f = σ.1 f) (h3 : s.1 t = σ.1 t) (h4 : s.1 x = σ.1 x) : EVw s n f t x = EVw σ n f t x := by
  unfold EVw
  rw [h1, h2, h3, h4]
theorem knP_at {b g : Int} {V : EVt} {e : Nat} (he : e < V.1) (h1 : V.2.1 e = b) (h2 : V.2.2.1 e = g) (hu : ∀ d, d < e → ¬ (V.2.1 d = b ∧ V.2.2.1 d = g)) : knP b g V = e :=
  fsP_eq (Nat.le_of_lt he) (fun _ => by simp [h1, h2]) (fun i hi => by
    have q := hu i hi
    cases c : (decide (V.2.1 i = b) && decide (V.2.2.1 i = g)) with
    | false => rfl
    | true =>
      rw [Bool.and_eq_true, decide_eq_true_eq, decide_eq_true_eq] at c
      exact absurd c q)
theorem knP_no {b g : Int} {V : EVt} (h : ∀ e, e < V.1 → ¬ (V.2.1 e = b ∧ V.2.2.1 e = g)) : knP b g V = V.1 :=
  fsP_eq (Nat.le_refl _) (fun z => absurd z (Nat.lt_irrefl _)) (fun i hi => by
    have q := h i hi
    cases c : (decide (V.2.1 i = b) && decide (V.2.2.1 i = g)) with
    | false => rfl
    | true =>
      rw [Bool.and_eq_true, decide_eq_true_eq, decide_eq_true_eq] at c
      exact absurd c q)
/-- the same edges -/
def AGV (V W : EVt) : Prop := V.1 = W.1 ∧ ∀ e, e < V.1 → V.2.1 e = W.2.1 e ∧ V.2.2.1 e = W.2.2.1 e ∧ V.2.2.2 e = W.2.2.2 e
theorem AGV.kn {V W : EVt} (h : AGV V W) (b g : Int) : knP b g V = knP b g W := by
  unfold knP
  rw [← h.1]
  exact fsP_cong (fun i hi => by rw [(h.2 i hi).1, (h.2 i hi).2.1])
theorem AGV.le {V W : EVt} (h : AGV V W) (b g : Int) (x : Bool) : AGV (leP b g x V) (leP b g x W) := by
  have k := h.kn b g
  unfold leP
  rw [← k, ← h.1]
  by_cases c : knP b g V < V.1
  · rw [if_pos c, if_pos c]
    refine ⟨rfl, fun e he => ⟨(h.2 e he).1, (h.2 e he).2.1, ?_⟩⟩
    show (V.2.2.2 e || _) = (W.2.2.2 e || _)
    rw [(h.2 e he).2.2]
  · rw [if_neg c, if_neg c]
    refine ⟨rfl, fun e he => ?_⟩
    have he : e < V.1 + 1 := he
    show upI V.2.1 V.1 b e = upI W.2.1 V.1 b e ∧ upI V.2.2.1 V.1 g e = upI W.2.2.1 V.1 g e ∧ (if e = V.1 then x else V.2.2.2 e) = (if e = V.1 then x else W.2.2.2 e)
    by_cases q : e = V.1
    · rw [q, upI_s, upI_s, upI_s, upI_s, if_pos rfl, if_pos rfl]; exact ⟨rfl, rfl, rfl⟩
    · rw [upI_n q, upI_n q, upI_n q, upI_n q, if_neg q, if_neg q]; exact h.2 e (by omega)
def eb1 (sg ob : Nat → Int) (l b : Nat) (V : EVt) : EVt := if gOnI (sg l) then leP b (ob (l + 1)) false V else V
def eb2 (sg nm ob : Nat → Int) (l b : Nat) (V : EVt) : EVt := if gElI (sg l) then leP b (ob (nm l).toNat) false V else V
def eb3 (c : Int) (b : Nat) (V : EVt) : EVt := if c = -1 then V else leP b c true V
/-- a block's edges -/
def ebP (sg nm ob : Nat → Int) (l : Nat) (c : Int) (b : Nat) (V : EVt) : EVt := eb3 c b (eb2 sg nm ob l b (eb1 sg ob l b V))
/-- the edges of the first blocks -/
def edP (sg nm ob : Nat → Int) (la : Nat → Nat) (ca : Nat → Int) : Nat → EVt → EVt
  | 0, V => V
  | k + 1, V => ebP sg nm ob (la k) (ca k) k (edP sg nm ob la ca k V)
section
variable {sg nm ob sg2 nm2 ob2 : Nat → Int}
theorem AGV.e1 {V W : EVt} {l b : Nat} (h : AGV V W) (h2 : sg2 l = sg l) (h4 : gOnI (sg l) → ob2 (l + 1) = ob (l + 1)) : AGV (eb1 sg ob l b V) (eb1 sg2 ob2 l b W) := by
  unfold eb1
  rw [h2]
  by_cases c : gOnI (sg l)
  · rw [if_pos c, if_pos c, h4 c]; exact h.le _ _ _
  · rw [if_neg c, if_neg c]; exact h
theorem AGV.e2 {V W : EVt} {l b : Nat} (h : AGV V W) (h2 : sg2 l = sg l) (h3 : nm2 l = nm l) (h4 : gElI (sg l) → ob2 (nm l).toNat = ob (nm l).toNat) : AGV (eb2 sg nm ob l b V) (eb2 sg2 nm2 ob2 l b W) := by
  unfold eb2
  rw [h2, h3]
  by_cases c : gElI (sg l)
  · rw [if_pos c, if_pos c, h4 c]; exact h.le _ _ _
  · rw [if_neg c, if_neg c]; exact h
theorem AGV.e3 {V W : EVt} {c : Int} {b : Nat} (h : AGV V W) : AGV (eb3 c b V) (eb3 c b W) := by
  unfold eb3
  by_cases q : c = -1
  · rw [if_pos q, if_pos q]; exact h
  · rw [if_neg q, if_neg q]; exact h.le _ _ _
/-- what edges are laid of -/
def EQb (sg nm ob sg2 nm2 ob2 : Nat → Int) (la la2 : Nat → Nat) (ca ca2 : Nat → Int) (b : Nat) : Prop := la2 b = la b ∧ sg2 (la b) = sg (la b) ∧ nm2 (la b) = nm (la b) ∧ (gOnI (sg (la b)) → ob2 (la b + 1) = ob (la b + 1)) ∧ (gElI (sg (la b)) → ob2 (nm (la b)).toNat = ob (nm (la b)).toNat) ∧ ca2 b = ca b
theorem AGV.ed {la la2 : Nat → Nat} {ca ca2 : Nat → Int} {V W : EVt} (h : AGV V W) : ∀ k, (∀ b, b < k → EQb sg nm ob sg2 nm2 ob2 la la2 ca ca2 b) → AGV (edP sg nm ob la ca k V) (edP sg2 nm2 ob2 la2 ca2 k W)
  | 0, _ => h
  | k + 1, hb => by
    obtain ⟨q1, q2, q3, q4, q5, q6⟩ := hb k (by omega)
    have ih := AGV.ed h k (fun b hb2 => hb b (by omega))
    unfold edP ebP
    rw [q1, q6]
    exact ((ih.e1 q2 q4).e2 q2 q3 q5).e3
end
/-- a block's handler: of one that can throw and has one -/
def CAT (hs : Nat) (sg fr up go ob : Nat → Int) (f l : Nat) (v : Int) : Prop := (v = -1 ∧ ∀ i, f ≤ i → i ≤ l → ¬ (cThI (sg i) ∧ hoP hs fr up i < hs)) ∨ ∃ i, f ≤ i ∧ i ≤ l ∧ (cThI (sg i) ∧ hoP hs fr up i < hs) ∧ v = ob (go (hoP hs fr up i)).toNat
theorem CAT.uq {hs : Nat} {sg fr up go ob : Nat → Int} {f l : Nat} {v w : Int} (h : CAT hs sg fr up go ob f l v) (k : CAT hs sg fr up go ob f l w) (c : ∀ i, f ≤ i → i ≤ l → hoP hs fr up i = hoP hs fr up f) : v = w := by
  rcases h with ⟨h1, h2⟩ | ⟨i, i1, i2, i3, i4⟩
  · rcases k with ⟨k1, k2⟩ | ⟨j, j1, j2, j3, j4⟩
    · rw [h1, k1]
    · exact absurd j3 (h2 j j1 j2)
  · rcases k with ⟨k1, k2⟩ | ⟨j, j1, j2, j3, j4⟩
    · exact absurd i3 (k2 i i1 i2)
    · rw [i4, j4, c i i1 i2, c j j1 j2]
/-- all of a block have one handler -/
theorem hoP_blk {n hs : Nat} {sg nm fr up go d : Nat → Int} (hl : ∀ h, h < hs → 0 ≤ fr h ∧ 0 ≤ up h) {f l : Nat} (hb : ∀ i, f ≤ i → i < l → ¬ CUTC n hs sg nm fr up go d (i + 1)) : ∀ i, f ≤ i → i ≤ l → hoP hs fr up i = hoP hs fr up f := by
  intro i h1
  induction i with
  | zero => intro _; rw [show f = 0 by omega]
  | succ i ih =>
    intro h2
    by_cases q : f = i + 1
    · rw [q]
    rw [← ih (by omega) (by omega)]
    refine fsP_cong (fun h hh => ?_)
    have nc := hb i (by omega) (by omega)
    have p := hl h hh
    have a1 : fr h ≠ (i : Int) + 1 := fun z => nc (Or.inr ⟨h, hh, Or.inl (by omega)⟩)
    have a2 : up h ≠ (i : Int) + 1 := fun z => nc (Or.inr ⟨h, hh, Or.inr (Or.inl (by omega))⟩)
    have e : (fr h ≤ ((i + 1 : Nat) : Int) ∧ ((i + 1 : Nat) : Int) < up h) ↔ (fr h ≤ (i : Int) ∧ (i : Int) < up h) := by omega
    exact decide_eq_decide.mpr e
