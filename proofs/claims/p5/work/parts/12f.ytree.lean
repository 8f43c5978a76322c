/-- what a leaf holds -/
def LFB (k l : Int) : Prop := (k = 0 → l ≤ 999) ∧ (k = 1 → l ≤ 5) ∧ (k = 2 → l ≤ 7) ∧ (k = 3 → l ≤ 399)
/-- a tree of d levels at most, of s nodes at most -/
def TZ (k l r : Nat → Int32) (n : Int) : Nat → Nat → Nat → Prop
  | 0, _, _ => False
  | d + 1, s, e => (e : Int) < n ∧ 1 ≤ s ∧ (((k e).toInt ≤ 4 ∧ LFB (k e).toInt (l e).toInt) ∨ (((k e).toInt = 5 ∨ (k e).toInt = 6) ∧ TZ k l r n d (s - 1) (l e).toNatClampNeg) ∨ (6 < (k e).toInt ∧ ∃ a b, a + b + 1 ≤ s ∧ TZ k l r n d a (l e).toNatClampNeg ∧ TZ k l r n d b (r e).toNatClampNeg))
theorem TZ.s {k l r : Nat → Int32} {n : Int} {d s e : Nat} : TZ k l r n (d + 1) s e = ((e : Int) < n ∧ 1 ≤ s ∧ (((k e).toInt ≤ 4 ∧ LFB (k e).toInt (l e).toInt) ∨ (((k e).toInt = 5 ∨ (k e).toInt = 6) ∧ TZ k l r n d (s - 1) (l e).toNatClampNeg) ∨ (6 < (k e).toInt ∧ ∃ a b, a + b + 1 ≤ s ∧ TZ k l r n d a (l e).toNatClampNeg ∧ TZ k l r n d b (r e).toNatClampNeg))) := rfl
theorem TZ.mono {k l r k2 l2 r2 : Nat → Int32} {n n2 : Int} (hn : n ≤ n2) (hr : ∀ i : Nat, (i : Int) < n → k2 i = k i ∧ l2 i = l i ∧ r2 i = r i) : ∀ {d d2 s s2 e : Nat}, TZ k l r n d s e → d ≤ d2 → s ≤ s2 → TZ k2 l2 r2 n2 d2 s2 e := by
  intro d
  induction d with
  | zero => intro d2 s s2 e h; exact absurd h (fun z => z)
  | succ d ih =>
    intro d2 s s2 e h hd hs
    obtain ⟨d2, rfl⟩ : ∃ q, d2 = q + 1 := ⟨d2 - 1, by omega⟩
    rw [TZ.s] at h ⊢
    obtain ⟨h1, h2, h3⟩ := h
    obtain ⟨e1, e2, e3⟩ := hr e h1
    rw [e1, e2, e3]
    refine ⟨by omega, by omega, ?_⟩
    rcases h3 with h3 | ⟨h3, h4⟩ | ⟨h3, a, b, h4, h5, h6⟩
    · exact Or.inl h3
    · exact Or.inr (Or.inl ⟨h3, ih h4 (by omega) (by omega)⟩)
    · exact Or.inr (Or.inr ⟨h3, a, b, by omega, ih h5 (by omega) (Nat.le_refl _), ih h6 (by omega) (Nat.le_refl _)⟩)
theorem TZ.up {k l r : Nat → Int32} {n : Int} {d d2 s s2 e : Nat} (h : TZ k l r n d s e) (hd : d ≤ d2) (hs : s ≤ s2) : TZ k l r n d2 s2 e := TZ.mono (Int.le_refl _) (fun _ _ => ⟨rfl, rfl, rfl⟩) h hd hs
theorem TZ.lt {k l r : Nat → Int32} {n : Int} {d s e : Nat} (h : TZ k l r n d s e) : (e : Int) < n := by
  cases d with
  | zero => exact absurd h (fun z => z)
  | succ d => exact h.1
theorem TZ.pos {k l r : Nat → Int32} {n : Int} {d s e : Nat} (h : TZ k l r n d s e) : 1 ≤ s := by
  cases d with
  | zero => exact absurd h (fun z => z)
  | succ d => exact h.2.1
theorem TZ.dep {k l r : Nat → Int32} {n : Int} : ∀ {d s e : Nat}, TZ k l r n d s e → TZ k l r n s s e := by
  intro d
  induction d with
  | zero => intro s e h; exact absurd h (fun z => z)
  | succ d ih =>
    intro s e h
    obtain ⟨h1, h2, h3⟩ := h
    obtain ⟨s, rfl⟩ : ∃ q, s = q + 1 := ⟨s - 1, by omega⟩
    rw [TZ.s]
    refine ⟨h1, h2, ?_⟩
    rcases h3 with h3 | ⟨h3, h4⟩ | ⟨h3, a, b, h4, h5, h6⟩
    · exact Or.inl h3
    · exact Or.inr (Or.inl ⟨h3, ih h4⟩)
    · exact Or.inr (Or.inr ⟨h3, a, b, h4, (ih h5).up (by omega) (Nat.le_refl _), (ih h6).up (by omega) (Nat.le_refl _)⟩)
abbrev TT (σ : Sto) (s e : Nat) : Prop := TZ (σ.1 38) (σ.1 39) (σ.1 40) (σ.1 41 0).toInt s s e
/-- nodes that were stay as they were -/
def NGr (σ s : Sto) : Prop := (σ.1 41 0).toInt ≤ (s.1 41 0).toInt ∧ ∀ i : Nat, (i : Int) < (σ.1 41 0).toInt → s.1 38 i = σ.1 38 i ∧ s.1 39 i = σ.1 39 i ∧ s.1 40 i = σ.1 40 i
theorem NGr.rf {σ : Sto} : NGr σ σ := ⟨Int.le_refl _, fun _ _ => ⟨rfl, rfl, rfl⟩⟩
theorem NGr.tr {σ s t : Sto} (h : NGr σ s) (h2 : NGr s t) : NGr σ t := ⟨Int.le_trans h.1 h2.1, fun i hi => by
  have a := h.2 i hi
  have b := h2.2 i (Int.lt_of_lt_of_le hi h.1)
  exact ⟨b.1.trans a.1, b.2.1.trans a.2.1, b.2.2.trans a.2.2⟩⟩
theorem NGr.of {σ s : Sto} (e1 : s.1 38 = σ.1 38) (e2 : s.1 39 = σ.1 39) (e3 : s.1 40 = σ.1 40) (e4 : s.1 41 = σ.1 41) : NGr σ s := ⟨by rw [e4]; exact Int.le_refl _, fun i _ => by rw [e1, e2, e3]; exact ⟨rfl, rfl, rfl⟩⟩
theorem NGr.fr {ms ml : List Nat} {σ s : Sto} (h : FR ms ml σ s) (hd : (!ms.contains 38 && !ms.contains 39 && !ms.contains 40 && !ms.contains 41) = true) : NGr σ s := by
  simp only [Bool.and_eq_true, Bool.not_eq_true', List.contains_eq_mem, decide_eq_false_iff_not] at hd
  exact NGr.of (h.1 38 hd.1.1.1) (h.1 39 hd.1.1.2) (h.1 40 hd.1.2) (h.1 41 hd.2)
theorem TT.ng {σ s : Sto} {z z2 e : Nat} (h : TT σ z e) (g : NGr σ s) (hz : z ≤ z2) : TT s z2 e := TZ.mono g.1 g.2 h hz hz
/-- may be put aside: neither a number, nor a T, nor an X -/
def spI (σ : Sto) (e : Nat) : Int := if (σ.1 38 e).toInt = 1 ∨ 4 ≤ (σ.1 38 e).toInt then 1 else 0
/-- is not the name of the place itself -/
def chI (σ : Sto) (k e : Nat) : Int := if (σ.1 38 e).toInt = 2 ∧ (σ.1 39 e).toInt = (k : Int) then 0 else 1
theorem sp_01 (σ : Sto) (e : Nat) : 0 ≤ spI σ e ∧ spI σ e ≤ 1 := by unfold spI; split <;> omega
theorem ch_01 (σ : Sto) (k e : Nat) : 0 ≤ chI σ k e ∧ chI σ k e ≤ 1 := by unfold chI; split <;> omega
theorem sp_ch (σ : Sto) (k e : Nat) : spI σ e ≤ chI σ k e := by
  unfold spI chI
  by_cases c : (σ.1 38 e).toInt = 2 ∧ (σ.1 39 e).toInt = (k : Int)
  · rw [if_neg (by omega), if_pos c]; exact Int.le_refl _
  · rw [if_neg c]; split <;> omega
theorem sp_ng {σ s : Sto} (g : NGr σ s) {e : Nat} (he : (e : Int) < (σ.1 41 0).toInt) : spI s e = spI σ e := by unfold spI; rw [(g.2 e he).1]
theorem ch_ng {σ s : Sto} (g : NGr σ s) {k e : Nat} (he : (e : Int) < (σ.1 41 0).toInt) : chI s k e = chI σ k e := by unfold chI; rw [(g.2 e he).1, (g.2 e he).2.1]
abbrev ly (σ : Sto) (k : Nat) : Nat := (σ.1 49 k).toNatClampNeg
def PH (σ : Sto) (y : Nat) : Int := fb_si (fun k => spI σ (ly σ k)) y
def PS (σ : Sto) (y : Nat) : Int := fb_si (fun k => chI σ k (ly σ k)) y
def SK (σ : Sto) (y : Nat) (B : Int) : Prop := ∃ f : Nat → Nat, (∀ k, k < y → TT σ (f k) (ly σ k)) ∧ fb_si (fun k => (f k : Int)) y ≤ B
theorem fb_si_nn {f : Nat → Int} : ∀ {n : Nat}, (∀ k, k < n → 0 ≤ f k) → 0 ≤ fb_si f n
  | 0, _ => Int.le_refl _
  | n + 1, h => by
    rw [fb_si_succ]
    have := fb_si_nn (f := f) (n := n) (fun k hk => h k (by omega))
    have := h n (by omega)
    omega
theorem fb_si_at {f : Nat → Int} : ∀ {n k : Nat}, (∀ k, k < n → 0 ≤ f k) → k < n → f k ≤ fb_si f n
  | 0, k, _, hk => by omega
  | n + 1, k, h, hk => by
    rw [fb_si_succ]
    have a := fb_si_nn (f := f) (n := n) (fun k hk => h k (by omega))
    have b := h n (by omega)
    by_cases q : k = n
    · subst q; omega
    · have := fb_si_at (f := f) (n := n) (k := k) (fun k hk => h k (by omega)) (by omega)
      omega
theorem PH.nn (σ : Sto) (y : Nat) : 0 ≤ PH σ y := fb_si_nn fun k _ => (sp_01 σ _).1
theorem PS.nn (σ : Sto) (y : Nat) : 0 ≤ PS σ y := fb_si_nn fun k _ => (ch_01 σ _ _).1
theorem PH_s (σ : Sto) (y : Nat) : PH σ (y + 1) = PH σ y + spI σ (ly σ y) := rfl
theorem PS_s (σ : Sto) (y : Nat) : PS σ (y + 1) = PS σ y + chI σ y (ly σ y) := rfl
theorem PH.cg {σ s : Sto} {y : Nat} (h : ∀ k, k < y → spI s (ly s k) = spI σ (ly σ k)) : PH s y = PH σ y := fb_si_cong h
theorem PS.cg {σ s : Sto} {y : Nat} (h : ∀ k, k < y → chI s k (ly s k) = chI σ k (ly σ k)) : PS s y = PS σ y := fb_si_cong h
theorem SK.nn {σ : Sto} {y : Nat} {B : Int} (h : SK σ y B) : 0 ≤ B := by
  obtain ⟨f, -, h2⟩ := h
  have := fb_si_nn (f := fun k => (f k : Int)) (n := y) (fun k _ => by omega)
  omega
theorem SK.at {σ : Sto} {y k : Nat} {B : Int} (h : SK σ y B) (hk : k < y) (hB : B ≤ 60) : TT σ 60 (ly σ k) ∧ ((ly σ k : Nat) : Int) < (σ.1 41 0).toInt := by
  obtain ⟨f, h1, h2⟩ := h
  have := fb_si_at (f := fun k => (f k : Int)) (n := y) (k := k) (fun k _ => by omega) hk
  exact ⟨(h1 k hk).up (by omega) (by omega), (h1 k hk).lt⟩
theorem SK.lt {σ : Sto} {y k : Nat} {B : Int} (h : SK σ y B) (hk : k < y) : ((ly σ k : Nat) : Int) < (σ.1 41 0).toInt := by
  obtain ⟨f, h1, h2⟩ := h
  exact (h1 k hk).lt
theorem SK.mono {σ : Sto} {y : Nat} {A B : Int} (h : SK σ y A) (hh : A ≤ B) : SK σ y B := by
  obtain ⟨f, h1, h2⟩ := h
  exact ⟨f, h1, by omega⟩
/-- rows of nodes grow, the stack as it was -/
theorem SK.ng {σ s : Sto} {y : Nat} {B : Int} (h : SK σ y B) (g : NGr σ s) (e : ∀ k, k < y → s.1 49 k = σ.1 49 k) : SK s y B := by
  obtain ⟨f, h1, h2⟩ := h
  exact ⟨f, fun k hk => by unfold ly; rw [e k hk]; exact (h1 k hk).ng g (Nat.le_refl _), h2⟩
theorem PH.ng {σ s : Sto} {y : Nat} {B : Int} (h : SK σ y B) (g : NGr σ s) (e : ∀ k, k < y → s.1 49 k = σ.1 49 k) : PH s y = PH σ y := PH.cg fun k hk => by unfold ly; rw [e k hk]; exact sp_ng g (h.lt hk)
theorem PS.ng {σ s : Sto} {y : Nat} {B : Int} (h : SK σ y B) (g : NGr σ s) (e : ∀ k, k < y → s.1 49 k = σ.1 49 k) : PS s y = PS σ y := PS.cg fun k hk => by unfold ly; rw [e k hk]; exact ch_ng g (h.lt hk)
theorem SK.push {σ s : Sto} {y z : Nat} {B : Int} {v : Int32} (h : SK σ y B) (e : s.1 49 = (sti σ 49 y v).1 49) (g : NGr σ s) (hv : TT s z v.toNatClampNeg) : SK s (y + 1) (B + z) := by
  obtain ⟨f, h1, h2⟩ := h
  refine ⟨fun k => if k = y then z else f k, fun k hk => ?_, ?_⟩
  · unfold ly
    rw [e, sti_if]
    by_cases q : k = y
    · rw [if_pos q]; show TT s (if k = y then z else f k) _; rw [if_pos q]; exact hv
    · rw [if_neg q]; show TT s (if k = y then z else f k) _; rw [if_neg q]; exact (h1 k (by omega)).ng g (Nat.le_refl _)
  · rw [fb_si_succ]
    show fb_si (fun k => ((if k = y then z else f k : Nat) : Int)) y + ((if y = y then z else f y : Nat) : Int) ≤ _
    rw [if_pos rfl, fb_si_cong (g := fun k => (f k : Int)) (fun k hk => by show ((if k = y then z else f k : Nat) : Int) = _; rw [if_neg (by omega)])]
    omega
theorem SK.pop {σ : Sto} {y : Nat} {B : Int} (h : SK σ (y + 1) B) : ∃ z : Nat, 1 ≤ z ∧ TT σ z (ly σ y) ∧ SK σ y (B - z) := by
  obtain ⟨f, h1, h2⟩ := h
  rw [fb_si_succ] at h2
  exact ⟨f y, (h1 y (by omega)).pos, h1 y (by omega), f, fun k hk => h1 k (by omega), by omega⟩
theorem SK.put {σ s : Sto} {y k : Nat} {B : Int} {v : Int32} (h : SK σ y B) (hk : k < y) (e : s.1 49 = (sti σ 49 k v).1 49) (g : NGr σ s) (hz : ∀ q, TT σ q (ly σ k) → TT s q v.toNatClampNeg) : SK s y B := by
  obtain ⟨f, h1, h2⟩ := h
  refine ⟨f, fun j hj => ?_, h2⟩
  unfold ly
  rw [e, sti_if]
  by_cases q : j = k
  · rw [if_pos q]; subst q; exact hz _ (h1 j hj)
  · rw [if_neg q]; exact (h1 j hj).ng g (Nat.le_refl _)
/-- statements: what they hold -/
def W1 (σ : Sto) (j : Nat) : Prop := ((σ.1 42 j).toInt = 0 → 0 ≤ (σ.1 43 j).toInt ∧ (σ.1 43 j).toInt ≤ 5) ∧ ((σ.1 42 j).toInt = 1 → 0 ≤ (σ.1 43 j).toInt ∧ (σ.1 43 j).toInt ≤ 7) ∧ ((σ.1 42 j).toInt = 2 → 0 ≤ (σ.1 43 j).toInt) ∧ ((σ.1 42 j).toInt ≠ 6 → 0 ≤ (σ.1 44 j).toInt ∧ TT σ 60 (σ.1 44 j).toNatClampNeg) ∧ ((σ.1 42 j).toInt = 6 → (σ.1 44 j).toInt = -1)
def WSt (σ : Sto) : Prop := ∀ j : Nat, (j : Int) < (σ.1 47 0).toInt → W1 σ j
theorem WSt.ng {σ s : Sto} (h : WSt σ) (g : NGr σ s) (e2 : s.1 42 = σ.1 42) (e3 : s.1 43 = σ.1 43) (e4 : s.1 44 = σ.1 44) (e7 : s.1 47 = σ.1 47) : WSt s := by
  intro j hj
  rw [e7] at hj
  have o := h j hj
  unfold W1 at o ⊢
  rw [e2, e3, e4]
  exact ⟨o.1, o.2.1, o.2.2.1, fun z => ⟨(o.2.2.2.1 z).1, (o.2.2.2.1 z).2.ng g (Nat.le_refl _)⟩, o.2.2.2.2⟩
def OCt (σ : Sto) : Nat := fb_ct (fun j => decide ((σ.1 42 j).toInt = 3)) (σ.1 47 0).toInt.toNat
/-- statements that were stay as they were -/
def SGr (σ s : Sto) : Prop := (σ.1 47 0).toInt ≤ (s.1 47 0).toInt ∧ ∀ j : Nat, (j : Int) < (σ.1 47 0).toInt → s.1 42 j = σ.1 42 j ∧ s.1 43 j = σ.1 43 j ∧ s.1 44 j = σ.1 44 j
theorem SGr.rf {σ : Sto} : SGr σ σ := ⟨Int.le_refl _, fun _ _ => ⟨rfl, rfl, rfl⟩⟩
theorem SGr.tr {σ s t : Sto} (h : SGr σ s) (h2 : SGr s t) : SGr σ t := ⟨Int.le_trans h.1 h2.1, fun i hi => by
  have a := h.2 i hi
  have b := h2.2 i (Int.lt_of_lt_of_le hi h.1)
  exact ⟨b.1.trans a.1, b.2.1.trans a.2.1, b.2.2.trans a.2.2⟩⟩
theorem SGr.of {σ s : Sto} (e1 : s.1 42 = σ.1 42) (e2 : s.1 43 = σ.1 43) (e3 : s.1 44 = σ.1 44) (e4 : s.1 47 = σ.1 47) : SGr σ s := ⟨by rw [e4]; exact Int.le_refl _, fun i _ => by rw [e1, e2, e3]; exact ⟨rfl, rfl, rfl⟩⟩
theorem SGr.fr {ms ml : List Nat} {σ s : Sto} (h : FR ms ml σ s) (hd : (!ms.contains 42 && !ms.contains 43 && !ms.contains 44 && !ms.contains 47) = true) : SGr σ s := by
  simp only [Bool.and_eq_true, Bool.not_eq_true', List.contains_eq_mem, decide_eq_false_iff_not] at hd
  exact SGr.of (h.1 42 hd.1.1.1) (h.1 43 hd.1.1.2) (h.1 44 hd.1.2) (h.1 47 hd.2)
theorem SGr.mk_ {σ s : Sto} {n : Nat} {a b c : Int32} (hn : (n : Int) = (σ.1 47 0).toInt) (e1 : s.1 42 = (sti σ 42 n a).1 42) (e2 : s.1 43 = (sti σ 43 n b).1 43) (e3 : s.1 44 = (sti σ 44 n c).1 44) (e4 : (s.1 47 0).toInt = (σ.1 47 0).toInt + 1) : SGr σ s := by
  refine ⟨by omega, fun i hi => ?_⟩
  rw [e1, e2, e3, sti_j (by omega), sti_j (by omega), sti_j (by omega)]
  exact ⟨rfl, rfl, rfl⟩
/-- the last statement ends it -/
def ENk (σ s : Sto) : Prop := (σ.1 47 0).toInt + 1 ≤ (s.1 47 0).toInt ∧ 5 ≤ (s.1 42 ((s.1 47 0).toInt.toNat - 1)).toInt
theorem ENk.pre {σ s t : Sto} (g : SGr σ s) (h : ENk s t) : ENk σ t := ⟨by have := g.1; have := h.1; omega, h.2⟩
/-- where the laying of statements stands: how many lie, how many nodes they have, statements and what may still become of them, nodes beyond statements, outputs -/
def LSt (σ : Sto) (y : Nat) (B p m c : Int) : Prop := (σ.1 50 0).toInt = y ∧ SK σ y B ∧ (σ.1 47 0).toInt + PH σ y + 2 * PS σ y ≤ p ∧ (σ.1 41 0).toInt ≤ (σ.1 47 0).toInt + m ∧ (OCt σ : Int) ≤ c ∧ (σ.1 48 0).toInt ≤ (σ.1 47 0).toInt ∧ WSt σ
theorem LSt.st {σ : Sto} {y : Nat} {B p m c : Int} (h : LSt σ y B p m c) : (σ.1 47 0).toInt ≤ p := by
  have a := PH.nn σ y
  have b := PS.nn σ y
  have c := h.2.2.1
  omega
theorem LSt.up {σ : Sto} {y : Nat} {B p m c B2 p2 m2 c2 : Int} (h : LSt σ y B p m c) (h1 : B ≤ B2) (h2 : p ≤ p2) (h3 : m ≤ m2) (h4 : c ≤ c2) : LSt σ y B2 p2 m2 c2 :=
  ⟨h.1, h.2.1.mono h1, by have := h.2.2.1; omega, by have := h.2.2.2.1; omega, by have := h.2.2.2.2.1; omega, h.2.2.2.2.2⟩
/-- nothing of it is touched -/
theorem LSt.fr {σ s : Sto} {ms ml : List Nat} {y : Nat} {B p m c : Int} (h : LSt σ y B p m c) (g : FR ms ml σ s) (hd : (!ms.contains 38 && !ms.contains 39 && !ms.contains 40 && !ms.contains 41 && !ms.contains 42 && !ms.contains 43 && !ms.contains 44 && !ms.contains 47 && !ms.contains 48 && !ms.contains 49 && !ms.contains 50) = true) : LSt s y B p m c := by
  simp only [Bool.and_eq_true, Bool.not_eq_true', List.contains_eq_mem, decide_eq_false_iff_not] at hd
  have e38 := g.1 38 (by simp [hd])
  have e39 := g.1 39 (by simp [hd])
  have e40 := g.1 40 (by simp [hd])
  have e41 := g.1 41 (by simp [hd])
  have e42 := g.1 42 (by simp [hd])
  have e43 := g.1 43 (by simp [hd])
  have e44 := g.1 44 (by simp [hd])
  have e47 := g.1 47 (by simp [hd])
  have e48 := g.1 48 (by simp [hd])
  have e49 := g.1 49 (by simp [hd])
  have e50 := g.1 50 (by simp [hd])
  have ng : NGr σ s := NGr.of e38 e39 e40 e41
  obtain ⟨h1, h2, h3, h4, h5, h6, h7⟩ := h
  have eq : ∀ k, k < y → s.1 49 k = σ.1 49 k := fun k _ => by rw [e49]
  unfold LSt OCt
  rw [e50, e47, e41, e48, e42, PH.ng h2 ng eq, PS.ng h2 ng eq]
  exact ⟨h1, h2.ng ng eq, h3, h4, h5, h6, h7.ng ng e42 e43 e44 e47⟩
theorem idx {e : Int32} {n : Int} (h0 : 0 ≤ e.toInt) (h : ((e.toNatClampNeg : Nat) : Int) < n) : e.toInt < n := by
  have := clamp_I h0; omega
theorem sd_hasEffects {σ : Sto} (hB : BM σ) : ∀ (d s : Nat) (e : Int32), 0 ≤ e.toInt → TZ (σ.1 38) (σ.1 39) (σ.1 40) (σ.1 41 0).toInt d s e.toNatClampNeg → OK (f_X12_hasEffects d e σ) (fun v => (0 ≤ v.toInt ∧ v.toInt ≤ 1) ∧ (v.toInt = 1 → spI σ e.toNatClampNeg = 1)) := by
  intro d
  induction d with
  | zero => intro s e _ h; exact absurd h (fun z => z)
  | succ d ih =>
    intro s e h0 h
    have k_0 : (0 : Int32).toInt = 0 := by decide +kernel
    have k_1 : (1 : Int32).toInt = 1 := by decide +kernel
    have k_4 : (4 : Int32).toInt = 4 := by decide +kernel
    have g41 := gM_41 hB 0
    have hl := idx h0 h.lt
    have hi : 0 ≤ e.toInt ∧ e.toInt < 6000 := ⟨h0, by omega⟩
    obtain ⟨-, -, h3⟩ := h
    have g39 := gM_39 hB e.toNatClampNeg
    have g40 := gM_40 hB e.toNatClampNeg
    have hs : 4 ≤ (σ.1 38 e.toNatClampNeg).toInt → spI σ e.toNatClampNeg = 1 := fun q => by unfold spI; rw [if_pos (Or.inr q)]
    show OK (b_X12_hasEffects (f_X12_hasEffects d) e σ) _
    unfold b_X12_hasEffects
    refine ok_calp (s_X12_isOne (x1 := e) (σ := σ) hB (by omega)) (fun v1 h1 => ?_)
    refine ok_ite (fun c => ?_) (fun c => ?_)
    · rw [fa_eq, k_0] at c
      refine ok_calp (s_X12_isBoth (x1 := e) (σ := σ) hB (by omega)) (fun v3 h3b => ?_)
      refine ok_ite (fun c2 => ?_) (fun c2 => ?_)
      · refine ok_ix hi ?_
        refine ok_lt fun v5 e5 => ?_
        refine ok_ite (fun c3 => ?_) (fun c3 => ?_)
        · rw [fa_eq, k_4, e5] at c3
          exact ok_ret ⟨by omega, fun _ => hs (by omega)⟩
        · exact ok_ret ⟨by omega, fun q => by omega⟩
      · rw [fa_eq, k_0] at c2
        have hb : 6 < (σ.1 38 e.toNatClampNeg).toInt := h3b.2.mp (by omega)
        obtain ⟨a, b, -, ha, hb2⟩ : ∃ a b, a + b + 1 ≤ s ∧ TZ (σ.1 38) (σ.1 39) (σ.1 40) (σ.1 41 0).toInt d a (σ.1 39 e.toNatClampNeg).toNatClampNeg ∧ TZ (σ.1 38) (σ.1 39) (σ.1 40) (σ.1 41 0).toInt d b (σ.1 40 e.toNatClampNeg).toNatClampNeg := by
          rcases h3 with ⟨q, -⟩ | ⟨q, -⟩ | ⟨-, q⟩
          · omega
          · omega
          · exact q
        have yes : OK (some (1 : Int32)) (fun v => (0 ≤ v.toInt ∧ v.toInt ≤ 1) ∧ (v.toInt = 1 → spI σ e.toNatClampNeg = 1)) := ok_ret ⟨by omega, fun _ => hs (by omega)⟩
        refine ok_ix hi ?_
        refine ok_lt fun v7 e7 => ?_
        refine ok_jn ?_
        refine ok_ite (fun _ => yes) (fun _ => ?_)
        refine ok_ix hi ?_
        refine ok_lt fun v10 e10 => ?_
        refine ok_ite (fun _ => yes) (fun _ => ?_)
        refine ok_ix hi ?_
        refine ok_lt fun v12 e12 => ?_
        subst e12
        refine ok_calp (ih a _ g39.1 ha) (fun v13 h13 => ?_)
        refine ok_ite (fun _ => ?_) (fun _ => yes)
        refine ok_ix hi ?_
        refine ok_lt fun v15 e15 => ?_
        subst e15
        refine ok_calp (ih b _ g40.1 hb2) (fun v16 h16 => ?_)
        exact ok_ite (fun _ => ok_ret ⟨by omega, fun q => by omega⟩) (fun _ => yes)
    · rw [fa_eq, k_0] at c
      have hk := h1.2.mp (by omega)
      have ht : TZ (σ.1 38) (σ.1 39) (σ.1 40) (σ.1 41 0).toInt d (s - 1) (σ.1 39 e.toNatClampNeg).toNatClampNeg := by
        rcases h3 with ⟨q, -⟩ | ⟨-, q⟩ | ⟨q, -⟩
        · omega
        · exact q
        · omega
      refine ok_ix hi ?_
      refine ok_lt fun v18 e18 => ?_
      subst e18
      refine ok_calp (ih _ _ g39.1 ht) (fun v19 h19 => ?_)
      refine ok_bz (by rw [fa_eq, fa_eq, k_0, k_1]; omega) ?_
      exact ok_ret ⟨h19.1, fun _ => hs (by omega)⟩
theorem sd_hasName {σ : Sto} (hB : BM σ) {x2 x3 : Int32} : ∀ (d s : Nat) (e : Int32), 0 ≤ e.toInt → TZ (σ.1 38) (σ.1 39) (σ.1 40) (σ.1 41 0).toInt d s e.toNatClampNeg → OK (f_X12_hasName d e x2 x3 σ) (fun v => (0 ≤ v.toInt ∧ v.toInt ≤ 1) ∧ (x2.toInt = 1 → v.toInt = 1 → spI σ e.toNatClampNeg = 1)) := by
  intro d
  induction d with
  | zero => intro s e _ h; exact absurd h (fun z => z)
  | succ d ih =>
    intro s e h0 h
    have k_0 : (0 : Int32).toInt = 0 := by decide +kernel
    have k_1 : (1 : Int32).toInt = 1 := by decide +kernel
    have g41 := gM_41 hB 0
    have hl := idx h0 h.lt
    have hi : 0 ≤ e.toInt ∧ e.toInt < 6000 := ⟨h0, by omega⟩
    obtain ⟨-, -, h3⟩ := h
    have g39 := gM_39 hB e.toNatClampNeg
    have g40 := gM_40 hB e.toNatClampNeg
    have hs : 4 ≤ (σ.1 38 e.toNatClampNeg).toInt → spI σ e.toNatClampNeg = 1 := fun q => by unfold spI; rw [if_pos (Or.inr q)]
    show OK (b_X12_hasName (f_X12_hasName d) e x2 x3 σ) _
    unfold b_X12_hasName
    refine ok_calp (s_X12_isOne (x1 := e) (σ := σ) hB (by omega)) (fun v1 h1 => ?_)
    refine ok_ite (fun c => ?_) (fun c => ?_)
    · rw [fa_eq, k_0] at c
      refine ok_calp (s_X12_isBoth (x1 := e) (σ := σ) hB (by omega)) (fun v3 h3b => ?_)
      refine ok_ite (fun c2 => ?_) (fun c2 => ?_)
      · refine ok_ix hi ?_
        refine ok_lt fun v5 e5 => ?_
        have no : OK (some (0 : Int32)) (fun v => (0 ≤ v.toInt ∧ v.toInt ≤ 1) ∧ (x2.toInt = 1 → v.toInt = 1 → spI σ e.toNatClampNeg = 1)) := ok_ret ⟨by omega, fun _ q => by omega⟩
        refine ok_jn ?_
        refine ok_ite (fun c3 => ?_) (fun c3 => no)
        refine ok_ix hi ?_
        refine ok_lt fun v8 e8 => ?_
        refine ok_ite (fun c4 => ?_) (fun c4 => no)
        refine ok_ret ⟨by omega, fun q _ => ?_⟩
        rw [fa_eq, e5, q] at c3
        unfold spI; rw [if_pos (Or.inl c3)]
      · rw [fa_eq, k_0] at c2
        have hb : 6 < (σ.1 38 e.toNatClampNeg).toInt := h3b.2.mp (by omega)
        obtain ⟨a, b, -, ha, hb2⟩ : ∃ a b, a + b + 1 ≤ s ∧ TZ (σ.1 38) (σ.1 39) (σ.1 40) (σ.1 41 0).toInt d a (σ.1 39 e.toNatClampNeg).toNatClampNeg ∧ TZ (σ.1 38) (σ.1 39) (σ.1 40) (σ.1 41 0).toInt d b (σ.1 40 e.toNatClampNeg).toNatClampNeg := by
          rcases h3 with ⟨q, -⟩ | ⟨q, -⟩ | ⟨-, q⟩
          · omega
          · omega
          · exact q
        have yes : OK (some (1 : Int32)) (fun v => (0 ≤ v.toInt ∧ v.toInt ≤ 1) ∧ (x2.toInt = 1 → v.toInt = 1 → spI σ e.toNatClampNeg = 1)) := ok_ret ⟨by omega, fun _ _ => hs (by omega)⟩
        refine ok_ix hi ?_
        refine ok_lt fun v10 e10 => ?_
        subst e10
        refine ok_calp (ih a _ g39.1 ha) (fun v11 h11 => ?_)
        refine ok_jn ?_
        refine ok_ite (fun _ => ?_) (fun _ => yes)
        refine ok_ix hi ?_
        refine ok_lt fun v14 e14 => ?_
        subst e14
        refine ok_calp (ih b _ g40.1 hb2) (fun v15 h15 => ?_)
        exact ok_ite (fun _ => ok_ret ⟨by omega, fun _ q => by omega⟩) (fun _ => yes)
    · rw [fa_eq, k_0] at c
      have hk := h1.2.mp (by omega)
      have ht : TZ (σ.1 38) (σ.1 39) (σ.1 40) (σ.1 41 0).toInt d (s - 1) (σ.1 39 e.toNatClampNeg).toNatClampNeg := by
        rcases h3 with ⟨q, -⟩ | ⟨-, q⟩ | ⟨q, -⟩
        · omega
        · exact q
        · omega
      refine ok_ix hi ?_
      refine ok_lt fun v18 e18 => ?_
      subst e18
      refine ok_calp (ih _ _ g39.1 ht) (fun v19 h19 => ?_)
      refine ok_bz (by rw [fa_eq, fa_eq, k_0, k_1]; omega) ?_
      exact ok_ret ⟨h19.1, fun _ _ => hs (by omega)⟩
/-- a node that is made -/
theorem NGr.mk_ {σ s : Sto} {n : Nat} {a b c : Int32} (hn : (n : Int) = (σ.1 41 0).toInt) (e1 : s.1 38 = (sti σ 38 n a).1 38) (e2 : s.1 39 = (sti σ 39 n b).1 39) (e3 : s.1 40 = (sti σ 40 n c).1 40) (e4 : (s.1 41 0).toInt = (σ.1 41 0).toInt + 1) : NGr σ s := by
  refine ⟨by omega, fun i hi => ?_⟩
  rw [e1, e2, e3, sti_j (by omega), sti_j (by omega), sti_j (by omega)]
  exact ⟨rfl, rfl, rfl⟩
theorem mk_one {σ : Sto} (hB : BM σ) {x1 x2 x3 : Int32} (p1 : 0 ≤ x1.toInt ∧ x1.toInt ≤ 255) (p2 : 0 ≤ x2.toInt ∧ x2.toInt ≤ 5999) (p3 : 0 ≤ x3.toInt ∧ x3.toInt ≤ 5999) (hn : (σ.1 41 0).toInt < 6000) {z : Nat}
    (hz : (z = 1 ∧ x1.toInt ≤ 4 ∧ LFB x1.toInt x2.toInt) ∨ ((x1.toInt = 5 ∨ x1.toInt = 6) ∧ 2 ≤ z ∧ TT σ (z - 1) x2.toNatClampNeg) ∨ (6 < x1.toInt ∧ ∃ a b, a + b + 1 ≤ z ∧ TT σ a x2.toNatClampNeg ∧ TT σ b x3.toNatClampNeg)) :
    OK (f_X12_makes x1 x2 x3 σ) (fun r => BM r.2 ∧ FR [38, 39, 40, 41] [] σ r.2 ∧ NGr σ r.2 ∧ (r.2.1 41 0).toInt = (σ.1 41 0).toInt + 1 ∧ r.1.toInt = (σ.1 41 0).toInt ∧ 0 ≤ r.1.toInt ∧ TT r.2 z r.1.toNatClampNeg ∧ r.2.1 38 r.1.toNatClampNeg = x1 ∧ r.2.1 39 r.1.toNatClampNeg = x2) := by
  refine ok_imp (s_X12_makes (x1 := x1) (x2 := x2) (x3 := x3) hB p1 p2 p3 hn) (fun r h => ?_)
  obtain ⟨b1, b2, b3, b4, b5, b6, b7, b8⟩ := h
  have g41 := gM_41 hB 0
  have c1 := clamp_I (x := σ.1 41 0) (by omega)
  have c2 := clamp_I (x := r.1) (by omega)
  have e : r.1.toNatClampNeg = (σ.1 41 0).toNatClampNeg := by omega
  have g : NGr σ r.2 := NGr.mk_ c1 b6 b7 b8 b5
  have k1 : r.2.1 38 r.1.toNatClampNeg = x1 := by rw [b6, e, sti_s]
  have k2 : r.2.1 39 r.1.toNatClampNeg = x2 := by rw [b7, e, sti_s]
  have k3 : r.2.1 40 r.1.toNatClampNeg = x3 := by rw [b8, e, sti_s]
  refine ⟨b2, b3, g, b5, b4, by omega, ?_, k1, k2⟩
  have z1 : 1 ≤ z := by rcases hz with q | q | ⟨-, a, b, q, -⟩ <;> omega
  obtain ⟨w, rfl⟩ : ∃ w, z = w + 1 := ⟨z - 1, by omega⟩
  show TZ _ _ _ _ (w + 1) (w + 1) _
  rw [TZ.s, k1, k2, k3]
  refine ⟨by omega, by omega, ?_⟩
  rcases hz with ⟨-, q1, q2⟩ | ⟨q1, q2, q3⟩ | ⟨q1, a, b, q2, q3, q4⟩
  · exact Or.inl ⟨q1, q2⟩
  · exact Or.inr (Or.inl ⟨q1, q3.ng g (Nat.le_refl _)⟩)
  · exact Or.inr (Or.inr ⟨q1, a, b, q2, TZ.up (TT.ng q3 g (Nat.le_refl _)) (by omega) (Nat.le_refl _), TZ.up (TT.ng q4 g (Nat.le_refl _)) (by omega) (Nat.le_refl _)⟩)
theorem LSt.nodes {σ s : Sto} {y : Nat} {B p m c q : Int} (h : LSt σ y B p m c) (g : NGr σ s) (f : FR [38, 39, 40, 41] [] σ s) (e : (s.1 41 0).toInt ≤ (σ.1 41 0).toInt + q) : LSt s y B p (m + q) c := by
  obtain ⟨h1, h2, h3, h4, h5, h6, h7⟩ := h
  have e42 := f.1 42 (by decide)
  have e43 := f.1 43 (by decide)
  have e44 := f.1 44 (by decide)
  have e47 := f.1 47 (by decide)
  have e48 := f.1 48 (by decide)
  have e49 := f.1 49 (by decide)
  have e50 := f.1 50 (by decide)
  have eq : ∀ k, k < y → s.1 49 k = σ.1 49 k := fun k _ => by rw [e49]
  unfold LSt OCt
  rw [e50, e47, e48, e42, PH.ng h2 g eq, PS.ng h2 g eq]
  exact ⟨h1, h2.ng g eq, h3, by omega, h5, h6, h7.ng g e42 e43 e44 e47⟩
theorem OCt.s {σ s : Sto} {n : Nat} {k : Int32} (hn : (n : Int) = (σ.1 47 0).toInt) (e : s.1 42 = (sti σ 42 n k).1 42) (e7 : (s.1 47 0).toInt = (σ.1 47 0).toInt + 1) : OCt s = OCt σ + (if k.toInt = 3 then 1 else 0) := by
  unfold OCt
  rw [e7, show ((σ.1 47 0).toInt + 1).toNat = n + 1 by omega, fb_ct_succ, show (σ.1 47 0).toInt.toNat = n by omega, e]
  have a : fb_ct (fun j => decide (((sti σ 42 n k).1 42 j).toInt = 3)) n = fb_ct (fun j => decide ((σ.1 42 j).toInt = 3)) n := fb_ct_cong (fun j hj => by rw [sti_j (by omega)])
  rw [a, sti_s]
  by_cases q : k.toInt = 3
  · rw [if_pos q, if_pos (by simpa using q)]
  · rw [if_neg q, if_neg (by simpa using q)]
/-- a statement more -/
theorem LSt.more {σ s : Sto} {y : Nat} {B p m c q : Int} {n : Nat} {k w x : Int32} (h : LSt σ y B p m c) (g : NGr σ s) (hn : (n : Int) = (σ.1 47 0).toInt) (e2 : s.1 42 = (sti σ 42 n k).1 42) (e3 : s.1 43 = (sti σ 43 n w).1 43) (e4 : s.1 44 = (sti σ 44 n x).1 44) (e7 : (s.1 47 0).toInt = (σ.1 47 0).toInt + 1) (e9 : s.1 49 = σ.1 49) (e0 : s.1 50 = σ.1 50)
    (e1 : (s.1 41 0).toInt ≤ (σ.1 41 0).toInt + q) (e8 : (s.1 48 0).toInt ≤ (σ.1 48 0).toInt + 1) (hw : (k.toInt = 0 → 0 ≤ w.toInt ∧ w.toInt ≤ 5) ∧ (k.toInt = 1 → 0 ≤ w.toInt ∧ w.toInt ≤ 7) ∧ (k.toInt = 2 → 0 ≤ w.toInt) ∧ (k.toInt ≠ 6 → 0 ≤ x.toInt ∧ TT σ 60 x.toNatClampNeg) ∧ (k.toInt = 6 → x.toInt = -1)) : LSt s y B (p + 1) (m + q - 1) (c + (if k.toInt = 3 then 1 else 0)) := by
  obtain ⟨h1, h2, h3, h4, h5, h6, h7⟩ := h
  have eq : ∀ k, k < y → s.1 49 k = σ.1 49 k := fun k _ => by rw [e9]
  unfold LSt
  rw [e0, PH.ng h2 g eq, PS.ng h2 g eq, OCt.s hn e2 e7]
  refine ⟨h1, h2.ng g eq, by omega, by omega, ?_, by omega, fun j hj => ?_⟩
  · by_cases z : k.toInt = 3
    · rw [if_pos z, if_pos z]; omega
    · rw [if_neg z, if_neg z]; omega
  · unfold W1
    rw [e2, e3, e4, sti_if, sti_if, sti_if]
    by_cases z : j = n
    · rw [if_pos z, if_pos z, if_pos z]
      exact ⟨hw.1, hw.2.1, hw.2.2.1, fun u => ⟨(hw.2.2.2.1 u).1, (hw.2.2.2.1 u).2.ng g (Nat.le_refl _)⟩, hw.2.2.2.2⟩
    · rw [if_neg z, if_neg z, if_neg z]
      have o := h7 j (by omega)
      exact ⟨o.1, o.2.1, o.2.2.1, fun u => ⟨(o.2.2.2.1 u).1, (o.2.2.2.1 u).2.ng g (Nat.le_refl _)⟩, o.2.2.2.2⟩
theorem s_stat {σ : Sto} {y : Nat} {B p m c : Int} {k w x : Int32} (hB : BM σ) (h : LSt σ y B p m c) (hp : p ≤ 398) (p1 : 0 ≤ k.toInt ∧ k.toInt ≤ 6) (p2 : -1 ≤ w.toInt ∧ w.toInt ≤ 399) (p3 : -1 ≤ x.toInt ∧ x.toInt ≤ 5999)
    (hw : (k.toInt = 0 → 0 ≤ w.toInt ∧ w.toInt ≤ 5) ∧ (k.toInt = 1 → 0 ≤ w.toInt ∧ w.toInt ≤ 7) ∧ (k.toInt = 2 → 0 ≤ w.toInt) ∧ (k.toInt ≠ 6 → 0 ≤ x.toInt ∧ TT σ 60 x.toNatClampNeg) ∧ (k.toInt = 6 → x.toInt = -1)) : OK (f_X12_states k w x σ) (fun s => BM s ∧ FR [42, 43, 44, 47] [] σ s ∧ NGr σ s ∧ LSt s y B (p + 1) m (c + (if k.toInt = 3 then 1 else 0)) ∧ (s.1 47 0).toInt = (σ.1 47 0).toInt + 1 ∧ s.1 42 (σ.1 47 0).toNatClampNeg = k ∧ SGr σ s) := by
  have hs := h.st
  refine ok_imp (s_X12_states (x1 := k) (x2 := w) (x3 := x) hB p1 p2 p3 (by omega)) (fun s q => ?_)
  obtain ⟨b1, b2, b3, b4, b5, b6⟩ := q
  have g : NGr σ s := NGr.fr b2 rfl
  have g47 := gM_47 hB 0
  refine ⟨b1, b2, g, ?_, b3, by rw [b4, sti_s], SGr.mk_ (clamp_I (by omega)) b4 b5 b6 b3⟩
  refine (LSt.more (q := 0) h g (clamp_I (by omega)) b4 b5 b6 b3 (b2.1 49 (by decide)) (b2.1 50 (by decide)) ?_ ?_ hw).up (Int.le_refl _) (Int.le_refl _) (by omega) (Int.le_refl _)
  · rw [b2.1 41 (by decide)]; omega
  · rw [b2.1 48 (by decide)]; omega
theorem s_fresh {σ : Sto} {y : Nat} {B p m c : Int} {x : Int32} (hB : BM σ) (h : LSt σ y B p m c) (hp : p ≤ 398) (hm : m ≤ 5000) (h0 : 0 ≤ x.toInt) (ht : TT σ 60 x.toNatClampNeg) : OK (f_X12_freshX x σ) (fun r => BM r.2 ∧ FR [38, 39, 40, 41, 42, 43, 44, 47, 48] [] σ r.2 ∧ NGr σ r.2 ∧ LSt r.2 y B (p + 1) m c ∧ 0 ≤ r.1.toInt ∧ TT r.2 1 r.1.toNatClampNeg ∧ (r.2.1 38 r.1.toNatClampNeg).toInt = 3 ∧ (r.2.1 47 0).toInt = (σ.1 47 0).toInt + 1 ∧ SGr σ r.2) := by
  have hs := h.st
  have hn := h.2.2.2.1
  have hx := h.2.2.2.2.2.1
  have g41 := gM_41 hB 0
  have g47 := gM_47 hB 0
  have g48 := gM_48 hB 0
  have hl := idx h0 ht.lt
  refine ok_imp (s_X12_freshX (x1 := x) hB ⟨h0, by omega⟩ (by omega) (by omega) (by omega)) (fun r q => ?_)
  obtain ⟨b0, b1, b2, b3, b4, b5, b6, ⟨w, hw, b7⟩, b8, b9, b10, b11, b12⟩ := q
  have c1 := clamp_I (x := σ.1 41 0) (by omega)
  have c2 := clamp_I (x := r.1) (by omega)
  have e : r.1.toNatClampNeg = (σ.1 41 0).toNatClampNeg := by omega
  have g : NGr σ r.2 := NGr.mk_ c1 b8 b7 b9 b4
  have k3 : (3 : Int32).toInt = 3 := by decide +kernel
  have k2 : (2 : Int32).toInt = 2 := by decide +kernel
  have k1 : (r.2.1 38 r.1.toNatClampNeg).toInt = 3 := by rw [b8, e, sti_s]; exact k3
  refine ⟨b1, b2, g, ?_, by omega, ?_, k1, b5, SGr.mk_ (clamp_I (by omega)) b10 b11 b12 b5⟩
  · refine (LSt.more (q := 1) h g (clamp_I (by omega)) b10 b11 b12 b5 (b2.1 49 (by decide)) (b2.1 50 (by decide)) (by omega) (by omega) ?_).up (Int.le_refl _) (Int.le_refl _) (by omega) (by rw [k2]; simp)
    rw [k2]
    exact ⟨fun z => by omega, fun z => by omega, fun _ => by omega, fun _ => ⟨h0, ht⟩, fun z => by omega⟩
  · show TZ _ _ _ _ (0 + 1) 1 _
    rw [TZ.s]
    refine ⟨by omega, by omega, Or.inl ⟨by omega, ?_⟩⟩
    have : (r.2.1 39 r.1.toNatClampNeg).toInt = w.toInt := by rw [b7, e, sti_s]
    unfold LFB
    rw [k1, this]
    exact ⟨fun z => by omega, fun z => by omega, fun z => by omega, fun _ => by omega⟩
theorem sp3 {σ : Sto} {e : Nat} (h : (σ.1 38 e).toInt = 3) : spI σ e = 0 := by unfold spI; rw [if_neg (by omega)]
theorem PH.put {σ s : Sto} {y k : Nat} {v : Int32} (hk : k < y) (e : s.1 49 = (sti σ 49 k v).1 49) (e38 : s.1 38 = σ.1 38) : PH s y = PH σ y - spI σ (ly σ k) + spI σ v.toNatClampNeg := by
  have a : PH s y = fb_si (fun j => if j = k then spI σ v.toNatClampNeg else spI σ (ly σ j)) y := fb_si_cong (fun j hj => by
    unfold ly spI
    rw [e, sti_if, e38]
    by_cases q : j = k
    · rw [if_pos q, if_pos q]
    · rw [if_neg q, if_neg q])
  rw [a, fb_si_upd (fun j => spI σ (ly σ j)) _ hk]
  rfl
theorem PS.put {σ s : Sto} {y k : Nat} {v : Int32} (hk : k < y) (e : s.1 49 = (sti σ 49 k v).1 49) (e38 : s.1 38 = σ.1 38) (e39 : s.1 39 = σ.1 39) : PS s y = PS σ y - chI σ k (ly σ k) + chI σ k v.toNatClampNeg := by
  have a : PS s y = fb_si (fun j => if j = k then chI σ k v.toNatClampNeg else chI σ j (ly σ j)) y := fb_si_cong (fun j hj => by
    unfold ly chI
    rw [e, sti_if, e38, e39]
    by_cases q : j = k
    · rw [if_pos q, if_pos q, q]
    · rw [if_neg q, if_neg q])
  rw [a, fb_si_upd (fun j => chI σ j (ly σ j)) _ hk]
  rfl
/-- a place of the stack is another one -/
theorem LSt.put {σ s : Sto} {y k : Nat} {B p m c : Int} {v : Int32} (h : LSt σ y B p m c) (hk : k < y) (e : s = sti σ 49 k v) (hz : ∀ q, TT σ q (ly σ k) → TT σ q v.toNatClampNeg) : LSt s y B (p - spI σ (ly σ k) + spI σ v.toNatClampNeg - 2 * chI σ k (ly σ k) + 2 * chI σ k v.toNatClampNeg) m c := by
  obtain ⟨h1, h2, h3, h4, h5, h6, h7⟩ := h
  have e49 : s.1 49 = (sti σ 49 k v).1 49 := by rw [e]
  have e38 : s.1 38 = σ.1 38 := by rw [e]; rfl
  have e39 : s.1 39 = σ.1 39 := by rw [e]; rfl
  have g : NGr σ s := NGr.of e38 e39 (by rw [e]; rfl) (by rw [e]; rfl)
  have oc : OCt s = OCt σ := by rw [e]; rfl
  have z : (s.1 50 0) = σ.1 50 0 := by rw [e]; rfl
  have z7 : (s.1 47 0) = σ.1 47 0 := by rw [e]; rfl
  have z1 : (s.1 41 0) = σ.1 41 0 := by rw [e]; rfl
  have z8 : (s.1 48 0) = σ.1 48 0 := by rw [e]; rfl
  unfold LSt
  rw [z, z7, z1, z8, oc, PH.put hk e49 e38, PS.put hk e49 e38 e39]
  exact ⟨h1, h2.put hk e49 g (fun q u => (hz q u).ng g (Nat.le_refl _)), by omega, h4, h5, h6, h7.ng g (by rw [e]; rfl) (by rw [e]; rfl) (by rw [e]; rfl) (by rw [e]; rfl)⟩
theorem s_pop {σ : Sto} {y : Nat} {B p m c : Int} (hB : BM σ) (h : LSt σ (y + 1) B p m c) : OK (f_X12_pops_ σ) (fun r => BM r.2 ∧ FR [50] [] σ r.2 ∧ r.1 = σ.1 49 y ∧ 0 ≤ r.1.toInt ∧ ∃ z : Nat, 1 ≤ z ∧ TT r.2 z r.1.toNatClampNeg ∧ LSt r.2 y (B - z) (p - spI r.2 r.1.toNatClampNeg - 2 * chI r.2 y r.1.toNatClampNeg) m c) := by
  obtain ⟨h1, h2, h3, h4, h5, h6, h7⟩ := h
  refine ok_imp (s_X12_pops_ hB (by omega)) (fun r q => ?_)
  obtain ⟨b0, b1, b2, b3, b4⟩ := q
  have g50 := gM_50 b1 0
  have cy := clamp_I (x := r.2.1 50 0) (by omega)
  have ey : (r.2.1 50 0).toNatClampNeg = y := by omega
  rw [ey] at b4
  obtain ⟨z, z1, z2, z3⟩ := h2.pop
  have e : ∀ k : Nat, k ≠ 50 → r.2.1 k = σ.1 k := fun k hk => b2.1 k (by simp; exact hk)
  have g : NGr σ r.2 := NGr.fr b2 rfl
  have zz : ly σ y = r.1.toNatClampNeg := by rw [b4]
  rw [PH_s, PS_s, zz] at h3
  rw [zz] at z2
  have eq : ∀ k, k < y → r.2.1 49 k = σ.1 49 k := fun k _ => by rw [e 49 (by decide)]
  have s1 : spI r.2 r.1.toNatClampNeg = spI σ r.1.toNatClampNeg := sp_ng g z2.lt
  have s2 : chI r.2 y r.1.toNatClampNeg = chI σ y r.1.toNatClampNeg := ch_ng g z2.lt
  refine ⟨b1, b2, b4, by omega, z, z1, z2.ng g (Nat.le_refl _), ?_⟩
  unfold LSt OCt
  rw [e 47 (by decide), e 41 (by decide), e 48 (by decide), e 42 (by decide), PH.ng z3 g eq, PS.ng z3 g eq, s1, s2]
  exact ⟨by omega, z3.ng g eq, by omega, h4, h5, h6, h7.ng g (e 42 (by decide)) (e 43 (by decide)) (e 44 (by decide)) (e 47 (by decide))⟩
theorem s_push {σ : Sto} {y z : Nat} {B p m c : Int} {v : Int32} (hB : BM σ) (h : LSt σ y B p m c) (hy : y ≤ 7) (h0 : 0 ≤ v.toInt) (ht : TT σ z v.toNatClampNeg) : OK (f_X12_lays v σ) (fun s => BM s ∧ FR [49, 50] [] σ s ∧ LSt s (y + 1) (B + z) (p + spI σ v.toNatClampNeg + 2 * chI σ y v.toNatClampNeg) m c) := by
  obtain ⟨h1, h2, h3, h4, h5, h6, h7⟩ := h
  have g41 := gM_41 hB 0
  have hl := idx h0 ht.lt
  refine ok_imp (s_X12_lays (x1 := v) hB ⟨h0, by omega⟩ (by omega)) (fun s q => ?_)
  obtain ⟨b1, b2, b3, b4⟩ := q
  have cy := clamp_I (x := σ.1 50 0) (by omega)
  have ey : (σ.1 50 0).toNatClampNeg = y := by omega
  rw [ey] at b4
  have g : NGr σ s := NGr.fr b2 rfl
  have e : ∀ k : Nat, k ≠ 50 → k ≠ 49 → s.1 k = σ.1 k := fun k hk hk2 => b2.1 k (by simp; exact ⟨hk2, hk⟩)
  have eq : ∀ k, k < y → s.1 49 k = σ.1 49 k := fun k hk => by rw [b4, sti_j (by omega)]
  have lv : ly s y = v.toNatClampNeg := by unfold ly; rw [b4, sti_s]
  refine ⟨b1, b2, ?_⟩
  unfold LSt OCt
  rw [e 47 (by decide) (by decide), e 41 (by decide) (by decide), e 48 (by decide) (by decide), e 42 (by decide) (by decide), PH_s, PS_s, PH.ng h2 g eq, PS.ng h2 g eq, lv, sp_ng g ht.lt, ch_ng g ht.lt]
  exact ⟨by omega, h2.push b4 g (ht.ng g (Nat.le_refl _)), by omega, h4, h5, h6, h7.ng g (e 42 (by decide) (by decide)) (e 43 (by decide) (by decide)) (e 44 (by decide) (by decide)) (e 47 (by decide) (by decide))⟩
