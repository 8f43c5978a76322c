/-- graphs: edges that are no jumps are kept -/
abbrev gA (V : EVt) (e : Nat) : Nat := (V.2.1 e).toNat
abbrev gB (V : EVt) (e : Nat) : Nat := (V.2.2.1 e).toNat
def KG (V : EVt) (J : Nat → Bool) (e : Nat) : Prop := e < V.1 ∧ J e = false
/-- come to without one -/
def RG (V : EVt) (J : Nat → Bool) (d b : Nat) : Prop := ∀ P : Nat → Prop, P 0 → (∀ e, KG V J e → P (gA V e) → gB V e ≠ d → P (gB V e)) → P b
def AG (V : EVt) (J : Nat → Bool) (b : Nat) : Prop := ∀ P : Nat → Prop, P 0 → (∀ e, KG V J e → P (gA V e) → P (gB V e)) → P b
/-- dominates -/
def DG (V : EVt) (J : Nat → Bool) (d b : Nat) : Prop := d = 0 ∨ ¬ RG V J d b
/-- kept, and not back -/
def FG (V : EVt) (J : Nat → Bool) (e : Nat) : Prop := KG V J e ∧ ¬ DG V J (gB V e) (gA V e)
def GG (V : EVt) (J : Nat → Bool) (nb : Nat) : Prop := (∀ b, b < nb → AG V J b) ∧ ∃ r : Nat → Nat, ∀ e, FG V J e → r (gA V e) < r (gB V e)
section
variable {V : EVt} {J J2 : Nat → Bool}
theorem RG.zero {d : Nat} : RG V J d 0 := fun _ p _ => p
theorem RG.st {d e : Nat} (h : RG V J d (gA V e)) (he : KG V J e) (hd : gB V e ≠ d) : RG V J d (gB V e) := fun P p1 p2 => p2 e he (h P p1 p2) hd
theorem AG.zero : AG V J 0 := fun _ p _ => p
theorem AG.st {e : Nat} (h : AG V J (gA V e)) (he : KG V J e) : AG V J (gB V e) := fun P p1 p2 => p2 e he (h P p1 p2)
theorem KG.mono (h : ∀ e, J e = true → J2 e = true) {e : Nat} (k : KG V J2 e) : KG V J e := ⟨k.1, by
  cases c : J e with
  | false => rfl
  | true => have k2 := k.2; rw [h e c] at k2; exact absurd k2 (by decide)⟩
theorem RG.mono (h : ∀ e, J e = true → J2 e = true) {d b : Nat} (k : RG V J2 d b) : RG V J d b := fun P p1 p2 => k P p1 (fun e he ha hd => p2 e (KG.mono h he) ha hd)
theorem AG.mono (h : ∀ e, J e = true → J2 e = true) {b : Nat} (k : AG V J2 b) : AG V J b := fun P p1 p2 => k P p1 (fun e he ha => p2 e (KG.mono h he) ha)
theorem DG.mono (h : ∀ e, J e = true → J2 e = true) {d b : Nat} (k : DG V J d b) : DG V J2 d b := k.imp_right (fun n z => n (RG.mono h z))
theorem AG.rg {nb b : Nat} (hr : ∀ e, e < V.1 → gB V e < nb) : AG V J b ↔ RG V J nb b := by
  constructor
  · exact fun h P p1 p2 => h P p1 (fun e he ha => p2 e he ha (Nat.ne_of_lt (hr e he.1)))
  · exact fun h P p1 p2 => h P p1 (fun e he ha _ => p2 e he ha)
/-- one more jump -/
def sJ (J : Nat → Bool) (e : Nat) : Nat → Bool := fun i => J i || decide (i = e)
theorem sJ_le {e : Nat} : ∀ i, J i = true → sJ J e i = true := fun i h => by unfold sJ; rw [h]; rfl
theorem sJ_kg {e i : Nat} : KG V (sJ J e) i ↔ KG V J i ∧ i ≠ e := by
  unfold KG sJ
  rw [Bool.or_eq_false_iff, decide_eq_false_iff_not]
  exact ⟨fun h => ⟨⟨h.1, h.2.1⟩, h.2.2⟩, fun h => ⟨h.1.1, h.1.2, h.2⟩⟩
/-- a back edge more or less: all is come to as before -/
theorem back_rg {e d b : Nat} (hb : DG V J (gB V e) (gA V e)) (h : RG V J d b) : RG V (sJ J e) d b := by
  refine h (fun x => RG V (sJ J e) d x) RG.zero (fun i hi ha hd => ?_)
  by_cases q : i = e
  · subst q
    rcases hb with z | z
    · rw [z]; exact RG.zero
    refine Classical.byContradiction fun n => z ?_
    have key : RG V (sJ J i) d (gA V i) ∧ RG V (sJ J i) (gB V i) (gA V i) := ha (fun x => RG V (sJ J i) d x ∧ RG V (sJ J i) (gB V i) x) ⟨RG.zero, RG.zero⟩ (fun k hk hp hq => by
      have s1 := hp.1.st hk hq
      refine ⟨s1, hp.2.st hk (fun y => n ?_)⟩
      rw [← y]; exact s1)
    exact RG.mono sJ_le key.2
  · exact ha.st (sJ_kg.mpr ⟨hi, q⟩) hd
theorem back_dg {e d b : Nat} (hb : DG V J (gB V e) (gA V e)) : DG V (sJ J e) d b ↔ DG V J d b := by
  constructor
  · exact fun h => h.imp_right (fun n z => n (back_rg hb z))
  · exact DG.mono sJ_le
theorem back_fg {e i : Nat} (hb : DG V J (gB V e) (gA V e)) : FG V (sJ J e) i ↔ FG V J i := by
  unfold FG
  rw [back_dg hb, sJ_kg]
  constructor
  · exact fun h => ⟨h.1.1, h.2⟩
  · exact fun h => ⟨⟨h.1, fun z => h.2 (by rw [z]; exact hb)⟩, h.2⟩
theorem back_gg {e nb : Nat} (hr : ∀ e, e < V.1 → gB V e < nb) (hb : DG V J (gB V e) (gA V e)) : GG V (sJ J e) nb ↔ GG V J nb := by
  unfold GG
  constructor
  · rintro ⟨h1, r, h2⟩
    exact ⟨fun b hb2 => AG.mono sJ_le (h1 b hb2), r, fun i hi => h2 i ((back_fg hb).mpr hi)⟩
  · rintro ⟨h1, r, h2⟩
    exact ⟨fun b hb2 => (AG.rg hr).mpr (back_rg hb ((AG.rg hr).mp (h1 b hb2))), r, fun i hi => h2 i ((back_fg hb).mp hi)⟩
/-- what is back without itself is back -/
theorem back_in {e : Nat} (hb : DG V (sJ J e) (gB V e) (gA V e)) : DG V J (gB V e) (gA V e) := by
  refine hb.imp_right (fun n h => n ?_)
  exact h (fun x => RG V (sJ J e) (gB V e) x) RG.zero (fun i hi ha hd => ha.st (sJ_kg.mpr ⟨hi, fun z => hd (by rw [z])⟩) hd)
/-- the only edge to a block is no jump -/
theorem only_gg {e nb : Nat} (h0 : gB V e ≠ 0) (hn : gB V e < nb) (ho : ∀ i, KG V J i → gB V i = gB V e → i = e) (hle : ∀ i, J i = true → J2 i = true) (he : J2 e = true) : ¬ GG V J2 nb := fun h => by
  refine h.1 _ hn (fun x => x ≠ gB V e) (fun z => h0 z.symm) (fun i hi _ z => ?_) rfl
  have q := ho i (KG.mono hle hi) z
  rw [q] at hi
  rw [hi.2] at he
  exact absurd he (by decide)
theorem GG.cg {W : EVt} {nb : Nat} (hV : AGV V W) (hJ : ∀ e, e < V.1 → J e = J2 e) : GG V J nb ↔ GG W J2 nb := by
  have k : ∀ e, KG V J e ↔ KG W J2 e := fun e => by
    unfold KG
    rw [← hV.1]
    exact ⟨fun h => ⟨h.1, by rw [← hJ e h.1]; exact h.2⟩, fun h => ⟨h.1, by rw [hJ e h.1]; exact h.2⟩⟩
  have a : ∀ e, e < V.1 → gA V e = gA W e ∧ gB V e = gB W e := fun e he => by
    have q := hV.2 e he
    exact ⟨by show (V.2.1 e).toNat = (W.2.1 e).toNat; rw [q.1], by show (V.2.2.1 e).toNat = (W.2.2.1 e).toNat; rw [q.2.1]⟩
  have r : ∀ d b, RG V J d b ↔ RG W J2 d b := fun d b => by
    constructor
    · intro h P p1 p2
      exact h P p1 (fun e he ha hd => by
        have q := a e he.1
        rw [q.2] at hd ⊢
        rw [q.1] at ha
        exact p2 e ((k e).mp he) ha hd)
    · intro h P p1 p2
      exact h P p1 (fun e he ha hd => by
        have he2 := (k e).mpr he
        have q := a e he2.1
        rw [← q.2] at hd ⊢
        rw [← q.1] at ha
        exact p2 e he2 ha hd)
  have g : ∀ b, AG V J b ↔ AG W J2 b := fun b => by
    constructor
    · intro h P p1 p2
      exact h P p1 (fun e he ha => by
        have q := a e he.1
        rw [q.2]
        rw [q.1] at ha
        exact p2 e ((k e).mp he) ha)
    · intro h P p1 p2
      exact h P p1 (fun e he ha => by
        have he2 := (k e).mpr he
        have q := a e he2.1
        rw [← q.2]
        rw [← q.1] at ha
        exact p2 e he2 ha)
  have f : ∀ e, FG V J e ↔ FG W J2 e := fun e => by
    unfold FG DG
    rw [k e]
    constructor
    · intro h
      have q := a e ((k e).mpr h.1).1
      rw [← q.1, ← q.2, ← r]
      exact h
    · intro h
      have q := a e ((k e).mpr h.1).1
      rw [q.1, q.2, r]
      exact h
  unfold GG
  constructor
  · rintro ⟨h1, t, h2⟩
    refine ⟨fun b hb => (g b).mp (h1 b hb), t, fun e he => ?_⟩
    have he2 := (f e).mpr he
    have q := a e he2.1.1
    rw [← q.1, ← q.2]
    exact h2 e he2
  · rintro ⟨h1, t, h2⟩
    refine ⟨fun b hb => (g b).mpr (h1 b hb), t, fun e he => ?_⟩
    have q := a e he.1.1
    rw [q.1, q.2]
    exact h2 e ((f e).mp he)
end
/-- no jumps; one; two -/
def J0f : Nat → Bool := fun _ => false
/-- what is found: how many jumps, and which (k: how many, -1 none that do) -/
def JRS (V : EVt) (nb : Nat) (J : Nat → Bool) (k : Int) : Prop :=
  (k = 0 ∧ GG V J0f nb ∧ ∀ e, e < V.1 → J e = false) ∨
  (¬ GG V J0f nb ∧ ∃ a, k = 1 ∧ a < V.1 ∧ V.2.2.2 a = false ∧ GG V (sJ J0f a) nb ∧ (∀ e, e < a → V.2.2.2 e = false → ¬ GG V (sJ J0f e) nb) ∧ ∀ e, e < V.1 → J e = decide (e = a)) ∨
  (¬ GG V J0f nb ∧ (∀ e, e < V.1 → V.2.2.2 e = false → ¬ GG V (sJ J0f e) nb) ∧ ∃ a b, k = 2 ∧ a < b ∧ b < V.1 ∧ V.2.2.2 a = false ∧ V.2.2.2 b = false ∧ GG V (sJ (sJ J0f a) b) nb ∧ (∀ c d, c < a → c < d → d < V.1 → V.2.2.2 c = false → V.2.2.2 d = false → ¬ GG V (sJ (sJ J0f c) d) nb) ∧ (∀ d, a < d → d < b → V.2.2.2 d = false → ¬ GG V (sJ (sJ J0f a) d) nb) ∧ ∀ e, e < V.1 → J e = (decide (e = a) || decide (e = b))) ∨
  (¬ GG V J0f nb ∧ (∀ e, e < V.1 → V.2.2.2 e = false → ¬ GG V (sJ J0f e) nb) ∧ (∀ c d, c < d → d < V.1 → V.2.2.2 c = false → V.2.2.2 d = false → ¬ GG V (sJ (sJ J0f c) d) nb) ∧ k = -1 ∧ ∀ e, e < V.1 → J e = false)
theorem JRS.uq {V : EVt} {nb : Nat} {J J2 : Nat → Bool} {k k2 : Int} (h : JRS V nb J k) (g : JRS V nb J2 k2) : k = k2 ∧ ∀ e, e < V.1 → J e = J2 e := by
  rcases h with ⟨h1, h2, h3⟩ | ⟨h0, a, h1, h2, h3, h4, h5, h6⟩ | ⟨h0, h0b, a, b, h1, h2, h3, h4, h5, h6, h7, h8, h9⟩ | ⟨h0, h1, h2, h3, h4⟩
  · rcases g with ⟨g1, g2, g3⟩ | ⟨g0, _⟩ | ⟨g0, _⟩ | ⟨g0, _⟩
    · exact ⟨by omega, fun e he => by rw [h3 e he, g3 e he]⟩
    · exact absurd h2 g0
    · exact absurd h2 g0
    · exact absurd h2 g0
  · rcases g with ⟨g1, g2, g3⟩ | ⟨g0, a2, g1, g2, g3, g4, g5, g6⟩ | ⟨g0, g0b, _⟩ | ⟨g0, g1, _⟩
    · exact absurd g2 h0
    · have e1 : ¬ a < a2 := fun z => g5 a z h3 h4
      have e2 : ¬ a2 < a := fun z => h5 a2 z g3 g4
      have e3 : a = a2 := by omega
      exact ⟨by omega, fun e he => by rw [h6 e he, g6 e he, e3]⟩
    · exact absurd h4 (g0b a h2 h3)
    · exact absurd h4 (g1 a h2 h3)
  · rcases g with ⟨g1, g2, g3⟩ | ⟨g0, a2, g1, g2, g3, g4, g5, g6⟩ | ⟨g0, g0b, a2, b2, g1, g2, g3, g4, g5, g6, g7, g8, g9⟩ | ⟨g0, g1, g2, _⟩
    · exact absurd g2 h0
    · exact absurd g4 (h0b a2 g2 g3)
    · have e1 : ¬ a < a2 := fun z => g7 a b z h2 h3 h4 h5 h6
      have e2 : ¬ a2 < a := fun z => h7 a2 b2 z g2 g3 g4 g5 g6
      have e3 : a = a2 := by omega
      subst e3
      have e4 : ¬ b < b2 := fun z => g8 b h2 z h5 h6
      have e5 : ¬ b2 < b := fun z => h8 b2 g2 z g5 g6
      have e6 : b = b2 := by omega
      exact ⟨by omega, fun e he => by rw [h9 e he, g9 e he, e6]⟩
    · exact absurd h6 (g2 a b h2 h3 h4 h5)
  · rcases g with ⟨g1, g2, g3⟩ | ⟨g0, a2, g1, g2, g3, g4, g5, g6⟩ | ⟨g0, g0b, a2, b2, g1, g2, g3, g4, g5, g6, g7, g8, g9⟩ | ⟨g0, g1, g2, g3, g4⟩
    · exact absurd g2 h0
    · exact absurd g4 (h1 a2 g2 g3)
    · exact absurd g6 (h2 a2 b2 g2 g3 g4 g5)
    · exact ⟨by omega, fun e he => by rw [h4 e he, g4 e he]⟩
/-- jumps are never back -/
theorem JRS.nb {V : EVt} {nb : Nat} {J : Nat → Bool} {k : Int} (hr : ∀ e, e < V.1 → gB V e < nb) (h : JRS V nb J k) {e : Nat} (he : e < V.1) (hj : J e = true) : ¬ DG V J (gB V e) (gA V e) := by
  intro hd
  have cgD : ∀ {J2 : Nat → Bool}, (∀ i, i < V.1 → J i = J2 i) → DG V J2 (gB V e) (gA V e) := fun {J2} hJ => hd.imp_right (fun n z => n (fun P p1 p2 => z P p1 (fun i hi ha hb => p2 i ⟨hi.1, by rw [hJ i hi.1]; exact hi.2⟩ ha hb)))
  rcases h with ⟨h1, h2, h3⟩ | ⟨h0, a, h1, h2, h3, h4, h5, h6⟩ | ⟨h0, h0b, a, b, h1, h2, h3, h4, h5, h6, h7, h8, h9⟩ | ⟨h0, h1, h2, h3, h4⟩
  · rw [h3 e he] at hj; exact absurd hj (by decide)
  · have ea : e = a := by rw [h6 e he] at hj; exact of_decide_eq_true hj
    subst ea
    have q := cgD (J2 := sJ J0f e) (fun i hi => by rw [h6 i hi]; unfold sJ J0f; rfl)
    exact h0 ((back_gg hr (back_in q)).mp h4)
  · have sw : ∀ {x y : Nat}, GG V (sJ (sJ J0f x) y) nb ↔ GG V (sJ (sJ J0f y) x) nb := fun {x y} => GG.cg ⟨rfl, fun _ _ => ⟨rfl, rfl, rfl⟩⟩ (fun i _ => by unfold sJ J0f; cases decide (i = x) <;> cases decide (i = y) <;> rfl)
    have eq : e = a ∨ e = b := by
      rw [h9 e he, Bool.or_eq_true, decide_eq_true_eq, decide_eq_true_eq] at hj
      exact hj
    rcases eq with z | z
    · subst z
      have q := cgD (J2 := sJ (sJ J0f b) e) (fun i hi => by rw [h9 i hi]; unfold sJ J0f; cases decide (i = e) <;> cases decide (i = b) <;> rfl)
      exact h0b b h3 h5 ((back_gg hr (back_in q)).mp (sw.mp h6))
    · subst z
      have q := cgD (J2 := sJ (sJ J0f a) e) (fun i hi => by rw [h9 i hi]; unfold sJ J0f; rfl)
      exact h0b a (by omega) h4 ((back_gg hr (back_in q)).mp h6)
  · rw [h4 e he] at hj; exact absurd hj (by decide)
/-- edges that may not be tried -/
def NCD (V : EVt) (e : Nat) : Prop := DG V J0f (gB V e) (gA V e) ∨ (gB V e ≠ 0 ∧ ∀ i, i < V.1 → gB V i = gB V e → i = e)
theorem NCD.one {V : EVt} {nb e : Nat} (hr : ∀ e, e < V.1 → gB V e < nb) (he : e < V.1) (h : NCD V e) (h0 : ¬ GG V J0f nb) : ¬ GG V (sJ J0f e) nb := by
  rcases h with h | ⟨h1, h2⟩
  · exact fun z => h0 ((back_gg hr h).mp z)
  · exact only_gg (J := J0f) h1 (hr e he) (fun i hi hq => h2 i hi.1 hq) sJ_le (by unfold sJ; rw [decide_eq_true rfl, Bool.or_true])
theorem NCD.two {V : EVt} {nb c d : Nat} (hr : ∀ e, e < V.1 → gB V e < nb) (hc : c < V.1) (hd : d < V.1) (h : NCD V c ∨ NCD V d) (hg : ¬ GG V (sJ J0f c) nb) (hg2 : ¬ GG V (sJ J0f d) nb) : ¬ GG V (sJ (sJ J0f c) d) nb := by
  have sw : GG V (sJ (sJ J0f c) d) nb ↔ GG V (sJ (sJ J0f d) c) nb := GG.cg ⟨rfl, fun _ _ => ⟨rfl, rfl, rfl⟩⟩ (fun i _ => by unfold sJ J0f; cases decide (i = c) <;> cases decide (i = d) <;> rfl)
  rcases h with h | h
  · rcases h with h | ⟨h1, h2⟩
    · exact fun z => hg2 ((back_gg hr (DG.mono sJ_le h)).mp (sw.mp z))
    · exact only_gg (J := J0f) h1 (hr c hc) (fun i hi hq => h2 i hi.1 hq) (fun i hi => sJ_le i (sJ_le i hi)) (by unfold sJ; rw [decide_eq_true (rfl : c = c), Bool.or_true]; rfl)
  · rcases h with h | ⟨h1, h2⟩
    · exact fun z => hg ((back_gg hr (DG.mono sJ_le h)).mp z)
    · exact only_gg (J := J0f) h1 (hr d hd) (fun i hi hq => h2 i hi.1 hq) (fun i hi => sJ_le i (sJ_le i hi)) (by unfold sJ; rw [decide_eq_true (rfl : d = d), Bool.or_true])
