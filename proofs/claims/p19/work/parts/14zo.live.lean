/-- bits of one within another's -/
def SBt (x y : Int32) : Prop := ∀ i, i < 32 → bI x i = true → bI y i = true
theorem SBt.rf {x : Int32} : SBt x x := fun _ _ h => h
theorem SBt.tr {x y z : Int32} (h : SBt x y) (g : SBt y z) : SBt x z := fun i hi k => g i hi (h i hi k)
theorem SBt.of {x y : Int32} (h : x = y) : SBt x y := h ▸ SBt.rf
theorem SBt.an {x y : Int32} (h : SBt x y) (g : SBt y x) : x = y := bI_eq (fun i hi => by
  have h1 := h i hi
  have g1 := g i hi
  revert h1 g1
  cases bI x i <;> cases bI y i <;> intro h1 g1
  · rfl
  · exact absurd (g1 rfl) (by decide)
  · exact absurd (h1 rfl) (by decide)
  · rfl)
theorem SBt.or {x y x2 y2 : Int32} (a : SBt x x2) (b : SBt y y2) : SBt (x ||| y) (x2 ||| y2) := fun i hi h => by
  rw [bI_or, Bool.or_eq_true] at h
  rw [bI_or, Bool.or_eq_true]
  exact h.imp (a i hi) (b i hi)
theorem SBt.z {y : Int32} : SBt 0 y := fun i _ h => by rw [bI_0] at h; exact absurd h (by decide)
theorem or_z {x : Int32} : x ||| 0 = x := bI_eq (fun i _ => by rw [bI_or, bI_0, Bool.or_false])
def mkI (n : Int32) : Int32 := (1 : Int32) <<< (n &&& 31)
/-- over one instruction, from behind -/
def stF (g : Int) (n held S : Int32) : Int32 := if g = 115 then (S &&& (mkI n ^^^ (-1))) ||| held else if g = 108 then S ||| mkI n else S
theorem stF_mono {g : Int} {n h h2 S S2 : Int32} (a : SBt h h2) (b : SBt S S2) : SBt (stF g n h S) (stF g n h2 S2) := by
  unfold stF
  by_cases c : g = 115
  · rw [if_pos c, if_pos c]
    refine SBt.or (fun i hi k => ?_) a
    rw [bI_an _ _ hi, Bool.and_eq_true] at k
    rw [bI_an _ _ hi, Bool.and_eq_true]
    exact ⟨b i hi k.1, k.2⟩
  · rw [if_neg c, if_neg c]
    by_cases c2 : g = 108
    · rw [if_pos c2, if_pos c2]; exact SBt.or b SBt.rf
    · rw [if_neg c2, if_neg c2]; exact b
def goF (sg : Nat → Int) (nv : Nat → Int32) (held : Int32) (l : Nat) : Nat → Int32 → Int32
  | 0, S => S
  | m + 1, S => stF (sg (l - m)) (nv (l - m)) held (goF sg nv held l m S)
theorem goF_s {sg : Nat → Int} {nv : Nat → Int32} {held : Int32} {l m : Nat} {S : Int32} : goF sg nv held l (m + 1) S = stF (sg (l - m)) (nv (l - m)) held (goF sg nv held l m S) := rfl
theorem goF_mono {sg : Nat → Int} {nv : Nat → Int32} {h h2 : Int32} {l : Nat} (a : SBt h h2) : ∀ (m : Nat) {S S2 : Int32}, SBt S S2 → SBt (goF sg nv h l m S) (goF sg nv h2 l m S2)
  | 0, _, _, b => b
  | m + 1, _, _, b => stF_mono a (goF_mono a m b)
theorem goF_cg {sg sg2 : Nat → Int} {nv nv2 : Nat → Int32} {h : Int32} {l : Nat} {S : Int32} : ∀ (m : Nat), (∀ k, k < m → sg (l - k) = sg2 (l - k) ∧ nv (l - k) = nv2 (l - k)) → goF sg nv h l m S = goF sg2 nv2 h l m S
  | 0, _ => rfl
  | m + 1, e => by
    rw [goF_s, goF_s, goF_cg m (fun k hk => e k (by omega)), (e m (by omega)).1, (e m (by omega)).2]
/-- behind a block -/
def bhF (V : EVt) (L : Nat → Int32) (b : Nat) : Nat → Int32
  | 0 => 0
  | k + 1 => bhF V L b k ||| (if V.2.1 k = (b : Int) then L (V.2.2.1 k).toNat else 0)
theorem bhF_s {V : EVt} {L : Nat → Int32} {b k : Nat} : bhF V L b (k + 1) = bhF V L b k ||| (if V.2.1 k = (b : Int) then L (V.2.2.1 k).toNat else 0) := rfl
theorem bhF_no {V : EVt} {L : Nat → Int32} {b n : Nat} : ∀ m, (∀ k, n ≤ k → k < n + m → V.2.1 k ≠ (b : Int)) → bhF V L b (n + m) = bhF V L b n
  | 0, _ => rfl
  | m + 1, h => by
    have e : n + (m + 1) = (n + m) + 1 := by omega
    rw [e, bhF_s, if_neg (h (n + m) (by omega) (by omega)), or_z]
    exact bhF_no m (fun k h1 h2 => h k h1 (by omega))
theorem bhF_mono {V : EVt} {L M : Nat → Int32} {b : Nat} : ∀ n, (∀ k, k < n → SBt (L (V.2.2.1 k).toNat) (M (V.2.2.1 k).toNat)) → SBt (bhF V L b n) (bhF V M b n)
  | 0, _ => SBt.rf
  | n + 1, h => by
    rw [bhF_s, bhF_s]
    refine SBt.or (bhF_mono n (fun k hk => h k (by omega))) ?_
    by_cases c : V.2.1 n = (b : Int)
    · rw [if_pos c, if_pos c]; exact h n (by omega)
    · rw [if_neg c, if_neg c]; exact SBt.rf
theorem bhF_cg {V W : EVt} {L M : Nat → Int32} {b : Nat} : ∀ n, (∀ k, k < n → V.2.1 k = W.2.1 k ∧ V.2.2.1 k = W.2.2.1 k ∧ L (W.2.2.1 k).toNat = M (W.2.2.1 k).toNat) → bhF V L b n = bhF W M b n
  | 0, _ => rfl
  | n + 1, h => by
    obtain ⟨h1, h2, h3⟩ := h n (by omega)
    rw [bhF_s, bhF_s, bhF_cg n (fun k hk => h k (by omega)), h1, h2, h3]
/-- what a block's handler needs -/
def hdF (ca : Nat → Int) (L : Nat → Int32) (b : Nat) : Int32 := if ca b = -1 then 0 else L (ca b).toNat
/-- ahead of a block -/
def lvF (V : EVt) (sg : Nat → Int) (nv : Nat → Int32) (fi la : Nat → Nat) (ca : Nat → Int) (L : Nat → Int32) (b : Nat) : Int32 := goF sg nv (hdF ca L b) (la b) (la b + 1 - fi b) (bhF V L b V.1) ||| hdF ca L b
/-- a store that nobody needs -/
def LVD (V : EVt) (sg : Nat → Int) (nv : Nat → Int32) (la : Nat → Nat) (ca : Nat → Int) (L : Nat → Int32) (b i : Nat) : Prop := sg i = 115 ∧ goF sg nv (hdF ca L b) (la b) (la b - i) (bhF V L b V.1) &&& mkI (nv i) = 0
def RGL (V : EVt) (ca : Nat → Int) (nb : Nat) : Prop := (∀ e, e < V.1 → (V.2.2.1 e).toNat < nb) ∧ ∀ b, b < nb → (ca b = -1 ∨ (ca b).toNat < nb)
section
variable {V : EVt} {sg : Nat → Int} {nv : Nat → Int32} {fi la : Nat → Nat} {ca : Nat → Int} {nb : Nat}
theorem hdF_mono (hr : RGL V ca nb) {L M : Nat → Int32} {b : Nat} (hb : b < nb) (h : ∀ c, c < nb → SBt (L c) (M c)) : SBt (hdF ca L b) (hdF ca M b) := by
  unfold hdF
  by_cases c : ca b = -1
  · rw [if_pos c, if_pos c]; exact SBt.rf
  · rw [if_neg c, if_neg c]; exact h _ ((hr.2 b hb).resolve_left c)
theorem lvF_mono (hr : RGL V ca nb) {L M : Nat → Int32} {b : Nat} (hb : b < nb) (h : ∀ c, c < nb → SBt (L c) (M c)) : SBt (lvF V sg nv fi la ca L b) (lvF V sg nv fi la ca M b) := by
  have a := hdF_mono hr hb h
  exact SBt.or (goF_mono a _ (bhF_mono V.1 (fun k hk => h _ (hr.1 k hk)))) a
/-- what stays, and is within all that stay -/
def LFX (V : EVt) (sg : Nat → Int) (nv : Nat → Int32) (fi la : Nat → Nat) (ca : Nat → Int) (nb : Nat) (L : Nat → Int32) : Prop := (∀ b, b < nb → lvF V sg nv fi la ca L b = L b) ∧ ∀ M : Nat → Int32, (∀ b, b < nb → SBt (lvF V sg nv fi la ca M b) (M b)) → ∀ b, b < nb → SBt (L b) (M b)
theorem LFX.uq {L M : Nat → Int32} (h : LFX V sg nv fi la ca nb L) (g : LFX V sg nv fi la ca nb M) : ∀ b, b < nb → L b = M b := fun b hb => SBt.an (h.2 M (fun c hc => SBt.of (g.1 c hc)) b hb) (g.2 L (fun c hc => SBt.of (h.1 c hc)) b hb)
/-- on the way there -/
def LIN (V : EVt) (sg : Nat → Int) (nv : Nat → Int32) (fi la : Nat → Nat) (ca : Nat → Int) (nb : Nat) (L : Nat → Int32) : Prop := (∀ b, b < nb → SBt (L b) (lvF V sg nv fi la ca L b)) ∧ ∀ M : Nat → Int32, (∀ b, b < nb → SBt (lvF V sg nv fi la ca M b) (M b)) → ∀ b, b < nb → SBt (L b) (M b)
theorem LIN.z {L : Nat → Int32} (h : ∀ b, b < nb → L b = 0) : LIN V sg nv fi la ca nb L := ⟨fun b hb => by rw [h b hb]; exact SBt.z, fun M _ b hb => by rw [h b hb]; exact SBt.z⟩
theorem LIN.gr {L M : Nat → Int32} {b : Nat} (h : LIN V sg nv fi la ca nb L) (e1 : M b = lvF V sg nv fi la ca L b) (e2 : ∀ c, c ≠ b → M c = L c) : ∀ c, c < nb → SBt (L c) (M c) := fun c hc => by
  by_cases q : c = b
  · rw [q, e1]; exact h.1 b (q ▸ hc)
  · rw [e2 c q]; exact SBt.rf
theorem LIN.st {L M : Nat → Int32} {b : Nat} (hr : RGL V ca nb) (h : LIN V sg nv fi la ca nb L) (hb : b < nb) (e1 : M b = lvF V sg nv fi la ca L b) (e2 : ∀ c, c ≠ b → M c = L c) : LIN V sg nv fi la ca nb M := by
  have g := h.gr e1 e2
  refine ⟨fun c hc => ?_, fun N hN c hc => ?_⟩
  · by_cases q : c = b
    · subst q
      rw [e1]; exact lvF_mono hr hc g
    · rw [e2 c q]; exact (h.1 c hc).tr (lvF_mono hr hc g)
  · by_cases q : c = b
    · subst q
      rw [e1]; exact (lvF_mono hr hc (h.2 N hN)).tr (hN c hc)
    · rw [e2 c q]; exact h.2 N hN c hc
end
def sF (f : Nat → Nat) : Nat → Nat
  | 0 => 0
  | n + 1 => sF f n + f n
theorem sF_le {f g : Nat → Nat} : ∀ n, (∀ k, k < n → f k ≤ g k) → sF f n ≤ sF g n
  | 0, _ => Nat.le_refl 0
  | n + 1, h => Nat.add_le_add (sF_le n (fun k hk => h k (by omega))) (h n (by omega))
theorem sF_lt {f g : Nat → Nat} {b : Nat} : ∀ n, (∀ k, k < n → f k ≤ g k) → b < n → f b + 1 ≤ g b → sF f n + 1 ≤ sF g n
  | 0, _, hb, _ => absurd hb (Nat.not_lt_zero _)
  | n + 1, h, hb, hl => by
    show sF f n + f n + 1 ≤ sF g n + g n
    have a := h n (by omega)
    by_cases q : b = n
    · subst q
      have := sF_le (f := f) (g := g) b (fun k hk => h k (by omega))
      omega
    · have := sF_lt (f := f) (g := g) n (fun k hk => h k (by omega)) (show b < n by omega) hl
      omega
theorem sF_bd {f : Nat → Nat} : ∀ n, (∀ k, k < n → f k ≤ 32) → sF f n ≤ 32 * n
  | 0, _ => Nat.le_refl 0
  | n + 1, h => by
    show sF f n + f n ≤ 32 * (n + 1)
    have a := h n (by omega)
    have := sF_bd (f := f) n (fun k hk => h k (by omega))
    omega
def LSF (nb : Nat) (L : Nat → Int32) : Nat := sF (fun b => fb_ct (bI (L b)) 32) nb
theorem LSF_le {nb : Nat} {L M : Nat → Int32} (h : ∀ c, c < nb → SBt (L c) (M c)) : LSF nb L ≤ LSF nb M := sF_le nb (fun k hk => fb_ct_sub (h k hk))
theorem LSF_lt {nb b : Nat} {L M : Nat → Int32} (h : ∀ c, c < nb → SBt (L c) (M c)) (hb : b < nb) (hn : M b ≠ L b) : LSF nb L + 1 ≤ LSF nb M := by
  refine sF_lt (b := b) nb (fun k hk => fb_ct_sub (h k hk)) hb (fb_ct_lt (h b hb) (Classical.byContradiction fun z => hn (SBt.an (fun i hi k => ?_) (h b hb))))
  cases c : bI (L b) i
  · exact absurd ⟨i, hi, k, c⟩ z
  · rfl
theorem LSF_bd {nb : Nat} {L : Nat → Int32} : LSF nb L ≤ 32 * nb := sF_bd nb (fun k _ => fb_ct_le _ _)
/-- a store that nobody needs is seen on the way -/
theorem ddn {Z Y A : Nat → Prop} {j j2 : Int} {la jN : Nat} (h : ∀ i : Nat, A i ↔ (Y i ∨ (j < (i : Int) ∧ i ≤ la ∧ Z i))) (e : j2 = j - 1) (ej : (jN : Int) = j) (n : ¬ Z jN) : ∀ i : Nat, A i ↔ (Y i ∨ (j2 < (i : Int) ∧ i ≤ la ∧ Z i)) := fun i => by
  rw [h i]
  constructor
  · rintro (z | ⟨z1, z2, z3⟩)
    · exact Or.inl z
    · exact Or.inr ⟨by omega, z2, z3⟩
  · rintro (z | ⟨z1, z2, z3⟩)
    · exact Or.inl z
    · by_cases q : i = jN
      · subst q; exact absurd z3 n
      · exact Or.inr ⟨by omega, z2, z3⟩
theorem ddy {Z Y A B : Nat → Prop} {j j2 : Int} {la jN : Nat} (h : ∀ i : Nat, A i ↔ (Y i ∨ (j < (i : Int) ∧ i ≤ la ∧ Z i))) (e : j2 = j - 1) (ej : (jN : Int) = j) (hj : jN ≤ la) (y : Z jN) (g : ∀ i, B i ↔ (A i ∨ i = jN)) : ∀ i : Nat, B i ↔ (Y i ∨ (j2 < (i : Int) ∧ i ≤ la ∧ Z i)) := fun i => by
  rw [g i, h i]
  constructor
  · rintro ((z | ⟨z1, z2, z3⟩) | z)
    · exact Or.inl z
    · exact Or.inr ⟨by omega, z2, z3⟩
    · subst z; exact Or.inr ⟨by omega, hj, y⟩
  · rintro (z | ⟨z1, z2, z3⟩)
    · exact Or.inl (Or.inl z)
    · by_cases q : i = jN
      · exact Or.inr q
      · exact Or.inl (Or.inr ⟨by omega, z2, z3⟩)
