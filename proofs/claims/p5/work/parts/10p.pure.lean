/-- the first place ahead of n at which p holds, else n -/
def fsP (p : Nat → Bool) : Nat → Nat
  | 0 => 0
  | n + 1 => if fsP p n < n then fsP p n else if p n = true then n else n + 1
theorem fsP_le (p : Nat → Bool) : ∀ n, fsP p n ≤ n
  | 0 => Nat.le_refl 0
  | n + 1 => by
    have := fsP_le p n
    show (if fsP p n < n then fsP p n else if p n = true then n else n + 1) ≤ n + 1
    split
    · omega
    · split <;> omega
theorem fsP_s (p : Nat → Bool) (n : Nat) : fsP p (n + 1) = if fsP p n < n then fsP p n else if p n = true then n else n + 1 := rfl
theorem fsP_lt {p : Nat → Bool} : ∀ {n : Nat}, fsP p n < n → p (fsP p n) = true
  | 0, h => by omega
  | n + 1, h => by
    rw [fsP_s] at h ⊢
    by_cases c : fsP p n < n
    · rw [if_pos c]; exact fsP_lt c
    · rw [if_neg c] at h ⊢
      by_cases c2 : p n = true
      · rw [if_pos c2]; exact c2
      · rw [if_neg c2] at h; omega
theorem fsP_no {p : Nat → Bool} : ∀ {n i : Nat}, i < fsP p n → p i = false
  | 0, i, h => by have := fsP_le p 0; omega
  | n + 1, i, h => by
    rw [fsP_s] at h
    by_cases c : fsP p n < n
    · rw [if_pos c] at h; exact fsP_no h
    · rw [if_neg c] at h
      have hle := fsP_le p n
      by_cases c2 : p n = true
      · rw [if_pos c2] at h; exact fsP_no (n := n) (by omega)
      · rw [if_neg c2] at h
        by_cases q : i = n
        · subst q; simpa using c2
        · exact fsP_no (n := n) (by omega)
theorem fsP_eq {p : Nat → Bool} {n v : Nat} (hv : v ≤ n) (h1 : v < n → p v = true) (h2 : ∀ i, i < v → p i = false) : fsP p n = v := by
  have a := fsP_le p n
  rcases Nat.lt_trichotomy (fsP p n) v with q | q | q
  · have b := fsP_lt (p := p) (n := n) (by omega)
    rw [h2 _ q] at b; exact absurd b (by decide)
  · exact q
  · have b := fsP_no q
    rw [h1 (by omega)] at b; exact absurd b (by decide)
def ndI (g : Int) : Int := if g = 119 ∨ g = 43 ∨ g = 45 ∨ g = 42 ∨ g = 47 ∨ g = 37 ∨ g = 60 ∨ g = 61 then 2 else if g = 115 ∨ g = 33 ∨ g = 110 ∨ g = 100 ∨ g = 112 ∨ g = 111 ∨ g = 122 ∨ g = 116 then 1 else 0
def gvI (g : Int) : Int := if g = 100 ∨ g = 119 then 2 else if g = 107 ∨ g = 108 ∨ g = 105 ∨ g = 33 ∨ g = 110 ∨ g = 43 ∨ g = 45 ∨ g = 42 ∨ g = 47 ∨ g = 37 ∨ g = 60 ∨ g = 61 then 1 else 0
theorem gv_0 (g : Int) : 0 ≤ gvI g := by unfold gvI; (repeat split) <;> omega
theorem nd_0 (g : Int) : 0 ≤ ndI g := by unfold ndI; (repeat split) <;> omega
abbrev gOnI (g : Int) : Prop := g ≠ 103 ∧ g ≠ 116 ∧ g ≠ 114
abbrev gElI (g : Int) : Prop := g = 103 ∨ g = 122
abbrev cThI (g : Int) : Prop := g = 47 ∨ g = 37 ∨ g = 116
def upI (d : Nat → Int) (a : Nat) (x : Int) : Nat → Int := fun k => if k = a then x else d k
theorem upI_s (d : Nat → Int) (a : Nat) (x : Int) : upI d a x a = x := if_pos rfl
theorem upI_n {d : Nat → Int} {a k : Nat} {x : Int} (h : k ≠ a) : upI d a x k = d k := if_neg h
/-- one comes to a with x on the stack -/
def arP (d : Nat → Int) (a : Nat) (x : Int) : Nat → Int := if d a = -1 then upI d a x else d
def ri (r : Nat → Int32) : Nat → Int := fun i => (r i).toInt
def mk (n : Nat) (r : Nat → Int32) : Nat → Int := fun i => if i < n then (r i).toInt else -1
theorem mk_lt {n : Nat} {r : Nat → Int32} {i : Nat} (h : i < n) : mk n r i = (r i).toInt := if_pos h
theorem mk_upd {n : Nat} {σ : Sto} {k a : Nat} {v : Int32} (h : a < n) : mk n ((sti σ k a v).1 k) = upI (mk n (σ.1 k)) a v.toInt := by
  funext i
  unfold mk upI
  by_cases q : i = a
  · subst q; rw [if_pos h, if_pos rfl, sti_s]
  · rw [if_neg q, sti_j q]
def hoP (hs : Nat) (fr up : Nat → Int) (i : Nat) : Nat := fsP (fun h => decide (fr h ≤ (i : Int) ∧ (i : Int) < up h)) hs
section
variable (n hs : Nat) (sg nm fr up go : Nat → Int)
def goP3 (i : Nat) (d : Nat → Int) : Int × (Nat → Int) :=
  if cThI (sg i) ∧ hoP hs fr up i < hs then
    (if arP d (go (hoP hs fr up i)).toNat 1 (go (hoP hs fr up i)).toNat = 1 then (0, arP d (go (hoP hs fr up i)).toNat 1) else (-6, arP d (go (hoP hs fr up i)).toNat 1))
  else (0, d)
def goP2 (i : Nat) (b : Int) (d : Nat → Int) : Int × (Nat → Int) :=
  if gElI (sg i) then
    (if arP d (nm i).toNat b (nm i).toNat = b then goP3 hs sg fr up go i (arP d (nm i).toNat b) else (-6, arP d (nm i).toNat b))
  else goP3 hs sg fr up go i d
def goP (i : Nat) (d : Nat → Int) : Int × (Nat → Int) :=
  if d i < ndI (sg i) then (-4, d) else
  if 6 < d i - ndI (sg i) + gvI (sg i) then (-5, d) else
  if gOnI (sg i) then
    (if i + 1 < n then
      (if arP d (i + 1) (d i - ndI (sg i) + gvI (sg i)) (i + 1) = d i - ndI (sg i) + gvI (sg i) then goP2 hs sg nm fr up go i (d i - ndI (sg i) + gvI (sg i)) (arP d (i + 1) (d i - ndI (sg i) + gvI (sg i))) else (-6, arP d (i + 1) (d i - ndI (sg i) + gvI (sg i))))
    else (-3, d))
  else goP2 hs sg nm fr up go i (d i - ndI (sg i) + gvI (sg i)) d
/-- the lowest that one has come to and has not gone through -/
def loP (d : Nat → Int) (g : Nat → Bool) : Nat := fsP (fun i => decide (d i ≠ -1) && !g i) n
def juP : Nat → (Nat → Bool) → (Nat → Int) → Int × (Nat → Int)
  | 0, _, d => (0, d)
  | f + 1, g, d =>
    if loP n d g = n then (0, d) else
    if (goP n hs sg nm fr up go (loP n d g) d).1 = 0 then juP f (fun i => g i || decide (i = loP n d g)) (goP n hs sg nm fr up go (loP n d g) d).2
    else goP n hs sg nm fr up go (loP n d g) d
def d0P : Nat → Int := fun i => if i = 0 then 0 else -1
/-- what is come to, with how many: and the verdict -/
def JUP : Int × (Nat → Int) := juP n hs sg nm fr up go n (fun _ => false) d0P
/-- it leads inside -/
def LDP : Prop := (∀ i, i < n → gElI (sg i) → nm i < n) ∧ (∀ h, h < hs → fr h < up h ∧ up h ≤ n ∧ go h < n)
def SUC (j i : Nat) : Prop := j < n ∧ ((gOnI (sg j) ∧ i = j + 1) ∨ (gElI (sg j) ∧ i = (nm j).toNat) ∨ (cThI (sg j) ∧ hoP hs fr up j < hs ∧ i = (go (hoP hs fr up j)).toNat))
def OKP (d : Nat → Int) (i : Nat) : Prop := ndI (sg i) ≤ d i ∧ d i - ndI (sg i) + gvI (sg i) ≤ 6 ∧ (gOnI (sg i) → i + 1 < n ∧ d (i + 1) = d i - ndI (sg i) + gvI (sg i)) ∧ (gElI (sg i) → d (nm i).toNat = d i - ndI (sg i) + gvI (sg i)) ∧ (cThI (sg i) → hoP hs fr up i < hs → d (go (hoP hs fr up i)).toNat = 1)
def CLO (d : Nat → Int) : Prop := ∀ S : Nat → Prop, S 0 → (∀ j k, S j → SUC n hs sg nm fr up go j k → S k) → ∀ i, d i ≠ -1 → S i
def GRP (x : Nat) (d e : Nat → Int) : Prop := ∀ i, e i = d i ∨ (d i = -1 ∧ 0 ≤ e i ∧ e i ≤ 6 ∧ i < n ∧ SUC n hs sg nm fr up go x i)
/-- it is right: what is come to, with how many on the stack -/
def RIG (d : Nat → Int) : Prop := (∀ i, i < n → d i ≠ -1 → OKP n hs sg nm fr up go d i) ∧ CLO n hs sg nm fr up go d ∧ d 0 = 0 ∧ (∀ i, -1 ≤ d i ∧ d i ≤ 6) ∧ (∀ i, n ≤ i → d i = -1)
end
section
variable {n hs : Nat} {sg nm fr up go : Nat → Int}
theorem GRP.rf {x : Nat} {d : Nat → Int} : GRP n hs sg nm fr up go x d d := fun _ => Or.inl rfl
theorem GRP.ar {x a : Nat} {d e : Nat → Int} {b : Int} (h : GRP n hs sg nm fr up go x d e) (hb : 0 ≤ b) (hb6 : b ≤ 6) (ha : a < n) (hs2 : SUC n hs sg nm fr up go x a) : GRP n hs sg nm fr up go x d (arP e a b) := by
  intro i
  unfold arP
  by_cases q : e a = -1
  · rw [if_pos q]
    by_cases r : i = a
    · subst r
      rw [upI_s]
      rcases h i with z | z
      · exact Or.inr ⟨by omega, hb, hb6, ha, hs2⟩
      · omega
    · rw [upI_n r]; exact h i
  · rw [if_neg q]; exact h i
theorem arP_keep {d : Nat → Int} {a k : Nat} {b c : Int} (h : d k = c) (hc : 0 ≤ c) : arP d a b k = c := by
  unfold arP
  by_cases q : d a = -1
  · rw [if_pos q]
    by_cases r : k = a
    · subst r; omega
    · rw [upI_n r]; exact h
  · rw [if_neg q]; exact h
theorem goP3_ok {i : Nat} {d0 d : Nat → Int} (hi : i < n) (hl : ∀ h, h < hs → 0 ≤ go h ∧ go h < n) (hG : GRP n hs sg nm fr up go i d0 d) (hr : (goP3 hs sg fr up go i d).1 = 0) :
    GRP n hs sg nm fr up go i d0 (goP3 hs sg fr up go i d).2 ∧ (∀ k c, d k = c → 0 ≤ c → (goP3 hs sg fr up go i d).2 k = c) ∧ (cThI (sg i) → hoP hs fr up i < hs → (goP3 hs sg fr up go i d).2 (go (hoP hs fr up i)).toNat = 1) := by
  unfold goP3 at hr ⊢
  by_cases c : cThI (sg i) ∧ hoP hs fr up i < hs
  · rw [if_pos c] at hr ⊢
    have hg := hl _ c.2
    by_cases c2 : arP d (go (hoP hs fr up i)).toNat 1 (go (hoP hs fr up i)).toNat = 1
    · rw [if_pos c2]
      exact ⟨hG.ar (by decide) (by decide) (by omega) ⟨hi, Or.inr (Or.inr ⟨c.1, c.2, rfl⟩)⟩, fun k c h h2 => arP_keep h h2, fun _ _ => c2⟩
    · rw [if_neg c2] at hr; simp at hr
  · rw [if_neg c]
    exact ⟨hG, fun k c h _ => h, fun a b => absurd ⟨a, b⟩ c⟩
theorem goP2_ok {i : Nat} {b : Int} {d0 d : Nat → Int} (hi : i < n) (hb : 0 ≤ b) (hb6 : b ≤ 6) (hl0 : gElI (sg i) → 0 ≤ nm i ∧ nm i < n) (hl : ∀ h, h < hs → 0 ≤ go h ∧ go h < n) (hG : GRP n hs sg nm fr up go i d0 d) (hr : (goP2 hs sg nm fr up go i b d).1 = 0) :
    GRP n hs sg nm fr up go i d0 (goP2 hs sg nm fr up go i b d).2 ∧ (∀ k c, d k = c → 0 ≤ c → (goP2 hs sg nm fr up go i b d).2 k = c) ∧ (gElI (sg i) → (goP2 hs sg nm fr up go i b d).2 (nm i).toNat = b) ∧ (cThI (sg i) → hoP hs fr up i < hs → (goP2 hs sg nm fr up go i b d).2 (go (hoP hs fr up i)).toNat = 1) := by
  unfold goP2 at hr ⊢
  by_cases c : gElI (sg i)
  · rw [if_pos c] at hr ⊢
    have hg := hl0 c
    by_cases c2 : arP d (nm i).toNat b (nm i).toNat = b
    · rw [if_pos c2] at hr ⊢
      obtain ⟨a1, a2, a3⟩ := goP3_ok hi hl (hG.ar hb hb6 (a := (nm i).toNat) (by omega) ⟨hi, Or.inr (Or.inl ⟨c, rfl⟩)⟩) hr
      exact ⟨a1, fun k c h h2 => a2 k c (arP_keep h h2) h2, fun _ => a2 _ _ c2 hb, a3⟩
    · rw [if_neg c2] at hr; simp at hr
  · rw [if_neg c] at hr ⊢
    obtain ⟨a1, a2, a3⟩ := goP3_ok hi hl hG hr
    exact ⟨a1, a2, fun a => absurd a c, a3⟩
theorem goP_ok {i : Nat} {d : Nat → Int} (hi : i < n) (hl0 : gElI (sg i) → 0 ≤ nm i ∧ nm i < n) (hl : ∀ h, h < hs → 0 ≤ go h ∧ go h < n) (hr : (goP n hs sg nm fr up go i d).1 = 0) :
    GRP n hs sg nm fr up go i d (goP n hs sg nm fr up go i d).2 ∧ OKP n hs sg nm fr up go (goP n hs sg nm fr up go i d).2 i := by
  have g0 := gv_0 (sg i)
  have n0 := nd_0 (sg i)
  unfold goP at hr ⊢
  by_cases c1 : d i < ndI (sg i)
  · rw [if_pos c1] at hr; simp at hr
  rw [if_neg c1] at hr ⊢
  by_cases c2 : 6 < d i - ndI (sg i) + gvI (sg i)
  · rw [if_pos c2] at hr; simp at hr
  rw [if_neg c2] at hr ⊢
  by_cases c3 : gOnI (sg i)
  · rw [if_pos c3] at hr ⊢
    by_cases c4 : i + 1 < n
    · rw [if_pos c4] at hr ⊢
      by_cases c5 : arP d (i + 1) (d i - ndI (sg i) + gvI (sg i)) (i + 1) = d i - ndI (sg i) + gvI (sg i)
      · rw [if_pos c5] at hr ⊢
        obtain ⟨a1, a2, a3, a4⟩ := goP2_ok hi (by omega) (by omega) hl0 hl (GRP.rf.ar (by omega) (by omega) c4 ⟨hi, Or.inl ⟨c3, rfl⟩⟩) hr
        have e : _ = d i := a2 i (d i) (arP_keep rfl (by omega)) (by omega)
        refine ⟨a1, ?_⟩
        unfold OKP
        rw [e]
        exact ⟨by omega, by omega, fun _ => ⟨c4, a2 _ _ c5 (by omega)⟩, a3, a4⟩
      · rw [if_neg c5] at hr; simp at hr
    · rw [if_neg c4] at hr; simp at hr
  · rw [if_neg c3] at hr ⊢
    obtain ⟨a1, a2, a3, a4⟩ := goP2_ok hi (by omega) (by omega) hl0 hl GRP.rf hr
    have e : _ = d i := a2 i (d i) rfl (by omega)
    refine ⟨a1, ?_⟩
    unfold OKP
    rw [e]
    exact ⟨by omega, by omega, fun a => absurd a c3, a3, a4⟩
theorem OKP.gr {i x : Nat} {d e : Nat → Int} (h : OKP n hs sg nm fr up go d i) (hG : GRP n hs sg nm fr up go x d e) : OKP n hs sg nm fr up go e i := by
  have g0 := gv_0 (sg i)
  have n0 := nd_0 (sg i)
  have k : ∀ q, 0 ≤ d q → e q = d q := fun q hq => by rcases hG q with z | z <;> omega
  obtain ⟨a1, a2, a3, a4, a5⟩ := h
  unfold OKP
  rw [k i (by omega)]
  refine ⟨a1, a2, fun z => ⟨(a3 z).1, ?_⟩, fun z => ?_, fun z y => ?_⟩
  · have := (a3 z).2; rw [k _ (by omega)]; exact this
  · have := a4 z; rw [k _ (by omega)]; exact this
  · have := a5 z y; rw [k _ (by omega)]; exact this
theorem CLO.gr {x : Nat} {d e : Nat → Int} (h : CLO n hs sg nm fr up go d) (hx : d x ≠ -1) (hG : GRP n hs sg nm fr up go x d e) : CLO n hs sg nm fr up go e := by
  intro S h0 hS i hi
  rcases hG i with z | z
  · exact h S h0 hS i (by omega)
  · exact hS x i (h S h0 hS x hx) z.2.2.2.2
/-- what holds while it is gone through -/
def JIV (n hs : Nat) (sg nm fr up go : Nat → Int) (g : Nat → Bool) (d : Nat → Int) : Prop := (∀ i, i < n → g i = true → OKP n hs sg nm fr up go d i) ∧ CLO n hs sg nm fr up go d ∧ d 0 = 0 ∧ (∀ i, -1 ≤ d i ∧ d i ≤ 6) ∧ (∀ i, n ≤ i → d i = -1)
theorem JIV.nx {g : Nat → Bool} {d : Nat → Int} {x : Nat} (h : JIV n hs sg nm fr up go g d) (hx : x < n) (hdx : d x ≠ -1) (hl0 : ∀ i, i < n → gElI (sg i) → 0 ≤ nm i ∧ nm i < n) (hl : ∀ h, h < hs → 0 ≤ go h ∧ go h < n) (hr : (goP n hs sg nm fr up go x d).1 = 0) :
    JIV n hs sg nm fr up go (fun i => g i || decide (i = x)) (goP n hs sg nm fr up go x d).2 := by
  obtain ⟨a1, a2, a3, a4, a5⟩ := h
  obtain ⟨G, O⟩ := goP_ok hx (hl0 x hx) hl hr
  refine ⟨fun i hi hg => ?_, a2.gr hdx G, ?_, fun i => ?_, fun i hi => ?_⟩
  · by_cases q : i = x
    · rw [q]; exact O
    · refine (a1 i hi ?_).gr G
      simpa [q] using hg
  · rcases G 0 with z | z <;> omega
  · have := a4 i
    rcases G i with z | z <;> omega
  · have := a5 i hi
    rcases G i with z | z
    · omega
    · omega
theorem loP_le (d : Nat → Int) (g : Nat → Bool) : loP n d g ≤ n := fsP_le _ _
theorem loP_lt {d : Nat → Int} {g : Nat → Bool} (h : loP n d g ≠ n) : loP n d g < n ∧ d (loP n d g) ≠ -1 ∧ g (loP n d g) = false := by
  have l : loP n d g < n := by have := loP_le (n := n) d g; omega
  have := fsP_lt (p := fun i => decide (d i ≠ -1) && !g i) l
  simp only [Bool.and_eq_true, decide_eq_true_eq, Bool.not_eq_true'] at this
  exact ⟨l, this.1, this.2⟩
theorem loP_all {d : Nat → Int} {g : Nat → Bool} (h : loP n d g = n) : ∀ i, i < n → d i ≠ -1 → g i = true := by
  intro i hi hd
  have := fsP_no (p := fun i => decide (d i ≠ -1) && !g i) (n := n) (i := i) (by unfold loP at h; omega)
  simp only [Bool.and_eq_false_iff, decide_eq_false_iff_not, Bool.not_eq_false'] at this
  rcases this with z | z
  · exact absurd hd z
  · exact z
theorem juP_ok (hl0 : ∀ i, i < n → gElI (sg i) → 0 ≤ nm i ∧ nm i < n) (hl : ∀ h, h < hs → 0 ≤ go h ∧ go h < n) : ∀ (f : Nat) (g : Nat → Bool) (d : Nat → Int), JIV n hs sg nm fr up go g d → n ≤ f + fb_ct g n → (juP n hs sg nm fr up go f g d).1 = 0 → RIG n hs sg nm fr up go (juP n hs sg nm fr up go f g d).2
  | 0, g, d, h, hf, _ => by
    have hall : ∀ i, i < n → g i = true := fb_ct_all.mp (by have := fb_ct_le g n; omega)
    exact ⟨fun i hi _ => h.1 i hi (hall i hi), h.2⟩
  | f + 1, g, d, h, hf, hr => by
    unfold juP at hr ⊢
    by_cases c : loP n d g = n
    · rw [if_pos c]
      exact ⟨fun i hi hd => h.1 i hi (loP_all c i hi hd), h.2⟩
    · rw [if_neg c] at hr ⊢
      have L := loP_lt c
      by_cases c2 : (goP n hs sg nm fr up go (loP n d g) d).1 = 0
      · rw [if_pos c2] at hr ⊢
        refine juP_ok hl0 hl f _ _ (h.nx L.1 L.2.1 hl0 hl c2) ?_ hr
        have e := fb_ct_upd g true (i := loP n d g) (n := n) L.1
        rw [L.2.2] at e
        have e2 : fb_ct (fun k => if k = loP n d g then true else g k) n = fb_ct (fun i => g i || decide (i = loP n d g)) n := fb_ct_cong (fun k _ => by by_cases q : k = loP n d g <;> simp [q])
        rw [e2] at e
        simp at e
        omega
      · rw [if_neg c2] at hr; exact absurd hr c2
theorem JUP_ok (hn : 0 < n) (hl0 : ∀ i, i < n → gElI (sg i) → 0 ≤ nm i ∧ nm i < n) (hl : ∀ h, h < hs → 0 ≤ go h ∧ go h < n) (hr : (JUP n hs sg nm fr up go).1 = 0) : RIG n hs sg nm fr up go (JUP n hs sg nm fr up go).2 := by
  refine juP_ok hl0 hl n _ _ ⟨fun i _ h => (by simp at h), fun S h0 _ i hi => ?_, rfl, fun i => ?_, fun i hi => ?_⟩ (by omega) hr
  · by_cases q : i = 0
    · rw [q]; exact h0
    · exact absurd (if_neg q) hi
  · unfold d0P; split <;> omega
  · exact if_neg (by omega)
end
section
variable {n hs : Nat} {sg nm fr up go : Nat → Int}
theorem ar_a {n a k : Nat} {σ s : Sto} {x : Int32} (hN : a < n) (e : s = sti σ k a x) (h : (σ.1 k a).toInt = -1) : mk n (s.1 k) = arP (mk n (σ.1 k)) a x.toInt := by
  rw [e, mk_upd hN]; unfold arP; rw [if_pos (by rw [mk_lt hN]; exact h)]
theorem ar_b {n a k : Nat} {σ : Sto} {x : Int} (hN : a < n) (h : (σ.1 k a).toInt ≠ -1) : mk n (σ.1 k) = arP (mk n (σ.1 k)) a x := by
  unfold arP; rw [if_neg (by rw [mk_lt hN]; exact h)]
theorem ho_s {fr up : Nat → Int} {i : Nat} {x y : Int} (h : ∀ k : Nat, (k : Int) < x → ¬ (fr k ≤ (i : Int) ∧ (i : Int) < up k)) (hy : y = x + 1) (q : Nat) (hq : (q : Int) = x) (hn : ¬ (fr q ≤ (i : Int) ∧ (i : Int) < up q)) : ∀ k : Nat, (k : Int) < y → ¬ (fr k ≤ (i : Int) ∧ (i : Int) < up k) := fun k hk => by
  by_cases e : k = q
  · rw [e]; exact hn
  · exact h k (by omega)
theorem ho_no {fr up : Nat → Int} {i : Nat} {x : Int} (h : ∀ k : Nat, (k : Int) < x → ¬ (fr k ≤ (i : Int) ∧ (i : Int) < up k)) (hx : (hs : Int) ≤ x) : hoP hs fr up i = hs :=
  fsP_eq (Nat.le_refl _) (fun z => absurd z (Nat.lt_irrefl _)) (fun k hk => decide_eq_false (h k (by omega)))
theorem ho_at {fr up : Nat → Int} {i : Nat} {x : Int} (h : ∀ k : Nat, (k : Int) < x → ¬ (fr k ≤ (i : Int) ∧ (i : Int) < up k)) (q : Nat) (hq : (q : Int) = x) (hh : q < hs) (hi : fr q ≤ (i : Int) ∧ (i : Int) < up q) : hoP hs fr up i = q :=
  fsP_eq (Nat.le_of_lt hh) (fun _ => decide_eq_true hi) (fun k hk => decide_eq_false (h k (by omega)))
theorem goP_4 {i : Nat} {d : Nat → Int} (h : d i < ndI (sg i)) : ((-4 : Int), d) = goP n hs sg nm fr up go i d := by
  unfold goP; rw [if_pos h]
theorem goP_5 {i : Nat} {d : Nat → Int} (h : ndI (sg i) ≤ d i) (h2 : 6 < d i - ndI (sg i) + gvI (sg i)) : ((-5 : Int), d) = goP n hs sg nm fr up go i d := by
  unfold goP; rw [if_neg (by omega), if_pos h2]
theorem goP_3 {i : Nat} {d : Nat → Int} (h : ndI (sg i) ≤ d i) (h2 : d i - ndI (sg i) + gvI (sg i) ≤ 6) (h3 : gOnI (sg i)) (h4 : ¬ i + 1 < n) : ((-3 : Int), d) = goP n hs sg nm fr up go i d := by
  unfold goP; rw [if_neg (by omega), if_neg (by omega), if_pos h3, if_neg h4]
theorem goP_6 {i : Nat} {d e : Nat → Int} {b : Int} (hb : b = d i - ndI (sg i) + gvI (sg i)) (h : ndI (sg i) ≤ d i) (h2 : b ≤ 6) (h3 : gOnI (sg i)) (h4 : i + 1 < n) (he : e = arP d (i + 1) b) (h5 : e (i + 1) ≠ b) : ((-6 : Int), e) = goP n hs sg nm fr up go i d := by
  subst hb; subst he
  unfold goP; rw [if_neg (by omega), if_neg (by omega), if_pos h3, if_pos h4, if_neg h5]
theorem goP_a {i : Nat} {d e : Nat → Int} {b : Int} (hb : b = d i - ndI (sg i) + gvI (sg i)) (h : ndI (sg i) ≤ d i) (h2 : b ≤ 6) (h3 : gOnI (sg i)) (h4 : i + 1 < n) (he : e = arP d (i + 1) b) (h5 : e (i + 1) = b) : goP2 hs sg nm fr up go i b e = goP n hs sg nm fr up go i d := by
  subst hb; subst he
  unfold goP; rw [if_neg (by omega), if_neg (by omega), if_pos h3, if_pos h4, if_pos h5]
theorem goP_b {i : Nat} {d : Nat → Int} {b : Int} (hb : b = d i - ndI (sg i) + gvI (sg i)) (h : ndI (sg i) ≤ d i) (h2 : b ≤ 6) (h3 : ¬ gOnI (sg i)) : goP2 hs sg nm fr up go i b d = goP n hs sg nm fr up go i d := by
  subst hb
  unfold goP; rw [if_neg (by omega), if_neg (by omega), if_neg h3]
theorem goP2_6 {i : Nat} {d e : Nat → Int} {b : Int} (h3 : gElI (sg i)) (he : e = arP d (nm i).toNat b) (h5 : e (nm i).toNat ≠ b) : ((-6 : Int), e) = goP2 hs sg nm fr up go i b d := by
  subst he; unfold goP2; rw [if_pos h3, if_neg h5]
theorem goP2_a {i : Nat} {d e : Nat → Int} {b : Int} (h3 : gElI (sg i)) (he : e = arP d (nm i).toNat b) (h5 : e (nm i).toNat = b) : goP3 hs sg fr up go i e = goP2 hs sg nm fr up go i b d := by
  subst he; unfold goP2; rw [if_pos h3, if_pos h5]
theorem goP2_b {i : Nat} {d : Nat → Int} {b : Int} (h3 : ¬ gElI (sg i)) : goP3 hs sg fr up go i d = goP2 hs sg nm fr up go i b d := by
  unfold goP2; rw [if_neg h3]
theorem goP3_6 {i q : Nat} {d e : Nat → Int} (h3 : cThI (sg i)) (hq : hoP hs fr up i = q) (hl : q < hs) (he : e = arP d (go q).toNat 1) (h5 : e (go q).toNat ≠ 1) : ((-6 : Int), e) = goP3 hs sg fr up go i d := by
  subst he; unfold goP3; rw [hq, if_pos ⟨h3, hl⟩, if_neg h5]
theorem goP3_0 {i q : Nat} {d e : Nat → Int} (h3 : cThI (sg i)) (hq : hoP hs fr up i = q) (hl : q < hs) (he : e = arP d (go q).toNat 1) (h5 : e (go q).toNat = 1) : ((0 : Int), e) = goP3 hs sg fr up go i d := by
  subst he; unfold goP3; rw [hq, if_pos ⟨h3, hl⟩, if_pos h5]
theorem goP3_n {i : Nat} {d : Nat → Int} (h3 : ¬ (cThI (sg i) ∧ hoP hs fr up i < hs)) : ((0 : Int), d) = goP3 hs sg fr up go i d := by
  unfold goP3; rw [if_neg h3]
theorem loP_no {d : Nat → Int} {g : Nat → Bool} {x : Int} (h : ∀ k : Nat, (k : Int) < x → d k = -1 ∨ g k = true) (hx : (n : Int) ≤ x) : loP n d g = n :=
  fsP_eq (Nat.le_refl _) (fun z => absurd z (Nat.lt_irrefl _)) (fun k hk => by rcases h k (by omega) with z | z <;> simp [z])
theorem loP_at {d : Nat → Int} {g : Nat → Bool} {x : Int} (h : ∀ k : Nat, (k : Int) < x → d k = -1 ∨ g k = true) (q : Nat) (hq : (q : Int) = x) (hn : q < n) (h1 : d q ≠ -1) (h2 : g q = false) : loP n d g = q :=
  fsP_eq (Nat.le_of_lt hn) (fun _ => by simp [h1, h2]) (fun k hk => by rcases h k (by omega) with z | z <;> simp [z])
theorem lo_s {d : Nat → Int} {g : Nat → Bool} {x y : Int} (h : ∀ k : Nat, (k : Int) < x → d k = -1 ∨ g k = true) (hy : y = x + 1) (q : Nat) (hq : (q : Int) = x) (hn : d q = -1 ∨ g q = true) : ∀ k : Nat, (k : Int) < y → d k = -1 ∨ g k = true := fun k hk => by
  by_cases e : k = q
  · rw [e]; exact hn
  · exact h k (by omega)
theorem juP_z {f : Nat} {g : Nat → Bool} {d : Nat → Int} {T : Int × (Nat → Int)} (hT : juP n hs sg nm fr up go f g d = T) (hf : f = 0) : ((0 : Int), d) = T := by
  subst hf; exact hT
theorem juP_0 {f : Nat} {g : Nat → Bool} {d : Nat → Int} {T : Int × (Nat → Int)} (hT : juP n hs sg nm fr up go f g d = T) (hl : loP n d g = n) : ((0 : Int), d) = T := by
  cases f with
  | zero => exact hT
  | succ f => rw [← hT]; unfold juP; rw [if_pos hl]
theorem juP_n {f : Nat} {g : Nat → Bool} {d : Nat → Int} {T : Int × (Nat → Int)} {q : Nat} {v : Int} {e : Nat → Int} (hT : juP n hs sg nm fr up go f g d = T) (hf : 0 < f) (hl : loP n d g = q) (hq : q < n) (hg : (v, e) = goP n hs sg nm fr up go q d) (hv : v ≠ 0) : (v, e) = T := by
  cases f with
  | zero => omega
  | succ f => rw [← hT]; unfold juP; rw [hl, if_neg (by omega), ← hg, if_neg hv]
theorem juP_g {f f2 : Nat} {g g2 : Nat → Bool} {d : Nat → Int} {T : Int × (Nat → Int)} {q : Nat} {v : Int} {e : Nat → Int} (hT : juP n hs sg nm fr up go f g d = T) (hf : f = f2 + 1) (hl : loP n d g = q) (hq : q < n) (hg : (v, e) = goP n hs sg nm fr up go q d) (hv : v = 0) (h2 : ∀ i, g2 i = (g i || decide (i = q))) : juP n hs sg nm fr up go f2 g2 e = T := by
  subst hf
  have e2 : g2 = fun i => g i || decide (i = q) := funext h2
  rw [← hT, e2]
  conv => rhs; unfold juP
  rw [hl, if_neg (by omega), ← hg, if_pos hv]
theorem LDP.n1 {i : Nat} (h : i < n) (h1 : gElI (sg i)) (h2 : (n : Int) ≤ nm i) : ¬ LDP n hs sg nm fr up go := fun z => by have := z.1 i h h1; omega
theorem LDP.n2 {h : Nat} (hh : h < hs) (h2 : ¬ (fr h < up h ∧ up h ≤ n ∧ go h < n)) : ¬ LDP n hs sg nm fr up go := fun z => h2 (z.2 h hh)
end
/-- bits of a long -/
def bL (x : Int64) (i : Nat) : Bool := x.toBitVec.getLsbD i
theorem bL_or (x y : Int64) (i : Nat) : bL (x ||| y) i = (bL x i || bL y i) := BitVec.getLsbD_or
theorem bL_and (x y : Int64) (i : Nat) : bL (x &&& y) i = (bL x i && bL y i) := BitVec.getLsbD_and
theorem bL_tp : ∀ k, k < 64 → ((1 : Int64) <<< ((nI k).toInt64 &&& 63)).toBitVec = BitVec.twoPow 64 k := by decide +kernel
theorem bL_one {v : Int32} (h0 : 0 ≤ v.toInt) (h1 : v.toInt < 64) (i : Nat) : bL ((1 : Int64) <<< (v.toInt64 &&& 63)) i = decide (i = v.toNatClampNeg) := by
  have k0 : (0 : Int32).toInt = 0 := by decide
  obtain ⟨a, ha, rfl⟩ := nI_of (x := v) (by rw [fa_lt]; omega)
  have e : (nI a).toNatClampNeg = a := by have := clamp_I h0; rw [nI_toInt ha] at this; omega
  rw [nI_toInt ha] at h1
  unfold bL
  rw [bL_tp a (by omega), e, BitVec.getLsbD_twoPow]
  by_cases q : i = a
  · subst q; simp; omega
  · simp [q]; intro _ r; exact q r.symm
theorem bL_set {x : Int64} {v : Int32} (h0 : 0 ≤ v.toInt) (h1 : v.toInt < 64) (i : Nat) : bL (x ||| ((1 : Int64) <<< (v.toInt64 &&& 63))) i = (bL x i || decide (i = v.toNatClampNeg)) := by rw [bL_or, bL_one h0 h1]
theorem bL_sh : ∀ k, k < 64 → ((nI k).toInt64.toUInt64 &&& Int64.toUInt64 63).toNat = k := by decide +kernel
theorem bL_in {x : Int64} {v : Int32} (h0 : 0 ≤ v.toInt) (h1 : v.toInt < 64) : ((x.toUInt64 >>> (v.toInt64.toUInt64 &&& Int64.toUInt64 63)).toInt64 &&& 1) = 0 ↔ bL x v.toNatClampNeg = false := by
  have k0 : (0 : Int32).toInt = 0 := by decide
  obtain ⟨a, ha, rfl⟩ := nI_of (x := v) (by rw [fa_lt]; omega)
  have e : (nI a).toNatClampNeg = a := by have := clamp_I h0; rw [nI_toInt ha] at this; omega
  rw [nI_toInt ha] at h1
  rw [e]
  exact ts_bit (by omega) (bL_sh a (by omega))
theorem bL_0 (i : Nat) : bL 0 i = false := by unfold bL; exact BitVec.getLsbD_zero
theorem isin_f {x : Int64} {v : Int32} (c : ((x.toUInt64 >>> (v.toInt64.toUInt64 &&& Int64.toUInt64 63)).toInt64 &&& 1) = 0) : 0 ≤ v.toInt → v.toInt < 64 → ((0 : Int) = 1 ↔ bL x v.toNatClampNeg = true) := fun h0 h1 => by
  rw [(bL_in h0 h1).mp c]; simp
theorem isin_t {x : Int64} {v : Int32} (c : ¬ ((x.toUInt64 >>> (v.toInt64.toUInt64 &&& Int64.toUInt64 63)).toInt64 &&& 1) = 0) : 0 ≤ v.toInt → v.toInt < 64 → ((1 : Int) = 1 ↔ bL x v.toNatClampNeg = true) := fun h0 h1 => by
  have : bL x v.toNatClampNeg = true := by
    cases h : bL x v.toNatClampNeg
    · exact absurd ((bL_in h0 h1).mpr h) c
    · rfl
  simp [this]
