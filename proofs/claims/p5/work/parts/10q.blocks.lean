theorem sti_if (σ : Sto) (k i : Nat) (v : Int32) (j : Nat) : (sti σ k i v).1 k j = if j = i then v else σ.1 k j := by
  rw [sti_at]
  by_cases q : j = i
  · rw [if_pos ⟨rfl, q⟩, if_pos q]
  · rw [if_neg (fun z => q z.2), if_neg q]
abbrev enI (g : Int) : Prop := g = 116 ∨ g = 114
def CM (sg nm d : Nat → Int) (k i : Nat) : Prop := ∃ j, j < k ∧ d j ≠ -1 ∧ ((gElI (sg j) ∧ ((nm j).toNat = i ∨ j + 1 = i)) ∨ (enI (sg j) ∧ j + 1 = i))
def CH (fr up go : Nat → Int) (k i : Nat) : Prop := ∃ h, h < k ∧ ((fr h).toNat = i ∨ (up h).toNat = i ∨ (go h).toNat = i)
def CUTC (n hs : Nat) (sg nm fr up go d : Nat → Int) (i : Nat) : Prop := CM sg nm d n i ∨ CH fr up go hs i
theorem CM.z {sg nm d : Nat → Int} {i : Nat} : ¬ CM sg nm d 0 i := fun ⟨j, h, _⟩ => by omega
theorem CH.z {fr up go : Nat → Int} {i : Nat} : ¬ CH fr up go 0 i := fun ⟨j, h, _⟩ => by omega
theorem CM.s {sg nm d : Nat → Int} {k i : Nat} : CM sg nm d (k + 1) i ↔ CM sg nm d k i ∨ (d k ≠ -1 ∧ ((gElI (sg k) ∧ ((nm k).toNat = i ∨ k + 1 = i)) ∨ (enI (sg k) ∧ k + 1 = i))) := by
  constructor
  · rintro ⟨j, h, r⟩
    by_cases q : j = k
    · subst q; exact Or.inr r
    · exact Or.inl ⟨j, by omega, r⟩
  · rintro (⟨j, h, r⟩ | r)
    · exact ⟨j, by omega, r⟩
    · exact ⟨k, by omega, r⟩
theorem CH.s {fr up go : Nat → Int} {k i : Nat} : CH fr up go (k + 1) i ↔ CH fr up go k i ∨ ((fr k).toNat = i ∨ (up k).toNat = i ∨ (go k).toNat = i) := by
  constructor
  · rintro ⟨j, h, r⟩
    by_cases q : j = k
    · subst q; exact Or.inr r
    · exact Or.inl ⟨j, by omega, r⟩
  · rintro (⟨j, h, r⟩ | r)
    · exact ⟨j, by omega, r⟩
    · exact ⟨k, by omega, r⟩
theorem r1 {σ s : Sto} {k a : Nat} {v : Int32} (e : s = sti σ k a v) (hv : v.toInt ≠ 0) (i : Nat) : (s.1 k i).toInt ≠ 0 ↔ (σ.1 k i).toInt ≠ 0 ∨ i = a := by
  rw [e, sti_if]
  by_cases q : i = a
  · rw [if_pos q]; simp [q, hv]
  · rw [if_neg q]; simp [q]
noncomputable def bgP (d : Nat → Int) (ct : Nat → Prop) (i : Nat) : Bool := @decide (d i ≠ -1 ∧ (ct i ∨ i = 0)) (Classical.propDecidable _)
theorem bgP_t {d : Nat → Int} {ct : Nat → Prop} {i : Nat} : bgP d ct i = true ↔ d i ≠ -1 ∧ (ct i ∨ i = 0) := @decide_eq_true_iff _ (Classical.propDecidable _)
theorem bgP_f {d : Nat → Int} {ct : Nat → Prop} {i : Nat} : bgP d ct i = false ↔ ¬ (d i ≠ -1 ∧ (ct i ∨ i = 0)) := @decide_eq_false_iff_not _ (Classical.propDecidable _)
noncomputable def cbP (d : Nat → Int) (ct : Nat → Prop) (i : Nat) : Nat := fb_ct (bgP d ct) i
theorem cbP_t {d : Nat → Int} {ct : Nat → Prop} {i : Nat} (h : bgP d ct i = true) : cbP d ct (i + 1) = cbP d ct i + 1 := by unfold cbP; rw [fb_ct_succ, if_pos h]
theorem cbP_f {d : Nat → Int} {ct : Nat → Prop} {i : Nat} (h : bgP d ct i = false) : cbP d ct (i + 1) = cbP d ct i := by unfold cbP; rw [fb_ct_succ, h]; rfl
theorem cbP_le {d : Nat → Int} {ct : Nat → Prop} {i j : Nat} (h : i ≤ j) : cbP d ct i ≤ cbP d ct j := fb_ct_mono _ h
/-- blocks as far as k: their first, last, that of each, how many -/
def BKI (d : Nat → Int) (ct : Nat → Prop) (k : Nat) (fi la of : Nat → Int) (nb : Nat) : Prop :=
  nb = cbP d ct k ∧ (∀ j, j < k → bgP d ct j = true → fi (cbP d ct j) = j) ∧ (∀ j, j < k → of j = if d j ≠ -1 then (cbP d ct (j + 1) : Int) - 1 else -1) ∧
  (∀ b, b < nb → ∃ j : Nat, la b = j ∧ j < k ∧ d j ≠ -1 ∧ cbP d ct (j + 1) = b + 1 ∧ ∀ i, j < i → i < k → d i ≠ -1 → cbP d ct (i + 1) ≠ b + 1)
section
variable {d : Nat → Int} {ct : Nat → Prop} {k nb : Nat} {fi la of : Nat → Int}
theorem BKI.z (h : nb = 0) : BKI d ct 0 fi la of nb := by
  subst h
  exact ⟨rfl, fun j h => by omega, fun j h => by omega, fun b h => by omega⟩
theorem BKI.no (h : BKI d ct k fi la of nb) (hd : d k = -1) {of2 : Nat → Int} (e : of2 = upI of k (-1)) : BKI d ct (k + 1) fi la of2 nb := by
  obtain ⟨a1, a2, a3, a4⟩ := h
  have hb : bgP d ct k = false := bgP_f.mpr (fun z => z.1 hd)
  refine ⟨by rw [cbP_f hb]; exact a1, fun j hj hg => ?_, fun j hj => ?_, fun b hb2 => ?_⟩
  · by_cases q : j = k
    · subst q; rw [hb] at hg; exact absurd hg (by decide)
    · exact a2 j (by omega) hg
  · rw [e]
    by_cases q : j = k
    · subst q; rw [upI_s, if_neg (by omega)]
    · rw [upI_n q]; exact a3 j (by omega)
  · obtain ⟨j, l1, l2, l3, l4, l5⟩ := a4 b hb2
    refine ⟨j, l1, by omega, l3, l4, fun i hi hi2 hdi => ?_⟩
    by_cases q : i = k
    · subst q; exact absurd hd hdi
    · exact l5 i hi (by omega) hdi
theorem BKI.on (h : BKI d ct k fi la of nb) (hd : d k ≠ -1) (hb : bgP d ct k = false) (h1 : 1 ≤ nb) {of2 la2 : Nat → Int} (e : of2 = upI of k ((nb : Int) - 1)) (e2 : la2 = upI la (nb - 1) k) : BKI d ct (k + 1) fi la2 of2 nb := by
  obtain ⟨a1, a2, a3, a4⟩ := h
  refine ⟨by rw [cbP_f hb]; exact a1, fun j hj hg => ?_, fun j hj => ?_, fun b hb2 => ?_⟩
  · by_cases q : j = k
    · subst q; rw [hb] at hg; exact absurd hg (by decide)
    · exact a2 j (by omega) hg
  · rw [e]
    by_cases q : j = k
    · subst q; rw [upI_s, if_pos hd, cbP_f hb, a1]
    · rw [upI_n q]; exact a3 j (by omega)
  · rw [e2]
    by_cases r : b = nb - 1
    · refine ⟨k, by rw [r, upI_s], by omega, hd, by rw [cbP_f hb]; omega, fun i hi hi2 => by omega⟩
    · rw [upI_n r]
      obtain ⟨j, l1, l2, l3, l4, l5⟩ := a4 b hb2
      refine ⟨j, l1, by omega, l3, l4, fun i hi hi2 hdi => ?_⟩
      by_cases q : i = k
      · subst q; rw [cbP_f hb]; omega
      · exact l5 i hi (by omega) hdi
theorem BKI.bg (h : BKI d ct k fi la of nb) (hb : bgP d ct k = true) {fi2 of2 la2 : Nat → Int} (e0 : fi2 = upI fi nb k) (e : of2 = upI of k nb) (e2 : la2 = upI la nb k) : BKI d ct (k + 1) fi2 la2 of2 (nb + 1) := by
  obtain ⟨a1, a2, a3, a4⟩ := h
  have hd := (bgP_t.mp hb).1
  refine ⟨by rw [cbP_t hb, a1], fun j hj hg => ?_, fun j hj => ?_, fun b hb2 => ?_⟩
  · rw [e0]
    by_cases q : j = k
    · subst q; rw [← a1, upI_s]
    · have l := cbP_le (d := d) (ct := ct) (show j + 1 ≤ k by omega)
      rw [cbP_t hg] at l
      rw [upI_n (by omega)]; exact a2 j (by omega) hg
  · rw [e]
    by_cases q : j = k
    · subst q; rw [upI_s, if_pos hd, cbP_t hb, a1]; omega
    · rw [upI_n q]; exact a3 j (by omega)
  · rw [e2]
    by_cases r : b = nb
    · refine ⟨k, by rw [r, upI_s], by omega, hd, by rw [cbP_t hb]; omega, fun i hi hi2 => by omega⟩
    · rw [upI_n r]
      obtain ⟨j, l1, l2, l3, l4, l5⟩ := a4 b (by omega)
      refine ⟨j, l1, by omega, l3, l4, fun i hi hi2 hdi => ?_⟩
      by_cases q : i = k
      · subst q; rw [cbP_t hb]; omega
      · exact l5 i hi (by omega) hdi
/-- one that doesn't begin a block is come to from the one ahead of it -/
def NXP (n : Nat) (d : Nat → Int) (ct : Nat → Prop) (Q : Nat → Prop) : Prop := ∀ j, j < n → d j ≠ -1 → bgP d ct j = false → 0 < j ∧ d (j - 1) ≠ -1 ∧ Q (j - 1)
theorem BLK0 {n b : Nat} {Q : Nat → Prop} (hx : NXP n d ct Q) : ∀ j, j < n → d j ≠ -1 → cbP d ct (j + 1) = b + 1 → ∃ f, f ≤ j ∧ bgP d ct f = true ∧ cbP d ct f = b ∧ ∀ i, f ≤ i → i ≤ j → d i ≠ -1 ∧ (i < j → Q i ∧ bgP d ct (i + 1) = false) := by
  intro j
  induction j with
  | zero =>
    intro hj hd hc
    cases hb : bgP d ct 0
    · have := (hx 0 hj hd hb).1; omega
    · refine ⟨0, Nat.le_refl _, hb, by rw [cbP_t hb] at hc; omega, fun i h1 h2 => ⟨?_, fun h => by omega⟩⟩
      have : i = 0 := by omega
      rw [this]; exact hd
  | succ j ih =>
    intro hj hd hc
    cases hb : bgP d ct (j + 1)
    · obtain ⟨_, h2, h3⟩ := hx (j + 1) hj hd hb
      rw [cbP_f hb] at hc
      obtain ⟨f, f1, f2, f3, f4⟩ := ih (by omega) h2 hc
      refine ⟨f, by omega, f2, f3, fun i h4 h5 => ?_⟩
      by_cases q : i = j + 1
      · subst q; exact ⟨hd, fun h => by omega⟩
      · refine ⟨(f4 i h4 (by omega)).1, fun _ => ?_⟩
        by_cases r : i = j
        · subst r; exact ⟨h3, hb⟩
        · exact (f4 i h4 (by omega)).2 (by omega)
    · refine ⟨j + 1, Nat.le_refl _, hb, by rw [cbP_t hb] at hc; omega, fun i h1 h2 => ⟨?_, fun h => by omega⟩⟩
      have : i = j + 1 := by omega
      rw [this]; exact hd
/-- a block's rows -/
theorem BKI.blk {n : Nat} {Q : Nat → Prop} (h : BKI d ct n fi la of nb) (hx : NXP n d ct Q) {b : Nat} (hb : b < nb) : ∃ f l : Nat, fi b = f ∧ la b = l ∧ f ≤ l ∧ l < n ∧ bgP d ct f = true ∧ cbP d ct f = b ∧ cbP d ct (l + 1) = b + 1 ∧ (∀ i, f ≤ i → i ≤ l → d i ≠ -1 ∧ (i < l → Q i ∧ bgP d ct (i + 1) = false)) ∧ (l + 1 < n → d (l + 1) ≠ -1 → bgP d ct (l + 1) = true) := by
  obtain ⟨a1, a2, a3, a4⟩ := h
  obtain ⟨l, l1, l2, l3, l4, l5⟩ := a4 b hb
  obtain ⟨f, f1, f2, f3, f4⟩ := BLK0 hx l l2 l3 l4
  refine ⟨f, l, ?_, l1, f1, l2, f2, f3, l4, f4, fun h1 h2 => ?_⟩
  · have := a2 f (by omega) f2
    rw [f3] at this; exact this
  · cases hq : bgP d ct (l + 1)
    · have := l5 (l + 1) (by omega) h1 h2
      rw [cbP_f hq] at this; exact absurd l4 this
    · rfl
theorem BKI.ofl {n : Nat} (h : BKI d ct n fi la of nb) {i : Nat} (hi : i < n) : -1 ≤ of i ∧ of i < nb := by
  obtain ⟨a1, a2, a3, a4⟩ := h
  rw [a3 i hi]
  have := cbP_le (d := d) (ct := ct) (show i + 1 ≤ n by omega)
  split <;> omega
end
section
variable {n hs : Nat} {sg nm fr up go d : Nat → Int}
theorem RIG.nx (h : RIG n hs sg nm fr up go d) : NXP n d (CUTC n hs sg nm fr up go d) (fun j => gOnI (sg j) ∧ ¬ gElI (sg j) ∧ d (j + 1) = d j - ndI (sg j) + gvI (sg j)) := by
  intro j hj hd hb
  have hb2 := bgP_f.mp hb
  obtain ⟨h1, h2, h3, h4, h5⟩ := h
  have key : d j ≠ -1 ∧ (j = 0 ∨ ∃ k, d k ≠ -1 ∧ SUC n hs sg nm fr up go k j) := by
    refine h2 (fun i => d i ≠ -1 ∧ (i = 0 ∨ ∃ k, d k ≠ -1 ∧ SUC n hs sg nm fr up go k i)) ⟨by omega, Or.inl rfl⟩ ?_ j hd
    rintro a b ⟨ha, _⟩ hs2
    refine ⟨?_, Or.inr ⟨a, ha, hs2⟩⟩
    obtain ⟨o1, o2, o3, o4, o5⟩ := h1 a hs2.1 ha
    have g0 := gv_0 (sg a)
    rcases hs2.2 with ⟨z1, z2⟩ | ⟨z1, z2⟩ | ⟨z1, z2, z3⟩
    · have := (o3 z1).2; rw [z2]; omega
    · have := o4 z1; rw [z2]; omega
    · have := o5 z1 z2; rw [z3]; omega
  have hc : ¬ CUTC n hs sg nm fr up go d j := fun z => hb2 ⟨hd, Or.inl z⟩
  have h0 : j ≠ 0 := fun z => hb2 ⟨hd, Or.inr z⟩
  rcases key.2 with z | ⟨k, hk, hs1, hs2⟩
  · exact absurd z h0
  · rcases hs2 with ⟨z1, z2⟩ | ⟨z1, z2⟩ | ⟨z1, z2, z3⟩
    · have e : j - 1 = k := by omega
      rw [e]
      refine ⟨by omega, hk, z1, fun z => hc (Or.inl ⟨k, hs1, hk, Or.inl ⟨z, Or.inr z2.symm⟩⟩), ((h1 k hs1 hk).2.2.1 z1).2⟩
    · exact absurd (Or.inl ⟨k, hs1, hk, Or.inl ⟨z1, Or.inl z2.symm⟩⟩) hc
    · exact absurd (Or.inr ⟨_, z2, Or.inr (Or.inr z3.symm)⟩) hc
end
/-- a block's rows of ints, over a listing -/
theorem ri_upd {σ : Sto} {k a : Nat} {v : Int32} : ri ((sti σ k a v).1 k) = upI (ri (σ.1 k)) a v.toInt := by
  funext i
  unfold ri upI
  rw [sti_if]
  split <;> rfl
theorem ri_o {σ : Sto} {k q a : Nat} {v : Int32} (h : q ≠ k) : ri ((sti σ k a v).1 q) = ri (σ.1 q) := by rw [sti_o h]
theorem cpy_lt {f g : Nat → Int32} {n j : Nat} {z w c : Int32} (hz : z.toNatClampNeg = 0) (hw : w.toNatClampNeg = 0) (hc : c.toNatClampNeg = n) (h : j < n) : va_cpy f g z.toNatClampNeg w.toNatClampNeg c.toNatClampNeg j = f j := by rw [hz, hw, hc]; exact sb_cpy0 h
theorem stc_s (σ : Sto) (k : Nat) (f : Nat → Int32) : (stc σ k f).1 k = f := if_pos rfl
theorem stc_o {σ : Sto} {k q : Nat} {f : Nat → Int32} (h : q ≠ k) : (stc σ k f).1 q = σ.1 q := if_neg h
theorem fsP_cong {p q : Nat → Bool} : ∀ {n : Nat}, (∀ i, i < n → p i = q i) → fsP p n = fsP q n
  | 0, _ => rfl
  | n + 1, h => by
    rw [fsP_s, fsP_s, fsP_cong (n := n) (fun i hi => h i (by omega)), h n (by omega)]
section
variable {n hs : Nat} {sg nm fr up go d sg2 nm2 fr2 up2 go2 d2 : Nat → Int}
theorem hoP_cp {i : Nat} (b : ∀ h, h < hs → fr2 h = fr h ∧ up2 h = up h ∧ go2 h = go h) : hoP hs fr2 up2 i = hoP hs fr up i := fsP_cong fun h hh => by rw [(b h hh).1, (b h hh).2.1]
theorem LDP.cp (a : ∀ i, i < n → sg2 i = sg i ∧ nm2 i = nm i) (b : ∀ h, h < hs → fr2 h = fr h ∧ up2 h = up h ∧ go2 h = go h) (h : LDP n hs sg nm fr up go) : LDP n hs sg2 nm2 fr2 up2 go2 := by
  refine ⟨fun i hi hg => ?_, fun k hk => ?_⟩
  · rw [(a i hi).1] at hg; rw [(a i hi).2]; exact h.1 i hi hg
  · rw [(b k hk).1, (b k hk).2.1, (b k hk).2.2]; exact h.2 k hk
theorem SUC.cp (a : ∀ i, i < n → sg2 i = sg i ∧ nm2 i = nm i) (b : ∀ h, h < hs → fr2 h = fr h ∧ up2 h = up h ∧ go2 h = go h) {i j : Nat} (h : SUC n hs sg nm fr up go i j) : SUC n hs sg2 nm2 fr2 up2 go2 i j := by
  obtain ⟨hi, h⟩ := h
  refine ⟨hi, ?_⟩
  rw [(a i hi).1, (a i hi).2, hoP_cp b]
  rcases h with z | z | ⟨z1, z2, z3⟩
  · exact Or.inl z
  · exact Or.inr (Or.inl z)
  · exact Or.inr (Or.inr ⟨z1, z2, by rw [(b _ z2).2.2]; exact z3⟩)
theorem OKP.cp (a : ∀ i, i < n → sg2 i = sg i ∧ nm2 i = nm i) (b : ∀ h, h < hs → fr2 h = fr h ∧ up2 h = up h ∧ go2 h = go h) {i : Nat} (hi : i < n) (h : OKP n hs sg nm fr up go d i) : OKP n hs sg2 nm2 fr2 up2 go2 d i := by
  unfold OKP at h ⊢
  rw [(a i hi).1, (a i hi).2, hoP_cp b]
  refine ⟨h.1, h.2.1, h.2.2.1, h.2.2.2.1, fun z1 z2 => ?_⟩
  rw [(b _ z2).2.2]; exact h.2.2.2.2 z1 z2
theorem RIG.cp (a : ∀ i, i < n → sg2 i = sg i ∧ nm2 i = nm i) (b : ∀ h, h < hs → fr2 h = fr h ∧ up2 h = up h ∧ go2 h = go h) (h : RIG n hs sg nm fr up go d) : RIG n hs sg2 nm2 fr2 up2 go2 d :=
  ⟨fun i hi hd => (h.1 i hi hd).cp a b hi, fun S h0 hS => h.2.1 S h0 (fun j k hj hk => hS j k hj (hk.cp a b)), h.2.2⟩
end
theorem mk_cp {n : Nat} {r r2 : Nat → Int32} (h : ∀ i, i < n → r2 i = r i) : mk n r2 = mk n r := by
  funext i
  unfold mk
  by_cases q : i < n
  · rw [if_pos q, if_pos q, h i q]
  · rw [if_neg q, if_neg q]
theorem c_s {x : Int32} (h0 : 0 ≤ x.toInt) (h1 : x.toInt < 2147483647) : (x + 1).toNatClampNeg = x.toNatClampNeg + 1 := by
  have k1 : (1 : Int32).toInt = 1 := by decide
  have e := fb_addI (x := x) (y := 1) (by rw [k1]; omega) (by rw [k1]; omega)
  rw [k1] at e
  have a := clamp_I (x := x + 1) (by omega)
  have b := clamp_I h0
  omega
