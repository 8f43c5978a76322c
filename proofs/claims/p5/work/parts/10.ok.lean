/-- a function answers, and its answer is so -/
def OK {α : Type} (o : Option α) (P : α → Prop) : Prop := ∃ a, o = some a ∧ P a
theorem ok_ret {α : Type} {a : α} {P : α → Prop} (h : P a) : OK (some a) P := ⟨a, rfl, h⟩
theorem ok_lt {α β : Type} {x : α} {K : α → Option β} {P : β → Prop} (h : ∀ v, v = x → OK (K v) P) : OK (lt x K) P := h x rfl
theorem ok_ix {β : Type} {n : Nat} {i : Int32} {K : Option β} {P : β → Prop} (hi : 0 ≤ i.toInt ∧ i.toInt < (n : Int)) (h : OK K P) : OK (ix n i K) P := by
  unfold ix
  rw [if_pos hi]; exact h
theorem ok_nz {β : Type} {y : Int32} {K : Option β} {P : β → Prop} (hy : ¬ y = 0) (h : OK K P) : OK (nz y K) P := by
  unfold nz
  rw [if_neg hy]; exact h
theorem ok_bz {β : Type} {y : Int32} {K : Option β} {P : β → Prop} (hy : y = 0 ∨ y = 1) (h : OK K P) : OK (bz y K) P := by
  unfold bz
  rw [if_pos hy]; exact h
theorem ok_calv {α β : Type} {o : Option (α × Sto)} {K : α → Sto → Option β} {Q : α × Sto → Prop} {P : β → Prop} (ho : OK o Q) (h : ∀ a s, Q (a, s) → OK (K a s) P) : OK (calv o K) P := by
  obtain ⟨⟨a, s⟩, rfl, hq⟩ := ho
  exact h a s hq
theorem ok_cals {β : Type} {o : Option Sto} {K : Sto → Option β} {Q : Sto → Prop} {P : β → Prop} (ho : OK o Q) (h : ∀ s, Q s → OK (K s) P) : OK (cals o K) P := by
  obtain ⟨s, rfl, hq⟩ := ho
  exact h s hq
theorem ok_calp {α β : Type} {o : Option α} {K : α → Option β} {Q : α → Prop} {P : β → Prop} (ho : OK o Q) (h : ∀ a, Q a → OK (K a) P) : OK (calp o K) P := by
  obtain ⟨a, rfl, hq⟩ := ho
  exact h a hq
theorem ok_ite {β : Type} {c : Prop} {d : Decidable c} {a b : Option β} {P : β → Prop} (h1 : c → OK a P) (h2 : ¬ c → OK b P) : OK (if c then a else b) P := by
  by_cases hc : c
  · rw [if_pos hc]; exact h1 hc
  · rw [if_neg hc]; exact h2 hc
theorem ok_jn {κ β : Type} {F : κ} {B : κ → Option β} {P : β → Prop} (h : OK (B F) P) : OK (jn F B) P := h
theorem ok_imp {α : Type} {o : Option α} {P Q : α → Prop} (h : OK o P) (hi : ∀ a, P a → Q a) : OK o Q := by
  obtain ⟨a, h1, h2⟩ := h
  exact ⟨a, h1, hi a h2⟩
theorem ok_get {α : Type} {o : Option α} {P : α → Prop} (h : OK o P) {a : α} (ha : o = some a) : P a := by
  obtain ⟨b, h1, h2⟩ := h
  rw [h1] at ha
  exact Option.some.inj ha ▸ h2
/-- what a call leaves as it was: rows of ints but some, rows of longs but some -/
def FR (ms ml : List Nat) (σ s : Sto) : Prop := (∀ k, k ∉ ms → s.1 k = σ.1 k) ∧ (∀ k, k ∉ ml → s.2 k = σ.2 k)
theorem FR.rf {ms ml : List Nat} {σ : Sto} : FR ms ml σ σ := ⟨fun _ _ => rfl, fun _ _ => rfl⟩
theorem FR.st {ms ml : List Nat} {σ s : Sto} (h : FR ms ml σ s) {k i : Nat} {v : Int32} (hk : k ∈ ms) : FR ms ml σ (sti s k i v) := by
  refine ⟨fun q hq => ?_, h.2⟩
  have hn : ¬ q = k := fun e => hq (by rw [e]; exact hk)
  exact (if_neg hn).trans (h.1 q hq)
theorem FR.stl {ms ml : List Nat} {σ s : Sto} (h : FR ms ml σ s) {k i : Nat} {v : Int64} (hk : k ∈ ml) : FR ms ml σ (stl s k i v) := by
  refine ⟨h.1, fun q hq => ?_⟩
  have hn : ¬ q = k := fun e => hq (by rw [e]; exact hk)
  exact (if_neg hn).trans (h.2 q hq)
theorem FR.stc {ms ml : List Nat} {σ s : Sto} (h : FR ms ml σ s) {k : Nat} {f : Nat → Int32} (hk : k ∈ ms) : FR ms ml σ (stc s k f) := by
  refine ⟨fun q hq => ?_, h.2⟩
  have hn : ¬ q = k := fun e => hq (by rw [e]; exact hk)
  exact (if_neg hn).trans (h.1 q hq)
theorem FR.cal {ms ml ms2 ml2 : List Nat} {σ s t : Sto} (h : FR ms ml σ s) (h2 : FR ms2 ml2 s t) (h3 : ms2.all (fun k => ms.contains k) = true) (h4 : ml2.all (fun k => ml.contains k) = true) : FR ms ml σ t := by
  refine ⟨fun k hk => ?_, fun k hk => ?_⟩
  · rw [h2.1 k (fun z => hk (by simpa using List.all_eq_true.mp h3 k z)), h.1 k hk]
  · rw [h2.2 k (fun z => hk (by simpa using List.all_eq_true.mp h4 k z)), h.2 k hk]
theorem mx_spec {a b v : Int32} (h : v = if a < b then b else a) : a.toInt ≤ v.toInt ∧ b.toInt ≤ v.toInt ∧ (v.toInt = a.toInt ∨ v.toInt = b.toInt) := by
  subst h
  by_cases c : a < b
  · rw [if_pos c]; rw [fa_lt] at c; omega
  · rw [if_neg c]; rw [fa_lt] at c; omega
theorem tI_rng (x : Int32) : -2147483648 ≤ x.toInt ∧ x.toInt ≤ 2147483647 := by
  have := fb_rng x
  omega
/-- all rows of ints lie between bounds -/
def BD (lo hi : Nat → Int) (σ : Sto) : Prop := ∀ k i, lo k ≤ (σ.1 k i).toInt ∧ (σ.1 k i).toInt ≤ hi k
theorem sti_at (σ : Sto) (k i : Nat) (v : Int32) (q j : Nat) : (sti σ k i v).1 q j = if q = k ∧ j = i then v else σ.1 q j := by
  show (if q = k then upd (σ.1 k) i v else σ.1 q) j = _
  by_cases e : q = k
  · subst e
    rw [if_pos rfl]
    by_cases e2 : j = i
    · rw [e2, pk_us, if_pos ⟨rfl, rfl⟩]
    · rw [pk_un e2, if_neg (fun h => e2 h.2)]
  · rw [if_neg e, if_neg (fun h => e h.1)]
theorem sti_s (σ : Sto) (k i : Nat) (v : Int32) : (sti σ k i v).1 k i = v := by rw [sti_at, if_pos ⟨rfl, rfl⟩]
theorem sti_o {σ : Sto} {k i : Nat} {v : Int32} {q : Nat} (h : q ≠ k) : (sti σ k i v).1 q = σ.1 q := if_neg h
theorem sti_j {σ : Sto} {k i : Nat} {v : Int32} {j : Nat} (h : j ≠ i) : (sti σ k i v).1 k j = σ.1 k j := by rw [sti_at, if_neg (fun z => h z.2)]
theorem stl_at (σ : Sto) (k i : Nat) (v : Int64) (q j : Nat) : (stl σ k i v).2 q j = if q = k ∧ j = i then v else σ.2 q j := by
  show (if q = k then vp_updL (σ.2 k) i v else σ.2 q) j = _
  by_cases e : q = k
  · subst e
    rw [if_pos rfl]
    by_cases e2 : j = i
    · rw [e2, pk_uLs, if_pos ⟨rfl, rfl⟩]
    · rw [pk_uLn e2, if_neg (fun h => e2 h.2)]
  · rw [if_neg e, if_neg (fun h => e h.1)]
theorem stl_s (σ : Sto) (k i : Nat) (v : Int64) : (stl σ k i v).2 k i = v := by rw [stl_at, if_pos ⟨rfl, rfl⟩]
theorem stl_o {σ : Sto} {k i : Nat} {v : Int64} {q : Nat} (h : q ≠ k) : (stl σ k i v).2 q = σ.2 q := if_neg h
theorem stl_j {σ : Sto} {k i : Nat} {v : Int64} {j : Nat} (h : j ≠ i) : (stl σ k i v).2 k j = σ.2 k j := by rw [stl_at, if_neg (fun z => h z.2)]
theorem BD.st {lo hi : Nat → Int} {σ : Sto} (h : BD lo hi σ) {k i : Nat} {v : Int32} (hv : lo k ≤ v.toInt ∧ v.toInt ≤ hi k) : BD lo hi (sti σ k i v) := by
  intro q j
  rw [sti_at]
  by_cases e : q = k ∧ j = i
  · rw [if_pos e, e.1]; exact hv
  · rw [if_neg e]; exact h q j
theorem BD.stl {lo hi : Nat → Int} {σ : Sto} (h : BD lo hi σ) {k i : Nat} {v : Int64} : BD lo hi (stl σ k i v) := h
theorem BD.stc {lo hi : Nat → Int} {σ : Sto} (h : BD lo hi σ) {k : Nat} {f : Nat → Int32} (hf : ∀ j, lo k ≤ (f j).toInt ∧ (f j).toInt ≤ hi k) : BD lo hi (stc σ k f) := by
  intro q j
  show lo q ≤ ((if q = k then f else σ.1 q) j).toInt ∧ ((if q = k then f else σ.1 q) j).toInt ≤ hi q
  by_cases e : q = k
  · subst e; rw [if_pos rfl]; exact hf j
  · rw [if_neg e]; exact h q j
theorem and_rng {x c : Int32} (n : Nat) (hc : c = nI n) (hn : n < 2 ^ 31) : 0 ≤ (x &&& c).toInt ∧ (x &&& c).toInt ≤ n := by
  subst hc
  have e : (x &&& nI n).toInt = ((x.toBitVec &&& (nI n).toBitVec).toInt) := rfl
  have h1 : (nI n).toBitVec.toNat = n := by
    show (BitVec.ofNat 32 n).toNat = n
    simp only [BitVec.toNat_ofNat]; omega
  have h2 : (x.toBitVec &&& (nI n).toBitVec).toNat ≤ n := by
    rw [BitVec.toNat_and, h1]; exact Nat.and_le_right
  rw [e, BitVec.toInt_eq_toNat_cond]
  have h3 : 2 * (x.toBitVec &&& (nI n).toBitVec).toNat < 2 ^ 32 := by omega
  rw [if_pos h3]
  omega
theorem i8_rng (x : Int8) : -128 ≤ x.toInt32.toInt ∧ x.toInt32.toInt ≤ 127 := by
  rw [Int8.toInt_toInt32]
  have h1 := Int8.le_toInt x
  have h2 := Int8.toInt_lt x
  omega
theorem div_I {x : Int32} {n : Nat} (h0 : 0 ≤ x.toInt) (h1 : 0 < n) (h2 : n < 2 ^ 31) : (x / nI n).toInt = x.toInt / (n : Int) := by
  have k0 : (0 : Int32).toInt = 0 := by decide
  obtain ⟨a, ha, rfl⟩ := nI_of (x := x) (by rw [fa_lt]; omega)
  have hq : a / n < 2 ^ 31 := Nat.lt_of_le_of_lt (Nat.div_le_self a n) ha
  rw [pk_div ha h1 h2, nI_toInt hq, nI_toInt ha]
  exact Int.natCast_ediv a n
theorem rem_I {x : Int32} {n : Nat} (h0 : 0 ≤ x.toInt) (h1 : 0 < n) (h2 : n < 2 ^ 31) : (x - x / nI n * nI n).toInt = x.toInt % (n : Int) := by
  have k0 : (0 : Int32).toInt = 0 := by decide
  obtain ⟨a, ha, rfl⟩ := nI_of (x := x) (by rw [fa_lt]; omega)
  have hq : a % n < 2 ^ 31 := Nat.lt_trans (Nat.mod_lt a h1) h2
  rw [pk_rem ha h1 h2, nI_toInt hq, nI_toInt ha]
  exact Int.natCast_emod a n
theorem ch_rng (i : Nat) (k : Int32) : 0 ≤ (chS i k).toInt ∧ (chS i k).toInt ≤ 255 := by
  have h : chS i k = (byS i k.toNatClampNeg &&& 255 : Int32) := (by_and i k.toNatClampNeg).symm
  rw [h]
  exact and_rng 255 rfl (by decide)
theorem clamp_I {x : Int32} (h : 0 ≤ x.toInt) : (x.toNatClampNeg : Int) = x.toInt := by
  show ((x.toInt.toNat : Nat) : Int) = x.toInt
  omega
theorem clamp_le (x : Int32) : 0 ≤ x.toInt → (x.toNatClampNeg : Int) = x.toInt := clamp_I
theorem ok_itr0 {β : Type} {F : (Option β) → (Option β)} {P : β → Prop} (I : Nat → Prop) (step : ∀ (ag : Option β) (n : Nat) , I n  → (∀ (n2 : Nat) , n2 < n → I n2  → OK (ag ) P) → OK (F ag ) P) {n : Nat} (h : I n ) {N : Nat} (hn : n < N) : OK (itr (none) F N ) P := by
  induction N generalizing n  with
  | zero => omega
  | succ N ih => exact step _ n  h (fun n2  h2 h3 => ih h3 (by omega))
theorem ok_jnI0 {β : Type} {F : Option β} {B : (Option β) → Option β} {P : β → Prop} (I : Prop) (hF : I  → OK (F ) P) (hB : ∀ k : (Option β), (I  → OK (k ) P) → OK (B k) P) : OK (jn F B) P := hB F hF
theorem ok_itr1 {S0 β : Type} {F : (S0 → Option β) → (S0 → Option β)} {P : β → Prop} {x0 : S0} (I : Nat → S0 → Prop) (step : ∀ (ag : S0 → Option β) (n : Nat) (x0 : S0), I n x0 → (∀ (n2 : Nat) (y0 : S0), n2 < n → I n2 y0 → OK (ag y0) P) → OK (F ag x0) P) {n : Nat} (h : I n x0) {N : Nat} (hn : n < N) : OK (itr (fun _ => none) F N x0) P := by
  induction N generalizing n x0 with
  | zero => omega
  | succ N ih => exact step _ n x0 h (fun n2 y0 h2 h3 => ih h3 (by omega))
theorem ok_jnI1 {S0 β : Type} {F : S0 → Option β} {B : (S0 → Option β) → Option β} {P : β → Prop} (I : S0 → Prop) (hF : ∀ (x0 : S0), I x0 → OK (F x0) P) (hB : ∀ k : (S0 → Option β), (∀ (x0 : S0), I x0 → OK (k x0) P) → OK (B k) P) : OK (jn F B) P := hB F hF
theorem ok_itr2 {S0 S1 β : Type} {F : (S0 → S1 → Option β) → (S0 → S1 → Option β)} {P : β → Prop} {x0 : S0} {x1 : S1} (I : Nat → S0 → S1 → Prop) (step : ∀ (ag : S0 → S1 → Option β) (n : Nat) (x0 : S0) (x1 : S1), I n x0 x1 → (∀ (n2 : Nat) (y0 : S0) (y1 : S1), n2 < n → I n2 y0 y1 → OK (ag y0 y1) P) → OK (F ag x0 x1) P) {n : Nat} (h : I n x0 x1) {N : Nat} (hn : n < N) : OK (itr (fun _ _ => none) F N x0 x1) P := by
  induction N generalizing n x0 x1 with
  | zero => omega
  | succ N ih => exact step _ n x0 x1 h (fun n2 y0 y1 h2 h3 => ih h3 (by omega))
theorem ok_jnI2 {S0 S1 β : Type} {F : S0 → S1 → Option β} {B : (S0 → S1 → Option β) → Option β} {P : β → Prop} (I : S0 → S1 → Prop) (hF : ∀ (x0 : S0) (x1 : S1), I x0 x1 → OK (F x0 x1) P) (hB : ∀ k : (S0 → S1 → Option β), (∀ (x0 : S0) (x1 : S1), I x0 x1 → OK (k x0 x1) P) → OK (B k) P) : OK (jn F B) P := hB F hF
theorem ok_itr3 {S0 S1 S2 β : Type} {F : (S0 → S1 → S2 → Option β) → (S0 → S1 → S2 → Option β)} {P : β → Prop} {x0 : S0} {x1 : S1} {x2 : S2} (I : Nat → S0 → S1 → S2 → Prop) (step : ∀ (ag : S0 → S1 → S2 → Option β) (n : Nat) (x0 : S0) (x1 : S1) (x2 : S2), I n x0 x1 x2 → (∀ (n2 : Nat) (y0 : S0) (y1 : S1) (y2 : S2), n2 < n → I n2 y0 y1 y2 → OK (ag y0 y1 y2) P) → OK (F ag x0 x1 x2) P) {n : Nat} (h : I n x0 x1 x2) {N : Nat} (hn : n < N) : OK (itr (fun _ _ _ => none) F N x0 x1 x2) P := by
  induction N generalizing n x0 x1 x2 with
  | zero => omega
  | succ N ih => exact step _ n x0 x1 x2 h (fun n2 y0 y1 y2 h2 h3 => ih h3 (by omega))
theorem ok_jnI3 {S0 S1 S2 β : Type} {F : S0 → S1 → S2 → Option β} {B : (S0 → S1 → S2 → Option β) → Option β} {P : β → Prop} (I : S0 → S1 → S2 → Prop) (hF : ∀ (x0 : S0) (x1 : S1) (x2 : S2), I x0 x1 x2 → OK (F x0 x1 x2) P) (hB : ∀ k : (S0 → S1 → S2 → Option β), (∀ (x0 : S0) (x1 : S1) (x2 : S2), I x0 x1 x2 → OK (k x0 x1 x2) P) → OK (B k) P) : OK (jn F B) P := hB F hF
theorem ok_itr4 {S0 S1 S2 S3 β : Type} {F : (S0 → S1 → S2 → S3 → Option β) → (S0 → S1 → S2 → S3 → Option β)} {P : β → Prop} {x0 : S0} {x1 : S1} {x2 : S2} {x3 : S3} (I : Nat → S0 → S1 → S2 → S3 → Prop) (step : ∀ (ag : S0 → S1 → S2 → S3 → Option β) (n : Nat) (x0 : S0) (x1 : S1) (x2 : S2) (x3 : S3), I n x0 x1 x2 x3 → (∀ (n2 : Nat) (y0 : S0) (y1 : S1) (y2 : S2) (y3 : S3), n2 < n → I n2 y0 y1 y2 y3 → OK (ag y0 y1 y2 y3) P) → OK (F ag x0 x1 x2 x3) P) {n : Nat} (h : I n x0 x1 x2 x3) {N : Nat} (hn : n < N) : OK (itr (fun _ _ _ _ => none) F N x0 x1 x2 x3) P := by
  induction N generalizing n x0 x1 x2 x3 with
  | zero => omega
  | succ N ih => exact step _ n x0 x1 x2 x3 h (fun n2 y0 y1 y2 y3 h2 h3 => ih h3 (by omega))
theorem ok_jnI4 {S0 S1 S2 S3 β : Type} {F : S0 → S1 → S2 → S3 → Option β} {B : (S0 → S1 → S2 → S3 → Option β) → Option β} {P : β → Prop} (I : S0 → S1 → S2 → S3 → Prop) (hF : ∀ (x0 : S0) (x1 : S1) (x2 : S2) (x3 : S3), I x0 x1 x2 x3 → OK (F x0 x1 x2 x3) P) (hB : ∀ k : (S0 → S1 → S2 → S3 → Option β), (∀ (x0 : S0) (x1 : S1) (x2 : S2) (x3 : S3), I x0 x1 x2 x3 → OK (k x0 x1 x2 x3) P) → OK (B k) P) : OK (jn F B) P := hB F hF
theorem ok_itr5 {S0 S1 S2 S3 S4 β : Type} {F : (S0 → S1 → S2 → S3 → S4 → Option β) → (S0 → S1 → S2 → S3 → S4 → Option β)} {P : β → Prop} {x0 : S0} {x1 : S1} {x2 : S2} {x3 : S3} {x4 : S4} (I : Nat → S0 → S1 → S2 → S3 → S4 → Prop) (step : ∀ (ag : S0 → S1 → S2 → S3 → S4 → Option β) (n : Nat) (x0 : S0) (x1 : S1) (x2 : S2) (x3 : S3) (x4 : S4), I n x0 x1 x2 x3 x4 → (∀ (n2 : Nat) (y0 : S0) (y1 : S1) (y2 : S2) (y3 : S3) (y4 : S4), n2 < n → I n2 y0 y1 y2 y3 y4 → OK (ag y0 y1 y2 y3 y4) P) → OK (F ag x0 x1 x2 x3 x4) P) {n : Nat} (h : I n x0 x1 x2 x3 x4) {N : Nat} (hn : n < N) : OK (itr (fun _ _ _ _ _ => none) F N x0 x1 x2 x3 x4) P := by
  induction N generalizing n x0 x1 x2 x3 x4 with
  | zero => omega
  | succ N ih => exact step _ n x0 x1 x2 x3 x4 h (fun n2 y0 y1 y2 y3 y4 h2 h3 => ih h3 (by omega))
theorem ok_jnI5 {S0 S1 S2 S3 S4 β : Type} {F : S0 → S1 → S2 → S3 → S4 → Option β} {B : (S0 → S1 → S2 → S3 → S4 → Option β) → Option β} {P : β → Prop} (I : S0 → S1 → S2 → S3 → S4 → Prop) (hF : ∀ (x0 : S0) (x1 : S1) (x2 : S2) (x3 : S3) (x4 : S4), I x0 x1 x2 x3 x4 → OK (F x0 x1 x2 x3 x4) P) (hB : ∀ k : (S0 → S1 → S2 → S3 → S4 → Option β), (∀ (x0 : S0) (x1 : S1) (x2 : S2) (x3 : S3) (x4 : S4), I x0 x1 x2 x3 x4 → OK (k x0 x1 x2 x3 x4) P) → OK (B k) P) : OK (jn F B) P := hB F hF
theorem ok_itr6 {S0 S1 S2 S3 S4 S5 β : Type} {F : (S0 → S1 → S2 → S3 → S4 → S5 → Option β) → (S0 → S1 → S2 → S3 → S4 → S5 → Option β)} {P : β → Prop} {x0 : S0} {x1 : S1} {x2 : S2} {x3 : S3} {x4 : S4} {x5 : S5} (I : Nat → S0 → S1 → S2 → S3 → S4 → S5 → Prop) (step : ∀ (ag : S0 → S1 → S2 → S3 → S4 → S5 → Option β) (n : Nat) (x0 : S0) (x1 : S1) (x2 : S2) (x3 : S3) (x4 : S4) (x5 : S5), I n x0 x1 x2 x3 x4 x5 → (∀ (n2 : Nat) (y0 : S0) (y1 : S1) (y2 : S2) (y3 : S3) (y4 : S4) (y5 : S5), n2 < n → I n2 y0 y1 y2 y3 y4 y5 → OK (ag y0 y1 y2 y3 y4 y5) P) → OK (F ag x0 x1 x2 x3 x4 x5) P) {n : Nat} (h : I n x0 x1 x2 x3 x4 x5) {N : Nat} (hn : n < N) : OK (itr (fun _ _ _ _ _ _ => none) F N x0 x1 x2 x3 x4 x5) P := by
  induction N generalizing n x0 x1 x2 x3 x4 x5 with
  | zero => omega
  | succ N ih => exact step _ n x0 x1 x2 x3 x4 x5 h (fun n2 y0 y1 y2 y3 y4 y5 h2 h3 => ih h3 (by omega))
theorem ok_jnI6 {S0 S1 S2 S3 S4 S5 β : Type} {F : S0 → S1 → S2 → S3 → S4 → S5 → Option β} {B : (S0 → S1 → S2 → S3 → S4 → S5 → Option β) → Option β} {P : β → Prop} (I : S0 → S1 → S2 → S3 → S4 → S5 → Prop) (hF : ∀ (x0 : S0) (x1 : S1) (x2 : S2) (x3 : S3) (x4 : S4) (x5 : S5), I x0 x1 x2 x3 x4 x5 → OK (F x0 x1 x2 x3 x4 x5) P) (hB : ∀ k : (S0 → S1 → S2 → S3 → S4 → S5 → Option β), (∀ (x0 : S0) (x1 : S1) (x2 : S2) (x3 : S3) (x4 : S4) (x5 : S5), I x0 x1 x2 x3 x4 x5 → OK (k x0 x1 x2 x3 x4 x5) P) → OK (B k) P) : OK (jn F B) P := hB F hF
theorem ok_itr7 {S0 S1 S2 S3 S4 S5 S6 β : Type} {F : (S0 → S1 → S2 → S3 → S4 → S5 → S6 → Option β) → (S0 → S1 → S2 → S3 → S4 → S5 → S6 → Option β)} {P : β → Prop} {x0 : S0} {x1 : S1} {x2 : S2} {x3 : S3} {x4 : S4} {x5 : S5} {x6 : S6} (I : Nat → S0 → S1 → S2 → S3 → S4 → S5 → S6 → Prop) (step : ∀ (ag : S0 → S1 → S2 → S3 → S4 → S5 → S6 → Option β) (n : Nat) (x0 : S0) (x1 : S1) (x2 : S2) (x3 : S3) (x4 : S4) (x5 : S5) (x6 : S6), I n x0 x1 x2 x3 x4 x5 x6 → (∀ (n2 : Nat) (y0 : S0) (y1 : S1) (y2 : S2) (y3 : S3) (y4 : S4) (y5 : S5) (y6 : S6), n2 < n → I n2 y0 y1 y2 y3 y4 y5 y6 → OK (ag y0 y1 y2 y3 y4 y5 y6) P) → OK (F ag x0 x1 x2 x3 x4 x5 x6) P) {n : Nat} (h : I n x0 x1 x2 x3 x4 x5 x6) {N : Nat} (hn : n < N) : OK (itr (fun _ _ _ _ _ _ _ => none) F N x0 x1 x2 x3 x4 x5 x6) P := by
  induction N generalizing n x0 x1 x2 x3 x4 x5 x6 with
  | zero => omega
  | succ N ih => exact step _ n x0 x1 x2 x3 x4 x5 x6 h (fun n2 y0 y1 y2 y3 y4 y5 y6 h2 h3 => ih h3 (by omega))
theorem ok_jnI7 {S0 S1 S2 S3 S4 S5 S6 β : Type} {F : S0 → S1 → S2 → S3 → S4 → S5 → S6 → Option β} {B : (S0 → S1 → S2 → S3 → S4 → S5 → S6 → Option β) → Option β} {P : β → Prop} (I : S0 → S1 → S2 → S3 → S4 → S5 → S6 → Prop) (hF : ∀ (x0 : S0) (x1 : S1) (x2 : S2) (x3 : S3) (x4 : S4) (x5 : S5) (x6 : S6), I x0 x1 x2 x3 x4 x5 x6 → OK (F x0 x1 x2 x3 x4 x5 x6) P) (hB : ∀ k : (S0 → S1 → S2 → S3 → S4 → S5 → S6 → Option β), (∀ (x0 : S0) (x1 : S1) (x2 : S2) (x3 : S3) (x4 : S4) (x5 : S5) (x6 : S6), I x0 x1 x2 x3 x4 x5 x6 → OK (k x0 x1 x2 x3 x4 x5 x6) P) → OK (B k) P) : OK (jn F B) P := hB F hF
theorem ok_itr8 {S0 S1 S2 S3 S4 S5 S6 S7 β : Type} {F : (S0 → S1 → S2 → S3 → S4 → S5 → S6 → S7 → Option β) → (S0 → S1 → S2 → S3 → S4 → S5 → S6 → S7 → Option β)} {P : β → Prop} {x0 : S0} {x1 : S1} {x2 : S2} {x3 : S3} {x4 : S4} {x5 : S5} {x6 : S6} {x7 : S7} (I : Nat → S0 → S1 → S2 → S3 → S4 → S5 → S6 → S7 → Prop) (step : ∀ (ag : S0 → S1 → S2 → S3 → S4 → S5 → S6 → S7 → Option β) (n : Nat) (x0 : S0) (x1 : S1) (x2 : S2) (x3 : S3) (x4 : S4) (x5 : S5) (x6 : S6) (x7 : S7), I n x0 x1 x2 x3 x4 x5 x6 x7 → (∀ (n2 : Nat) (y0 : S0) (y1 : S1) (y2 : S2) (y3 : S3) (y4 : S4) (y5 : S5) (y6 : S6) (y7 : S7), n2 < n → I n2 y0 y1 y2 y3 y4 y5 y6 y7 → OK (ag y0 y1 y2 y3 y4 y5 y6 y7) P) → OK (F ag x0 x1 x2 x3 x4 x5 x6 x7) P) {n : Nat} (h : I n x0 x1 x2 x3 x4 x5 x6 x7) {N : Nat} (hn : n < N) : OK (itr (fun _ _ _ _ _ _ _ _ => none) F N x0 x1 x2 x3 x4 x5 x6 x7) P := by
  induction N generalizing n x0 x1 x2 x3 x4 x5 x6 x7 with
  | zero => omega
  | succ N ih => exact step _ n x0 x1 x2 x3 x4 x5 x6 x7 h (fun n2 y0 y1 y2 y3 y4 y5 y6 y7 h2 h3 => ih h3 (by omega))
theorem ok_jnI8 {S0 S1 S2 S3 S4 S5 S6 S7 β : Type} {F : S0 → S1 → S2 → S3 → S4 → S5 → S6 → S7 → Option β} {B : (S0 → S1 → S2 → S3 → S4 → S5 → S6 → S7 → Option β) → Option β} {P : β → Prop} (I : S0 → S1 → S2 → S3 → S4 → S5 → S6 → S7 → Prop) (hF : ∀ (x0 : S0) (x1 : S1) (x2 : S2) (x3 : S3) (x4 : S4) (x5 : S5) (x6 : S6) (x7 : S7), I x0 x1 x2 x3 x4 x5 x6 x7 → OK (F x0 x1 x2 x3 x4 x5 x6 x7) P) (hB : ∀ k : (S0 → S1 → S2 → S3 → S4 → S5 → S6 → S7 → Option β), (∀ (x0 : S0) (x1 : S1) (x2 : S2) (x3 : S3) (x4 : S4) (x5 : S5) (x6 : S6) (x7 : S7), I x0 x1 x2 x3 x4 x5 x6 x7 → OK (k x0 x1 x2 x3 x4 x5 x6 x7) P) → OK (B k) P) : OK (jn F B) P := hB F hF
theorem ok_itr9 {S0 S1 S2 S3 S4 S5 S6 S7 S8 β : Type} {F : (S0 → S1 → S2 → S3 → S4 → S5 → S6 → S7 → S8 → Option β) → (S0 → S1 → S2 → S3 → S4 → S5 → S6 → S7 → S8 → Option β)} {P : β → Prop} {x0 : S0} {x1 : S1} {x2 : S2} {x3 : S3} {x4 : S4} {x5 : S5} {x6 : S6} {x7 : S7} {x8 : S8} (I : Nat → S0 → S1 → S2 → S3 → S4 → S5 → S6 → S7 → S8 → Prop) (step : ∀ (ag : S0 → S1 → S2 → S3 → S4 → S5 → S6 → S7 → S8 → Option β) (n : Nat) (x0 : S0) (x1 : S1) (x2 : S2) (x3 : S3) (x4 : S4) (x5 : S5) (x6 : S6) (x7 : S7) (x8 : S8), I n x0 x1 x2 x3 x4 x5 x6 x7 x8 → (∀ (n2 : Nat) (y0 : S0) (y1 : S1) (y2 : S2) (y3 : S3) (y4 : S4) (y5 : S5) (y6 : S6) (y7 : S7) (y8 : S8), n2 < n → I n2 y0 y1 y2 y3 y4 y5 y6 y7 y8 → OK (ag y0 y1 y2 y3 y4 y5 y6 y7 y8) P) → OK (F ag x0 x1 x2 x3 x4 x5 x6 x7 x8) P) {n : Nat} (h : I n x0 x1 x2 x3 x4 x5 x6 x7 x8) {N : Nat} (hn : n < N) : OK (itr (fun _ _ _ _ _ _ _ _ _ => none) F N x0 x1 x2 x3 x4 x5 x6 x7 x8) P := by
  induction N generalizing n x0 x1 x2 x3 x4 x5 x6 x7 x8 with
  | zero => omega
  | succ N ih => exact step _ n x0 x1 x2 x3 x4 x5 x6 x7 x8 h (fun n2 y0 y1 y2 y3 y4 y5 y6 y7 y8 h2 h3 => ih h3 (by omega))
theorem ok_jnI9 {S0 S1 S2 S3 S4 S5 S6 S7 S8 β : Type} {F : S0 → S1 → S2 → S3 → S4 → S5 → S6 → S7 → S8 → Option β} {B : (S0 → S1 → S2 → S3 → S4 → S5 → S6 → S7 → S8 → Option β) → Option β} {P : β → Prop} (I : S0 → S1 → S2 → S3 → S4 → S5 → S6 → S7 → S8 → Prop) (hF : ∀ (x0 : S0) (x1 : S1) (x2 : S2) (x3 : S3) (x4 : S4) (x5 : S5) (x6 : S6) (x7 : S7) (x8 : S8), I x0 x1 x2 x3 x4 x5 x6 x7 x8 → OK (F x0 x1 x2 x3 x4 x5 x6 x7 x8) P) (hB : ∀ k : (S0 → S1 → S2 → S3 → S4 → S5 → S6 → S7 → S8 → Option β), (∀ (x0 : S0) (x1 : S1) (x2 : S2) (x3 : S3) (x4 : S4) (x5 : S5) (x6 : S6) (x7 : S7) (x8 : S8), I x0 x1 x2 x3 x4 x5 x6 x7 x8 → OK (k x0 x1 x2 x3 x4 x5 x6 x7 x8) P) → OK (B k) P) : OK (jn F B) P := hB F hF
