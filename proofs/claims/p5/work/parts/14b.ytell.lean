/-- lines that stand in others, from a place on -/
def OC (l : List Ln) (a : Nat) (x : List Ln) : Prop := ∀ (i : Nat) (y : Ln), x[i]? = some y → l[a + i]? = some y
theorem OC.self {l : List Ln} : OC l 0 l := fun i y h => by rw [Nat.zero_add]; exact h
theorem OC.tr {l x y : List Ln} {a b : Nat} (h : OC l a x) (g : OC x b y) : OC l (a + b) y := fun i z hz => by
  rw [Nat.add_assoc]; exact h _ _ (g i z hz)
theorem OC.l {l x y : List Ln} {a : Nat} (h : OC l a (x ++ y)) : OC l a x := fun i z hz => h i z (by
  have hl : i < x.length := (List.getElem?_eq_some_iff.mp hz).1
  rw [List.getElem?_append, if_pos hl]; exact hz)
theorem OC.r {l x y : List Ln} {a : Nat} (h : OC l a (x ++ y)) : OC l (a + x.length) y := fun i z hz => by
  have := h (x.length + i) z (by
    rw [List.getElem?_append, if_neg (by omega), show x.length + i - x.length = i by omega]; exact hz)
  rw [Nat.add_assoc]; exact this
theorem OC.h {l y : List Ln} {z : Ln} {a : Nat} (h : OC l a ([z] ++ y)) : l[a]? = some z := by
  have := h 0 z (by simp)
  rw [Nat.add_zero] at this; exact this
theorem OC.t {l y : List Ln} {z : Ln} {a : Nat} (h : OC l a ([z] ++ y)) : OC l (a + 1) y := OC.r (x := [z]) h
theorem OC.one {l : List Ln} {z : Ln} {a : Nat} (h : OC l a [z]) : l[a]? = some z := by
  have := h 0 z (by simp)
  rw [Nat.add_zero] at this; exact this
theorem OC.to {l x y : List Ln} {a : Nat} (h : OC l a x) (e : x = y) : OC l a y := e ▸ h
theorem stLs_at (b a : Int) : ∀ (n i : Nat), i < n → (stLs b a n)[i]? = some (0, b, a + i)
  | 0, i, h => by omega
  | n + 1, i, h => by
    unfold stLs
    rw [List.getElem?_append, stLs_len]
    by_cases q : i < n
    · rw [if_pos q]; exact stLs_at b a n i q
    · have e : i = n := by omega
      subst e
      rw [if_neg q, Nat.sub_self]
      rfl
theorem LNW.lt_b {σ : Sto} (h : LNW σ) {e : Nat} (he : FW σ e) : eB σ e < nB σ := (h.efi e he.1.1).2
/-- what a line must keep to -/
def LOK (σ : Sto) (x : Ln) : Prop := (x.1 = 0 → 0 ≤ x.2.2 ∧ x.2.2 < (σ.1 47 0).toInt) ∧ (x.1 = 3 → ∃ b : Nat, x.2.1 = b ∧ b < nB σ ∧ FORK σ b)
theorem LOK.o {σ : Sto} {k b o : Int} (h0 : k ≠ 0) (h3 : k ≠ 3) : LOK σ (k, b, o) := ⟨fun z => absurd z h0, fun z => absurd z h3⟩
def ALO (σ : Sto) (l : List Ln) : Prop := ∀ x, x ∈ l → LOK σ x
theorem ALO.nil {σ : Sto} : ALO σ [] := fun x h => by simp at h
theorem ALO.app {σ : Sto} {l m : List Ln} (h : ALO σ l) (g : ALO σ m) : ALO σ (l ++ m) := fun x hx => by
  rcases List.mem_append.mp hx with z | z
  · exact h x z
  · exact g x z
theorem ALO.one {σ : Sto} {x : Ln} (h : LOK σ x) : ALO σ [x] := fun y hy => by
  rw [List.mem_singleton.mp hy]; exact h
theorem ALO.ty (σ : Sto) (b : Nat) : ALO σ (tyL σ b) := by
  unfold tyL
  by_cases q : (σ.1 25 b).toInt = -1
  · rw [if_pos q]; exact ALO.nil
  · rw [if_neg q]; exact ALO.one (LOK.o (by decide) (by decide))
theorem ALO.ca (σ : Sto) (b : Nat) : ALO σ (caL σ b) := by
  unfold caL
  by_cases q : (σ.1 25 b).toInt = -1
  · rw [if_pos q]; exact ALO.nil
  · rw [if_neg q]; exact ALO.one (LOK.o (by decide) (by decide))
theorem ALO.st {σ : Sto} {b a : Int} : ∀ {n : Nat}, 0 ≤ a → a + n ≤ (σ.1 47 0).toInt → ALO σ (stLs b a n)
  | 0, _, _ => ALO.nil
  | n + 1, h, g => (ALO.st (n := n) h (by omega)).app (ALO.one ⟨fun _ => by
      show 0 ≤ a + (n : Int) ∧ a + (n : Int) < _
      omega, fun z => absurd (show (0 : Int) = 3 from z) (by decide)⟩)
theorem TEL.ok {σ : Sto} (h : LNW σ) : ∀ (d w b : Nat) (k : Int) (l : List Ln), b < nB σ → TEL σ d w b k l → ALO σ l
  | 0, _, _, _, _, _, q => q.elim
  | d + 1, w, b, k, l, hb, q => by
    rcases q with ⟨_, ⟨_, q⟩ | ⟨_, l1, q, e⟩⟩ | ⟨_, ⟨_, q⟩ | ⟨m, l1, l2, hm, _, _, q1, q2, e⟩⟩ | ⟨_, tl, e, q⟩ | ⟨_, e, _, _, _, ⟨_, q⟩ | ⟨_, _, q⟩ | ⟨_, _, q⟩ | ⟨fw, _, q⟩⟩
    · exact TEL.ok h d _ _ _ _ hb q
    · rw [e]; exact (ALO.one (LOK.o (by decide) (by decide))).app ((TEL.ok h d _ _ _ _ hb q).app (ALO.one (LOK.o (by decide) (by decide))))
    · exact TEL.ok h d _ _ _ _ hb q
    · rw [e]; exact (ALO.one (LOK.o (by decide) (by decide))).app ((TEL.ok h d _ _ _ _ hb q1).app ((ALO.one (LOK.o (by decide) (by decide))).app (TEL.ok h d _ _ _ _ hm.1.1 q2)))
    · have ht : ALO σ tl := by
        rcases q with ⟨fk, l1, l2, q1, q2, e2⟩ | ⟨_, _, q⟩ | ⟨_, _, _, q⟩ | ⟨_, _, q⟩
        · rw [e2]; exact (ALO.one ⟨fun z => absurd (show (3 : Int) = 0 from z) (by decide), fun _ => ⟨b, rfl, hb, fk⟩⟩).app ((TEL.ok h d _ _ _ _ hb q1).app ((ALO.one (LOK.o (by decide) (by decide))).app ((TEL.ok h d _ _ _ _ hb q2).app (ALO.one (LOK.o (by decide) (by decide))))))
        · exact TEL.ok h d _ _ _ _ hb q
        · exact TEL.ok h d _ _ _ _ hb q
        · rw [q]; exact ALO.nil
      have st := h.2.2.2.2.2.2.2.1.2.2.2.1 b hb
      rw [e]; exact (ALO.one (LOK.o (by decide) (by decide))).app ((ALO.ty σ b).app ((ALO.st st.1 (by unfold sB; omega)).app ((ALO.ca σ b).app ht)))
    · rw [q]; exact ALO.one (LOK.o (by decide) (by decide))
    · rw [q]; exact ALO.one (LOK.o (by decide) (by decide))
    · rw [q]; exact ALO.one (LOK.o (by decide) (by decide))
    · exact TEL.ok h d _ _ _ _ (h.lt_b fw) q
/-- IF, ELSE, END of a choice of a block -/
def KY (q c : Nat) (x : Ln) : Bool := decide (x.2.1 = (c : Int) ∧ ((q = 3 ∧ x.1 = 3) ∨ (q = 4 ∧ x.1 = 4) ∨ (q = 5 ∧ x.1 = 5 ∧ x.2.2 = 3)))
def de (c : Nat) : Nat → Int := fun x => if x = c then 1 else 0
def setW (σ : Sto) (w b : Nat) (k : Int) : Nat → Prop := if w = 0 then SUBT σ b else if w = 1 then SMk σ b k else if w = 2 then SIn σ b else SGo σ b k
theorem de_nn {σ : Sto} (c : Nat) : ∀ x, x < nB σ → 0 ≤ de c x := fun x _ => by unfold de; split <;> omega
theorem de_b (c b : Nat) : de c b = if b = c then 1 else 0 := rfl
theorem ky_o {q c : Nat} {k b o : Int} (h3 : k ≠ 3) (h4 : k ≠ 4) (h5 : k ≠ 5 ∨ o ≠ 3) : KY q c (k, b, o) = false := by
  unfold KY
  rw [decide_eq_false_iff_not]
  rintro ⟨_, ⟨_, z⟩ | ⟨_, z⟩ | ⟨_, z, z2⟩⟩
  · exact h3 z
  · exact h4 z
  · rcases h5 with h | h
    · exact h z
    · exact h z2
theorem cp_one {p : Ln → Bool} {x : Ln} : List.countP p [x] = if p x = true then 1 else 0 := by
  rw [List.countP_cons]
  simp
theorem cp_o {q c : Nat} {k b o : Int} (h3 : k ≠ 3) (h4 : k ≠ 4) (h5 : k ≠ 5 ∨ o ≠ 3) : List.countP (KY q c) [(k, b, o)] = 0 := by
  rw [cp_one, ky_o h3 h4 h5]; rfl
theorem cp_st {q c : Nat} {b a : Int} : ∀ n, List.countP (KY q c) (stLs b a n) = 0
  | 0 => rfl
  | n + 1 => by
    unfold stLs
    rw [List.countP_append, cp_st n, cp_o (by decide) (by decide) (Or.inl (by decide))]
theorem cp_ty {q c : Nat} (σ : Sto) (b : Nat) : List.countP (KY q c) (tyL σ b) = 0 := by
  unfold tyL
  by_cases z : (σ.1 25 b).toInt = -1
  · rw [if_pos z]; rfl
  · rw [if_neg z, cp_o (by decide) (by decide) (Or.inl (by decide))]
theorem cp_ca {q c : Nat} (σ : Sto) (b : Nat) : List.countP (KY q c) (caL σ b) = 0 := by
  unfold caL
  by_cases z : (σ.1 25 b).toInt = -1
  · rw [if_pos z]; rfl
  · rw [if_neg z, cp_o (by decide) (by decide) (Or.inl (by decide))]
theorem cp_if {q c b : Nat} : (List.countP (KY q c) [(3, (b : Int), -1)] : Nat) + List.countP (KY q c) [(4, (b : Int), -1)] + List.countP (KY q c) [(5, (b : Int), 3)] ≤ if b = c then 1 else 0 := by
  rw [cp_one, cp_one, cp_one]
  unfold KY
  simp only [decide_eq_true_eq, Int.natCast_inj]
  by_cases z : b = c
  · simp only [z, true_and, if_true]
    by_cases q3 : q = 3
    · subst q3; simp
    · by_cases q4 : q = 4
      · subst q4; simp
      · by_cases q5 : q = 5
        · subst q5; simp
        · simp [q3, q4, q5]
  · simp [z]
theorem TEL.cp {σ : Sto} (h : LNW σ) (q c : Nat) : ∀ (d w b : Nat) (k : Int) (l : List Ln), b < nB σ → TEL σ d w b k l → (List.countP (KY q c) l : Int) ≤ wS σ (de c) (setW σ w b k)
  | 0, _, _, _, _, _, t => t.elim
  | d + 1, w, b, k, l, hb, t => by
    have nn := de_nn (σ := σ) c
    rcases t with ⟨w0, ⟨_, t⟩ | ⟨_, l1, t, e⟩⟩ | ⟨w1, ⟨_, t⟩ | ⟨m, l1, l2, hm, hk, _, t1, t2, e⟩⟩ | ⟨w2, tl, e, t⟩ | ⟨w3, e, _, e2, e3, ⟨_, t⟩ | ⟨_, _, t⟩ | ⟨_, _, t⟩ | ⟨fw, nm, t⟩⟩
    · subst w0
      exact Int.le_trans (TEL.cp h q c d _ _ _ _ hb t) (w_mk nn b (nB σ))
    · subst w0
      have := Int.le_trans (TEL.cp h q c d _ _ _ _ hb t) (w_mk nn b (nB σ))
      rw [e, List.countP_append, List.countP_append, cp_o (by decide) (by decide) (Or.inl (by decide)), cp_o (by decide) (by decide) (Or.inr (by decide)), Nat.zero_add, Nat.add_zero]
      exact this
    · subst w1
      exact Int.le_trans (TEL.cp h q c d _ _ _ _ hb t) (w_in nn b k)
    · subst w1
      have a1 := TEL.cp h q c d _ _ _ _ hb t1
      have a2 := TEL.cp h q c d _ _ _ _ hm.1.1 t2
      have a3 := w_mo h nn hm hk
      rw [e, List.countP_append, List.countP_append, List.countP_append, cp_o (by decide) (by decide) (Or.inl (by decide)), cp_o (by decide) (by decide) (Or.inr (by decide)), Nat.zero_add, Nat.zero_add]
      have s0 : setW σ 0 m 0 = SUBT σ m := rfl
      have s1 : setW σ 1 b (oR σ m) = SMk σ b (oR σ m) := rfl
      have s2 : setW σ 1 b k = SMk σ b k := rfl
      rw [s1] at a1
      rw [s0] at a2
      rw [s2]
      omega
    · subst w2
      have s2 : setW σ 2 b k = SIn σ b := rfl
      have s3 : ∀ t, setW σ 3 b t = SGo σ b t := fun _ => rfl
      rw [e, List.countP_append, List.countP_append, List.countP_append, List.countP_append, cp_o (by decide) (by decide) (Or.inl (by decide)), cp_ty, cp_st, cp_ca, Nat.zero_add, Nat.zero_add, Nat.zero_add, Nat.zero_add, s2]
      have db : 0 ≤ de c b := nn b hb
      rcases t with ⟨fk, l1, l2, t1, t2, e2⟩ | ⟨_, _, t⟩ | ⟨_, _, _, t⟩ | ⟨_, _, t⟩
      · have a1 := TEL.cp h q c d _ _ _ _ hb t1
        have a2 := TEL.cp h q c d _ _ _ _ hb t2
        rw [s3] at a1 a2
        have a3 : de c b + wS σ (de c) (SGo σ b (fallT σ b)) + wS σ (de c) (SGo σ b (jmpT σ b)) ≤ wS σ (de c) (SIn σ b) := w_two h nn hb fk.2
        have a4 := cp_if (q := q) (c := c) (b := b)
        have a5 : de c b = ((if b = c then 1 else 0 : Nat) : Int) := by rw [de_b]; split <;> rfl
        rw [e2, List.countP_append, List.countP_append, List.countP_append, List.countP_append]
        omega
      · have a1 := TEL.cp h q c d _ _ _ _ hb t
        rw [s3] at a1
        have a2 := w_one h nn hb (jmpT σ b)
        omega
      · have a1 := TEL.cp h q c d _ _ _ _ hb t
        rw [s3] at a1
        have a2 := w_one h nn hb (fallT σ b)
        omega
      · rw [t]
        exact wS_nn nn
    · rw [t, cp_o (by decide) (by decide) (Or.inl (by decide))]; exact wS_nn nn
    · rw [t, cp_o (by decide) (by decide) (Or.inl (by decide))]; exact wS_nn nn
    · rw [t, cp_o (by decide) (by decide) (Or.inl (by decide))]; exact wS_nn nn
    · subst w3
      have q' := h.efi e fw.1.1
      have ea : eA σ e = b := by
        have g := gM_27 h.1 e
        unfold eF at e2; unfold eA
        have := clamp_I (x := σ.1 27 e) (by omega)
        omega
      have eb : (eB σ e : Int) = k := by
        have g := gM_28 h.1 e
        unfold eT at e3; unfold eB
        have := clamp_I (x := σ.1 28 e) (by omega)
        omega
      exact Int.le_trans (TEL.cp h q c d _ _ _ _ (h.lt_b fw) t) (w_go nn fw ea eb nm)
theorem si_de {S : Nat → Prop} (c : Nat) : ∀ n, fb_si (fun x => @ite Int (S x) (Classical.propDecidable _) (de c x) 0) n ≤ if c < n then 1 else 0
  | 0 => Int.le_refl _
  | n + 1 => by
    rw [fb_si_succ]
    have ih := si_de (S := S) c n
    have a : @ite Int (S n) (Classical.propDecidable _) (de c n) 0 ≤ if n = c then 1 else 0 := by
      rw [de_b]
      by_cases q : S n
      · rw [if_pos q]; exact Int.le_refl _
      · rw [if_neg q]; split <;> omega
    by_cases q : n = c
    · rw [if_pos q] at a
      have i1_ : ¬ c < n := by omega
      have i2_ : c < n + 1 := by omega
      rw [if_neg i1_] at ih
      rw [if_pos i2_]
      omega
    · rw [if_neg q] at a
      by_cases r : c < n
      · have i2_ : c < n + 1 := by omega
        rw [if_pos r] at ih
        rw [if_pos i2_]
        omega
      · have i2_ : ¬ c < n + 1 := by omega
        rw [if_neg r] at ih
        rw [if_neg i2_]
        omega
theorem wS_de {σ : Sto} {S : Nat → Prop} (c : Nat) : wS σ (de c) S ≤ 1 := by
  have := si_de (S := S) c (nB σ)
  unfold wS
  by_cases q : c < nB σ
  · rw [if_pos q] at this; exact this
  · rw [if_neg q] at this; omega
theorem cp_pos {p : Ln → Bool} {l : List Ln} {i : Nat} {x : Ln} (h : l[i]? = some x) (hp : p x = true) : 1 ≤ List.countP p l := List.countP_pos_iff.mpr ⟨x, List.mem_of_getElem? h, hp⟩
theorem cp_two {p : Ln → Bool} : ∀ {l : List Ln} {i j : Nat} {x y : Ln}, l[i]? = some x → l[j]? = some y → p x = true → p y = true → i < j → 2 ≤ List.countP p l
  | [], i, j, x, y, h, _, _, _, _ => by simp at h
  | z :: l, 0, j + 1, x, y, h, g, hx, hy, _ => by
    have e : z = x := by simpa using h
    have g2 : l[j]? = some y := by simpa using g
    rw [List.countP_cons, e, if_pos hx]
    have := cp_pos g2 hy
    omega
  | z :: l, i + 1, j + 1, x, y, h, g, hx, hy, hij => by
    have h2 : l[i]? = some x := by simpa using h
    have g2 : l[j]? = some y := by simpa using g
    rw [List.countP_cons]
    have := cp_two h2 g2 hx hy (by omega)
    omega
theorem cp_u {p : Ln → Bool} {l : List Ln} {i j : Nat} {x y : Ln} (h : List.countP p l ≤ 1) (hi : l[i]? = some x) (hj : l[j]? = some y) (hx : p x = true) (hy : p y = true) : i = j := by
  rcases Nat.lt_trichotomy i j with z | z | z
  · have := cp_two hi hj hx hy z; omega
  · exact z
  · have := cp_two hj hi hy hx z; omega
/-- each IF, ELSE, END of a choice is told once -/
def ONC (l : List Ln) : Prop := ∀ (q c i j : Nat) (x y : Ln), l[i]? = some x → l[j]? = some y → KY q c x = true → KY q c y = true → i = j
theorem TEL.onc {σ : Sto} (h : LNW σ) {d w b : Nat} {k : Int} {l : List Ln} (hb : b < nB σ) (t : TEL σ d w b k l) : ONC l := fun q c i j x y hi hj hx hy => by
  have a := TEL.cp h q c d w b k l hb t
  have b := wS_de (σ := σ) (S := setW σ w b k) c
  exact cp_u (by omega) hi hj hx hy
/-- a block is told -/
def TLD (σ : Sto) (l : List Ln) (c : Nat) : Prop := ∃ d a x, TEL σ d 0 c 0 x ∧ OC l a x ∧ (c ≠ 0 → MGp σ c → 1 ≤ a ∧ l[a - 1]? = some (5, (c : Int), 2))
theorem mk_in {σ : Sto} (h : LNW σ) {l : List Ln} {b : Nat} : ∀ (d a : Nat) (k : Int) (x : List Ln), TEL σ d 1 b k x → OC l a x → ∃ d2 a2 x2, TEL σ d2 2 b 0 x2 ∧ OC l a2 x2
  | 0, _, _, _, t, _ => t.elim
  | d + 1, a, k, x, t, o => by
    rcases t with ⟨z, _⟩ | ⟨_, ⟨_, t⟩ | ⟨m, l1, l2, _, _, _, t1, _, e⟩⟩ | ⟨z, _⟩ | ⟨z, _⟩
    · exact absurd z (by decide)
    · exact ⟨d, a, x, t, o⟩
    · rw [e] at o
      exact mk_in h d _ _ l1 t1 o.t.l
    · exact absurd z (by decide)
    · exact absurd z (by decide)
theorem mk_mg {σ : Sto} (h : LNW σ) {l : List Ln} {b c : Nat} (hc : MC σ b c) : ∀ (d a : Nat) (k : Int) (x : List Ln), TEL σ d 1 b k x → OC l a x → oR σ c < k → TLD σ l c
  | 0, _, _, _, t, _, _ => t.elim
  | d + 1, a, k, x, t, o, hk => by
    rcases t with ⟨z, _⟩ | ⟨_, ⟨t, _⟩ | ⟨m, l1, l2, hm, _, mx, t1, t2, e⟩⟩ | ⟨z, _⟩ | ⟨z, _⟩
    · exact absurd z (by decide)
    · have := t c hc; omega
    · rw [e] at o
      by_cases q : oR σ m = oR σ c
      · have mc : m = c := h.2.2.2.2.2.1.1 m c hm.1.1 hc.1.1 q
        subst mc
        have o2 := o.t.r
        refine ⟨d, _, l2, t2, o2.t, fun _ _ => ⟨by omega, ?_⟩⟩
        rw [show a + 1 + l1.length + 1 - 1 = a + 1 + l1.length by omega]
        exact o2.h
      · have := mx c hc hk
        exact mk_mg h hc d _ _ l1 t1 o.t.l (by omega)
    · exact absurd z (by decide)
    · exact absurd z (by decide)
theorem go_tl {σ : Sto} (h : LNW σ) {l : List Ln} {e d a : Nat} {x : List Ln} (fw : FW σ e) (nm : ¬ MGp σ (eB σ e)) (t : TEL σ d 3 (eA σ e) (eB σ e) x) (o : OC l a x) : TLD σ l (eB σ e) := by
  cases d with
  | zero => exact t.elim
  | succ d =>
    rcases t with ⟨z, _⟩ | ⟨z, _⟩ | ⟨z, _⟩ | ⟨_, g, g1, g2, g3, t⟩
    · exact absurd z (by decide)
    · exact absurd z (by decide)
    · exact absurd z (by decide)
    · have c1 := clamp_I (x := σ.1 27 e) (gM_27 h.1 e).1
      have c2 := clamp_I (x := σ.1 28 e) (gM_28 h.1 e).1
      have ge : g = e := h.2.2.2.1.2.1 g e g1 fw.1.1 (by unfold eF at g2 ⊢; unfold eA at g2; omega) (by unfold eT at g3 ⊢; unfold eB at g3; omega)
      subst ge
      rcases t with ⟨z, _⟩ | ⟨_, z, _⟩ | ⟨_, z, _⟩ | ⟨_, _, t⟩
      · exact absurd fw.1.2 z
      · exact absurd fw.2 z
      · exact absurd z nm
      · exact ⟨d, a, x, t, o, fun _ z => absurd z nm⟩
theorem tl_mk {σ : Sto} {l : List Ln} {c : Nat} (h : TLD σ l c) : ∃ d a x, TEL σ d 1 c (nB σ) x ∧ OC l a x ∧ (σ.2 1 c ≠ 0 → ∃ j : Nat, l[j]? = some (1, (c : Int), -1)) := by
  obtain ⟨d, a, x, t, o, _⟩ := h
  cases d with
  | zero => exact t.elim
  | succ d =>
    rcases t with ⟨_, ⟨z, t⟩ | ⟨_, l1, t, e⟩⟩ | ⟨z, _⟩ | ⟨z, _⟩ | ⟨z, _⟩
    · exact ⟨d, a, x, t, o, fun w => absurd z w⟩
    · rw [e] at o
      exact ⟨d, a + 1, l1, t, o.t.l, fun _ => ⟨a, o.h⟩⟩
    · exact absurd z (by decide)
    · exact absurd z (by decide)
    · exact absurd z (by decide)
theorem tl_all {σ : Sto} (h : LNW σ) {l : List Ln} {D : Nat} (t0 : TEL σ D 0 0 0 l) : ∀ (n c : Nat), c < nB σ → oR σ c ≤ n → TLD σ l c := by
  have go : ∀ c, c < nB σ → (∀ a, CHs σ a c → TLD σ l a) → TLD σ l c := fun c hc ih => by
    by_cases c0 : c = 0
    · subst c0
      exact ⟨D, 0, l, t0, OC.self, fun z => absurd rfl z⟩
    · by_cases mg : MGp σ c
      · obtain ⟨a, a1, a2, a3, a4, a5⟩ := h.2.2.2.2.2.2.1.2 c hc c0
        have ch : CHs σ a c := ⟨hc, c0, a2⟩
        obtain ⟨d, p, x, t, o, _⟩ := tl_mk (ih a ch)
        exact mk_mg h ⟨ch, mg⟩ d p _ x t o (h.2.2.2.2.2.1.2.2 c hc)
      · obtain ⟨e, fw, eb⟩ := fw_in h.2.2.2.2.1 h.efi hc c0
        subst eb
        have ch := h.ch fw mg
        obtain ⟨d, p, x, t, o, _⟩ := tl_mk (ih _ ch)
        obtain ⟨d2, p2, x2, t2, o2⟩ := mk_in h d p _ x t o
        cases d2 with
        | zero => exact t2.elim
        | succ d2 =>
          rcases t2 with ⟨z, _⟩ | ⟨z, _⟩ | ⟨_, tl, e2, t2⟩ | ⟨z, _⟩
          · exact absurd z (by decide)
          · exact absurd z (by decide)
          · rw [e2] at o2
            have ot := o2.t.r.r.r
            have c1 := clamp_I (x := σ.1 27 e) (gM_27 h.1 e).1
            have c2 := clamp_I (x := σ.1 28 e) (gM_28 h.1 e).1
            have su := (h.2.2.2.1.1 e fw.1.1).2.2
            have nx : ¬ eX σ e := fun z => mg (Or.inl ⟨e, fw.1, rfl, z⟩)
            have su := su.resolve_right nx
            have ea : (eF σ e).toNat = eA σ e := by unfold eF eA; omega
            have eb : eT σ e = (eB σ e : Int) := by unfold eT eB; omega
            rw [ea, eb] at su
            rcases t2 with ⟨fk, l1, l2, t1, t3, e3⟩ | ⟨_, g, t3⟩ | ⟨nf, ng, g, t3⟩ | ⟨_, g, _⟩
            · rw [e3] at ot
              rcases su with ⟨_, z⟩ | ⟨_, z⟩
              · exact go_tl h fw mg (by rw [z]; exact t1) ot.t.l
              · exact go_tl h fw mg (by rw [z]; exact t3) ot.t.r.t.l
            · rcases su with ⟨z, _⟩ | ⟨_, z⟩
              · exact absurd g z.1
              · exact go_tl h fw mg (by rw [z]; exact t3) ot
            · have z : (eB σ e : Int) = fallT σ (eA σ e) := by
                rcases su with ⟨_, z⟩ | ⟨z1, z⟩
                · exact z
                · have s122 : sG σ (laR σ (eA σ e)) = 122 := z1.resolve_left ng
                  rw [z]
                  exact (Classical.byContradiction fun w => nf ⟨s122, w⟩ : (σ.1 24 (laR σ (eA σ e) + 1)).toInt = _).symm
              exact go_tl h fw mg (by rw [z]; exact t3) ot
            · exfalso
              rcases su with ⟨z, _⟩ | ⟨z, _⟩
              · exact g.2 z
              · rcases z with z | z
                · exact g.1 z
                · exact g.2 ⟨by omega, by omega, by omega⟩
          · exact absurd z (by decide)
  intro n
  induction n with
  | zero =>
    intro c hc hn
    refine go c hc (fun a ch => ?_)
    have := h.lt ch
    have g := gM_33 h.1 a
    unfold oR at *
    omega
  | succ n ih =>
    intro c hc hn
    refine go c hc (fun a ch => ?_)
    have := h.lt ch
    have up := ch.up h.2.2.2.2.2.2.1
    exact ih a up.1 (by omega)
theorem TEL.tld {σ : Sto} (h : LNW σ) {l : List Ln} {D : Nat} (t0 : TEL σ D 0 0 0 l) {c : Nat} (hc : c < nB σ) : TLD σ l c := by
  have g := gM_33 h.1 c
  exact tl_all h t0 39 c hc (by unfold oR; omega)
/-- its line with its name -/
theorem tl_lb {σ : Sto} (h : LNW σ) {l : List Ln} {c : Nat} (t : TLD σ l c)   : ∃ j : Nat, l[j]? = some (11, (c : Int), -1) := by
  obtain ⟨d, p, x, t, o, _⟩ := tl_mk t
  obtain ⟨d2, p2, x2, t2, o2⟩ := mk_in h d p _ x t o
  cases d2 with
  | zero => exact t2.elim
  | succ d2 =>
    rcases t2 with ⟨z, _⟩ | ⟨z, _⟩ | ⟨_, tl, e2, t2⟩ | ⟨z, _⟩
    · exact absurd z (by decide)
    · exact absurd z (by decide)
    · rw [e2] at o2
      exact ⟨p2, o2.h⟩
    · exact absurd z (by decide)
