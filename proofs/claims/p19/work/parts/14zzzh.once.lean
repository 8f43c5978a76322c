def KZL (c : Nat) (x : Ln) : Bool := decide (x.2.1 = (c : Int) ∧ x.1 = 1)
theorem cL_o {c : Nat} {k b o : Int} (h : k ≠ 1) : List.countP (KZL c) [(k, b, o)] = 0 := by
  have e : KZL c (k, b, o) = false := by
    unfold KZL
    rw [decide_eq_false_iff_not]
    rintro ⟨_, z⟩
    exact h z
  rw [cp_one, e]; rfl
theorem cL_1 {c b : Nat} : (List.countP (KZL c) [(1, (b : Int), -1)] : Int) = de c b := by
  rw [cp_one, de_b]
  unfold KZL
  by_cases z : b = c
  · subst z; simp
  · have zi : ¬ ((b : Int) = (c : Int)) := by omega
    simp [z, zi]
theorem cL_st {c : Nat} {b a : Int} : ∀ n, List.countP (KZL c) (stLs b a n) = 0
  | 0 => rfl
  | n + 1 => by
    unfold stLs
    rw [List.countP_append, cL_st n, cL_o (by decide)]
theorem cL_ty {c : Nat} (σ : Sto) (b : Nat) : List.countP (KZL c) (tyL σ b) = 0 := by
  unfold tyL
  by_cases z : (σ.1 25 b).toInt = -1
  · rw [if_pos z]; rfl
  · rw [if_neg z, cL_o (by decide)]
theorem cL_ca {c : Nat} (σ : Sto) (b : Nat) : List.countP (KZL c) (caL σ b) = 0 := by
  unfold caL
  by_cases z : (σ.1 25 b).toInt = -1
  · rw [if_pos z]; rfl
  · rw [if_neg z, cL_o (by decide)]
def xKZL (w : Nat) (v : Int) : Int := if w = 1 ∨ w = 2 then v else 0
theorem TEL.cL {σ : Sto} (h : LNW σ) (c : Nat) : ∀ (d w b : Nat) (k : Int) (l : List Ln), b < nB σ → TEL σ d w b k l → (List.countP (KZL c) l : Int) + xKZL w (de c b) ≤ wS σ (de c) (setW σ w b k)
  | 0, _, _, _, _, _, t => t.elim
  | d + 1, w, b, k, l, hb, t => by
    have nn := de_nn (σ := σ) c
    have db : 0 ≤ de c b := nn b hb
    have x0 : ∀ v, xKZL 0 v = 0 := fun v => rfl
    have x1 : ∀ v, xKZL 1 v = v := fun v => rfl
    have x2 : ∀ v, xKZL 2 v = v := fun v => rfl
    have x3 : ∀ v, xKZL 3 v = 0 := fun v => rfl
    have s0 : ∀ b k, setW σ 0 b k = SUBT σ b := fun _ _ => rfl
    have s1 : ∀ b k, setW σ 1 b k = SMk σ b k := fun _ _ => rfl
    have s2 : ∀ b k, setW σ 2 b k = SIn σ b := fun _ _ => rfl
    have s3 : ∀ b k, setW σ 3 b k = SGo σ b k := fun _ _ => rfl
    rcases t with ⟨w0, ⟨_, t⟩ | ⟨_, l1, t, e⟩⟩ | ⟨w1, ⟨_, t⟩ | ⟨m, l1, l2, hm, hk, _, t1, t2, e⟩⟩ | ⟨w2, tl, e, t⟩ | ⟨w3, e, _, e2, e3, ⟨_, t⟩ | ⟨_, _, t⟩ | ⟨_, _, t⟩ | ⟨fw, nm, t⟩⟩
    · subst w0
      have a := TEL.cL h c d _ _ _ _ hb t
      have g := w_mk nn b (nB σ)
      rw [x1, s1] at a
      rw [x0, s0]
      omega
    · subst w0
      have a := TEL.cL h c d _ _ _ _ hb t
      have g := w_mk nn b (nB σ)
      have u1 : (List.countP (KZL c) [(1, (b : Int), -1)] : Int) = de c b := cL_1
      have u2 : (List.countP (KZL c) [(5, (b : Int), 1)] : Int) = 0 := by rw [cL_o (by decide)]; rfl
      rw [x1, s1] at a
      rw [x0, s0, e, List.countP_append, List.countP_append]
      omega
    · subst w1
      have a := TEL.cL h c d _ _ _ _ hb t
      have g := w_in nn b k
      rw [x2, s2] at a
      rw [x1, s1]
      omega
    · subst w1
      have a1 := TEL.cL h c d _ _ _ _ hb t1
      have a2 := TEL.cL h c d _ _ _ _ hm.1.1 t2
      have a3 := w_mo h nn hm hk
      have dm : 0 ≤ de c m := nn m hm.1.1
      have u1 : (List.countP (KZL c) [(2, (m : Int), -1)] : Int) = 0 := by rw [cL_o (by decide)]; rfl
      have u2 : (List.countP (KZL c) [(5, (m : Int), 2)] : Int) = 0 := by rw [cL_o (by decide)]; rfl
      rw [x1, s1] at a1
      rw [x0, s0] at a2
      rw [x1, s1, e, List.countP_append, List.countP_append, List.countP_append]
      omega
    · subst w2
      have u1 : (List.countP (KZL c) [(11, (b : Int), -1)] : Int) = 0 := by rw [cL_o (by decide)]; rfl
      rw [x2, s2, e, List.countP_append, List.countP_append, List.countP_append, List.countP_append, cL_ty, cL_st, cL_ca]
      rcases t with ⟨fk, l1, l2, t1, t2, e2⟩ | ⟨_, _, t⟩ | ⟨_, _, _, t⟩ | ⟨_, _, t⟩
      · have a1 := TEL.cL h c d _ _ _ _ hb t1
        have a2 := TEL.cL h c d _ _ _ _ hb t2
        rw [x3, s3] at a1 a2
        have a3 : de c b + wS σ (de c) (SGo σ b (fallT σ b)) + wS σ (de c) (SGo σ b (jmpT σ b)) ≤ wS σ (de c) (SIn σ b) := w_two h nn hb fk.2
        have v1 : (List.countP (KZL c) [(3, (b : Int), -1)] : Int) = 0 := by rw [cL_o (by decide)]; rfl
        have v2 : (List.countP (KZL c) [(4, (b : Int), -1)] : Int) = 0 := by rw [cL_o (by decide)]; rfl
        have v3 : (List.countP (KZL c) [(5, (b : Int), 3)] : Int) = 0 := by rw [cL_o (by decide)]; rfl
        rw [e2, List.countP_append, List.countP_append, List.countP_append, List.countP_append]
        omega
      · have a1 := TEL.cL h c d _ _ _ _ hb t
        rw [x3, s3] at a1
        have a2 := w_one h nn hb (jmpT σ b)
        omega
      · have a1 := TEL.cL h c d _ _ _ _ hb t
        rw [x3, s3] at a1
        have a2 := w_one h nn hb (fallT σ b)
        omega
      · have a2 := w_one h nn hb 0
        have a3 := wS_nn (σ := σ) (S := SGo σ b 0) nn
        have v0 : (List.countP (KZL c) tl : Int) = 0 := by rw [t]; rfl
        omega
    · subst w3
      have a := wS_nn (σ := σ) (S := SGo σ b k) nn
      rw [t, cL_o (by decide), x3, s3]
      omega
    · subst w3
      have a := wS_nn (σ := σ) (S := SGo σ b k) nn
      rw [t, cL_o (by decide), x3, s3]
      omega
    · subst w3
      have a := wS_nn (σ := σ) (S := SGo σ b k) nn
      rw [t, cL_o (by decide), x3, s3]
      omega
    · subst w3
      obtain ⟨ea, eb⟩ := go_ab h.1 e2 e3
      have g := w_go nn fw ea eb nm
      have a := TEL.cL h c d _ _ _ _ (h.lt_b fw) t
      have dm : 0 ≤ de c (eB σ e) := nn _ (h.lt_b fw)
      rw [x0, s0] at a
      rw [x3, s3]
      omega
theorem TEL.onL {σ : Sto} (h : LNW σ) {d w b : Nat} {k : Int} {l : List Ln} (hb : b < nB σ) (t : TEL σ d w b k l) {c i j : Nat} {x y : Ln} (hi : l[i]? = some x) (hj : l[j]? = some y) (hx : KZL c x = true) (hy : KZL c y = true) : i = j := by
  have a := TEL.cL h c d w b k l hb t
  have u := wS_de (σ := σ) (S := setW σ w b k) c
  have v : 0 ≤ xKZL w (de c b) := by
    have := de_nn (σ := σ) c b hb
    unfold xKZL
    split <;> omega
  exact cp_u (by omega) hi hj hx hy
def KZE (c : Nat) (x : Ln) : Bool := decide (x.2.1 = (c : Int) ∧ x.1 = 5 ∧ x.2.2 = 2)
theorem cE_o {c : Nat} {k b o : Int} (h : k ≠ 5 ∨ o ≠ 2) : List.countP (KZE c) [(k, b, o)] = 0 := by
  have e : KZE c (k, b, o) = false := by
    unfold KZE
    rw [decide_eq_false_iff_not]
    rintro ⟨_, z1, z2⟩
    rcases h with h | h
    · exact h z1
    · exact h z2
  rw [cp_one, e]; rfl
theorem cE_1 {c b : Nat} : (List.countP (KZE c) [(5, (b : Int), 2)] : Int) = de c b := by
  rw [cp_one, de_b]
  unfold KZE
  by_cases z : b = c
  · subst z; simp
  · have zi : ¬ ((b : Int) = (c : Int)) := by omega
    simp [z, zi]
theorem cE_st {c : Nat} {b a : Int} : ∀ n, List.countP (KZE c) (stLs b a n) = 0
  | 0 => rfl
  | n + 1 => by
    unfold stLs
    rw [List.countP_append, cE_st n, cE_o (Or.inl (by decide))]
theorem cE_ty {c : Nat} (σ : Sto) (b : Nat) : List.countP (KZE c) (tyL σ b) = 0 := by
  unfold tyL
  by_cases z : (σ.1 25 b).toInt = -1
  · rw [if_pos z]; rfl
  · rw [if_neg z, cE_o (Or.inl (by decide))]
theorem cE_ca {c : Nat} (σ : Sto) (b : Nat) : List.countP (KZE c) (caL σ b) = 0 := by
  unfold caL
  by_cases z : (σ.1 25 b).toInt = -1
  · rw [if_pos z]; rfl
  · rw [if_neg z, cE_o (Or.inl (by decide))]
def xKZE (w : Nat) (v : Int) : Int := if w = 3 then 0 else v
theorem TEL.cE {σ : Sto} (h : LNW σ) (c : Nat) : ∀ (d w b : Nat) (k : Int) (l : List Ln), b < nB σ → TEL σ d w b k l → (List.countP (KZE c) l : Int) + xKZE w (de c b) ≤ wS σ (de c) (setW σ w b k)
  | 0, _, _, _, _, _, t => t.elim
  | d + 1, w, b, k, l, hb, t => by
    have nn := de_nn (σ := σ) c
    have db : 0 ≤ de c b := nn b hb
    have x0 : ∀ v, xKZE 0 v = v := fun v => rfl
    have x1 : ∀ v, xKZE 1 v = v := fun v => rfl
    have x2 : ∀ v, xKZE 2 v = v := fun v => rfl
    have x3 : ∀ v, xKZE 3 v = 0 := fun v => rfl
    have s0 : ∀ b k, setW σ 0 b k = SUBT σ b := fun _ _ => rfl
    have s1 : ∀ b k, setW σ 1 b k = SMk σ b k := fun _ _ => rfl
    have s2 : ∀ b k, setW σ 2 b k = SIn σ b := fun _ _ => rfl
    have s3 : ∀ b k, setW σ 3 b k = SGo σ b k := fun _ _ => rfl
    rcases t with ⟨w0, ⟨_, t⟩ | ⟨_, l1, t, e⟩⟩ | ⟨w1, ⟨_, t⟩ | ⟨m, l1, l2, hm, hk, _, t1, t2, e⟩⟩ | ⟨w2, tl, e, t⟩ | ⟨w3, e, _, e2, e3, ⟨_, t⟩ | ⟨_, _, t⟩ | ⟨_, _, t⟩ | ⟨fw, nm, t⟩⟩
    · subst w0
      have a := TEL.cE h c d _ _ _ _ hb t
      have g := w_mk nn b (nB σ)
      rw [x1, s1] at a
      rw [x0, s0]
      omega
    · subst w0
      have a := TEL.cE h c d _ _ _ _ hb t
      have g := w_mk nn b (nB σ)
      have u1 : (List.countP (KZE c) [(1, (b : Int), -1)] : Int) = 0 := by rw [cE_o (Or.inl (by decide))]; rfl
      have u2 : (List.countP (KZE c) [(5, (b : Int), 1)] : Int) = 0 := by rw [cE_o (Or.inr (by decide))]; rfl
      rw [x1, s1] at a
      rw [x0, s0, e, List.countP_append, List.countP_append]
      omega
    · subst w1
      have a := TEL.cE h c d _ _ _ _ hb t
      have g := w_in nn b k
      rw [x2, s2] at a
      rw [x1, s1]
      omega
    · subst w1
      have a1 := TEL.cE h c d _ _ _ _ hb t1
      have a2 := TEL.cE h c d _ _ _ _ hm.1.1 t2
      have a3 := w_mo h nn hm hk
      have dm : 0 ≤ de c m := nn m hm.1.1
      have u1 : (List.countP (KZE c) [(2, (m : Int), -1)] : Int) = 0 := by rw [cE_o (Or.inl (by decide))]; rfl
      have u2 : (List.countP (KZE c) [(5, (m : Int), 2)] : Int) = de c m := cE_1
      rw [x1, s1] at a1
      rw [x0, s0] at a2
      rw [x1, s1, e, List.countP_append, List.countP_append, List.countP_append]
      omega
    · subst w2
      have u1 : (List.countP (KZE c) [(11, (b : Int), -1)] : Int) = 0 := by rw [cE_o (Or.inl (by decide))]; rfl
      rw [x2, s2, e, List.countP_append, List.countP_append, List.countP_append, List.countP_append, cE_ty, cE_st, cE_ca]
      rcases t with ⟨fk, l1, l2, t1, t2, e2⟩ | ⟨_, _, t⟩ | ⟨_, _, _, t⟩ | ⟨_, _, t⟩
      · have a1 := TEL.cE h c d _ _ _ _ hb t1
        have a2 := TEL.cE h c d _ _ _ _ hb t2
        rw [x3, s3] at a1 a2
        have a3 : de c b + wS σ (de c) (SGo σ b (fallT σ b)) + wS σ (de c) (SGo σ b (jmpT σ b)) ≤ wS σ (de c) (SIn σ b) := w_two h nn hb fk.2
        have v1 : (List.countP (KZE c) [(3, (b : Int), -1)] : Int) = 0 := by rw [cE_o (Or.inl (by decide))]; rfl
        have v2 : (List.countP (KZE c) [(4, (b : Int), -1)] : Int) = 0 := by rw [cE_o (Or.inl (by decide))]; rfl
        have v3 : (List.countP (KZE c) [(5, (b : Int), 3)] : Int) = 0 := by rw [cE_o (Or.inr (by decide))]; rfl
        rw [e2, List.countP_append, List.countP_append, List.countP_append, List.countP_append]
        omega
      · have a1 := TEL.cE h c d _ _ _ _ hb t
        rw [x3, s3] at a1
        have a2 := w_one h nn hb (jmpT σ b)
        omega
      · have a1 := TEL.cE h c d _ _ _ _ hb t
        rw [x3, s3] at a1
        have a2 := w_one h nn hb (fallT σ b)
        omega
      · have a2 := w_one h nn hb 0
        have a3 := wS_nn (σ := σ) (S := SGo σ b 0) nn
        have v0 : (List.countP (KZE c) tl : Int) = 0 := by rw [t]; rfl
        omega
    · subst w3
      have a := wS_nn (σ := σ) (S := SGo σ b k) nn
      rw [t, cE_o (Or.inl (by decide)), x3, s3]
      omega
    · subst w3
      have a := wS_nn (σ := σ) (S := SGo σ b k) nn
      rw [t, cE_o (Or.inl (by decide)), x3, s3]
      omega
    · subst w3
      have a := wS_nn (σ := σ) (S := SGo σ b k) nn
      rw [t, cE_o (Or.inl (by decide)), x3, s3]
      omega
    · subst w3
      obtain ⟨ea, eb⟩ := go_ab h.1 e2 e3
      have g := w_go nn fw ea eb nm
      have a := TEL.cE h c d _ _ _ _ (h.lt_b fw) t
      have dm : 0 ≤ de c (eB σ e) := nn _ (h.lt_b fw)
      rw [x0, s0] at a
      rw [x3, s3]
      omega
theorem TEL.onE {σ : Sto} (h : LNW σ) {d w b : Nat} {k : Int} {l : List Ln} (hb : b < nB σ) (t : TEL σ d w b k l) {c i j : Nat} {x y : Ln} (hi : l[i]? = some x) (hj : l[j]? = some y) (hx : KZE c x = true) (hy : KZE c y = true) : i = j := by
  have a := TEL.cE h c d w b k l hb t
  have u := wS_de (σ := σ) (S := setW σ w b k) c
  have v : 0 ≤ xKZE w (de c b) := by
    have := de_nn (σ := σ) c b hb
    unfold xKZE
    split <;> omega
  exact cp_u (by omega) hi hj hx hy
def KZN (c : Nat) (x : Ln) : Bool := decide (x.2.1 = (c : Int) ∧ x.1 = 11)
theorem cN_o {c : Nat} {k b o : Int} (h : k ≠ 11) : List.countP (KZN c) [(k, b, o)] = 0 := by
  have e : KZN c (k, b, o) = false := by
    unfold KZN
    rw [decide_eq_false_iff_not]
    rintro ⟨_, z⟩
    exact h z
  rw [cp_one, e]; rfl
theorem cN_1 {c b : Nat} : (List.countP (KZN c) [(11, (b : Int), -1)] : Int) = de c b := by
  rw [cp_one, de_b]
  unfold KZN
  by_cases z : b = c
  · subst z; simp
  · have zi : ¬ ((b : Int) = (c : Int)) := by omega
    simp [z, zi]
theorem cN_st {c : Nat} {b a : Int} : ∀ n, List.countP (KZN c) (stLs b a n) = 0
  | 0 => rfl
  | n + 1 => by
    unfold stLs
    rw [List.countP_append, cN_st n, cN_o (by decide)]
theorem cN_ty {c : Nat} (σ : Sto) (b : Nat) : List.countP (KZN c) (tyL σ b) = 0 := by
  unfold tyL
  by_cases z : (σ.1 25 b).toInt = -1
  · rw [if_pos z]; rfl
  · rw [if_neg z, cN_o (by decide)]
theorem cN_ca {c : Nat} (σ : Sto) (b : Nat) : List.countP (KZN c) (caL σ b) = 0 := by
  unfold caL
  by_cases z : (σ.1 25 b).toInt = -1
  · rw [if_pos z]; rfl
  · rw [if_neg z, cN_o (by decide)]
def xKZN (w : Nat) (v : Int) : Int := 0 * v
theorem TEL.cN {σ : Sto} (h : LNW σ) (c : Nat) : ∀ (d w b : Nat) (k : Int) (l : List Ln), b < nB σ → TEL σ d w b k l → (List.countP (KZN c) l : Int) + xKZN w (de c b) ≤ wS σ (de c) (setW σ w b k)
  | 0, _, _, _, _, _, t => t.elim
  | d + 1, w, b, k, l, hb, t => by
    have nn := de_nn (σ := σ) c
    have db : 0 ≤ de c b := nn b hb
    have x0 : ∀ v, xKZN 0 v = 0 := fun v => Int.zero_mul v
    have x1 : ∀ v, xKZN 1 v = 0 := fun v => Int.zero_mul v
    have x2 : ∀ v, xKZN 2 v = 0 := fun v => Int.zero_mul v
    have x3 : ∀ v, xKZN 3 v = 0 := fun v => Int.zero_mul v
    have s0 : ∀ b k, setW σ 0 b k = SUBT σ b := fun _ _ => rfl
    have s1 : ∀ b k, setW σ 1 b k = SMk σ b k := fun _ _ => rfl
    have s2 : ∀ b k, setW σ 2 b k = SIn σ b := fun _ _ => rfl
    have s3 : ∀ b k, setW σ 3 b k = SGo σ b k := fun _ _ => rfl
    rcases t with ⟨w0, ⟨_, t⟩ | ⟨_, l1, t, e⟩⟩ | ⟨w1, ⟨_, t⟩ | ⟨m, l1, l2, hm, hk, _, t1, t2, e⟩⟩ | ⟨w2, tl, e, t⟩ | ⟨w3, e, _, e2, e3, ⟨_, t⟩ | ⟨_, _, t⟩ | ⟨_, _, t⟩ | ⟨fw, nm, t⟩⟩
    · subst w0
      have a := TEL.cN h c d _ _ _ _ hb t
      have g := w_mk nn b (nB σ)
      rw [x1, s1] at a
      rw [x0, s0]
      omega
    · subst w0
      have a := TEL.cN h c d _ _ _ _ hb t
      have g := w_mk nn b (nB σ)
      have u1 : (List.countP (KZN c) [(1, (b : Int), -1)] : Int) = 0 := by rw [cN_o (by decide)]; rfl
      have u2 : (List.countP (KZN c) [(5, (b : Int), 1)] : Int) = 0 := by rw [cN_o (by decide)]; rfl
      rw [x1, s1] at a
      rw [x0, s0, e, List.countP_append, List.countP_append]
      omega
    · subst w1
      have a := TEL.cN h c d _ _ _ _ hb t
      have g := w_in nn b k
      rw [x2, s2] at a
      rw [x1, s1]
      omega
    · subst w1
      have a1 := TEL.cN h c d _ _ _ _ hb t1
      have a2 := TEL.cN h c d _ _ _ _ hm.1.1 t2
      have a3 := w_mo h nn hm hk
      have dm : 0 ≤ de c m := nn m hm.1.1
      have u1 : (List.countP (KZN c) [(2, (m : Int), -1)] : Int) = 0 := by rw [cN_o (by decide)]; rfl
      have u2 : (List.countP (KZN c) [(5, (m : Int), 2)] : Int) = 0 := by rw [cN_o (by decide)]; rfl
      rw [x1, s1] at a1
      rw [x0, s0] at a2
      rw [x1, s1, e, List.countP_append, List.countP_append, List.countP_append]
      omega
    · subst w2
      have u1 : (List.countP (KZN c) [(11, (b : Int), -1)] : Int) = de c b := cN_1
      rw [x2, s2, e, List.countP_append, List.countP_append, List.countP_append, List.countP_append, cN_ty, cN_st, cN_ca]
      rcases t with ⟨fk, l1, l2, t1, t2, e2⟩ | ⟨_, _, t⟩ | ⟨_, _, _, t⟩ | ⟨_, _, t⟩
      · have a1 := TEL.cN h c d _ _ _ _ hb t1
        have a2 := TEL.cN h c d _ _ _ _ hb t2
        rw [x3, s3] at a1 a2
        have a3 : de c b + wS σ (de c) (SGo σ b (fallT σ b)) + wS σ (de c) (SGo σ b (jmpT σ b)) ≤ wS σ (de c) (SIn σ b) := w_two h nn hb fk.2
        have v1 : (List.countP (KZN c) [(3, (b : Int), -1)] : Int) = 0 := by rw [cN_o (by decide)]; rfl
        have v2 : (List.countP (KZN c) [(4, (b : Int), -1)] : Int) = 0 := by rw [cN_o (by decide)]; rfl
        have v3 : (List.countP (KZN c) [(5, (b : Int), 3)] : Int) = 0 := by rw [cN_o (by decide)]; rfl
        rw [e2, List.countP_append, List.countP_append, List.countP_append, List.countP_append]
        omega
      · have a1 := TEL.cN h c d _ _ _ _ hb t
        rw [x3, s3] at a1
        have a2 := w_one h nn hb (jmpT σ b)
        omega
      · have a1 := TEL.cN h c d _ _ _ _ hb t
        rw [x3, s3] at a1
        have a2 := w_one h nn hb (fallT σ b)
        omega
      · have a2 := w_one h nn hb 0
        have a3 := wS_nn (σ := σ) (S := SGo σ b 0) nn
        have v0 : (List.countP (KZN c) tl : Int) = 0 := by rw [t]; rfl
        omega
    · subst w3
      have a := wS_nn (σ := σ) (S := SGo σ b k) nn
      rw [t, cN_o (by decide), x3, s3]
      omega
    · subst w3
      have a := wS_nn (σ := σ) (S := SGo σ b k) nn
      rw [t, cN_o (by decide), x3, s3]
      omega
    · subst w3
      have a := wS_nn (σ := σ) (S := SGo σ b k) nn
      rw [t, cN_o (by decide), x3, s3]
      omega
    · subst w3
      obtain ⟨ea, eb⟩ := go_ab h.1 e2 e3
      have g := w_go nn fw ea eb nm
      have a := TEL.cN h c d _ _ _ _ (h.lt_b fw) t
      have dm : 0 ≤ de c (eB σ e) := nn _ (h.lt_b fw)
      rw [x0, s0] at a
      rw [x3, s3]
      omega
theorem TEL.onN {σ : Sto} (h : LNW σ) {d w b : Nat} {k : Int} {l : List Ln} (hb : b < nB σ) (t : TEL σ d w b k l) {c i j : Nat} {x y : Ln} (hi : l[i]? = some x) (hj : l[j]? = some y) (hx : KZN c x = true) (hy : KZN c y = true) : i = j := by
  have a := TEL.cN h c d w b k l hb t
  have u := wS_de (σ := σ) (S := setW σ w b k) c
  have v : 0 ≤ xKZN w (de c b) := by
    have := de_nn (σ := σ) c b hb
    unfold xKZN
    omega
  exact cp_u (by omega) hi hj hx hy
/-- in the list that stays, too -/
theorem THIN.uq {l : List Ln} {s1 s2 s3 t σ : Sto} (T : THIN l s1 s2 s3 t) (h : LNW σ) {d : Nat} (q : TEL σ d 0 0 0 l) : (∀ c i j : Nat, LWj t 1 (c : Int) i → LWj t 1 (c : Int) j → i = j) ∧ (∀ c i j : Nat, EN t 2 (c : Int) i → EN t 2 (c : Int) j → i = j) ∧ ∀ c i j : Nat, LWj t 11 (c : Int) i → LWj t 11 (c : Int) j → i = j := by
  have b0 : 0 < nB σ := by have := h.2.2.2.2.2.2.2.2; omega
  refine ⟨fun c i j hi hj => ?_, fun c i j hi hj => ?_, fun c i j hi hj => ?_⟩
  · obtain ⟨i', u, i1, i2, i3⟩ := T.lwu hi
    obtain ⟨j', v, j1, j2, j3⟩ := T.lwu hj
    rw [← i3, ← j3, TEL.onL (c := c) h b0 q i1 j1 (by unfold KZL; simp) (by unfold KZL; simp)]
  · obtain ⟨i', i1, i2, i3⟩ := T.enu hi
    obtain ⟨j', j1, j2, j3⟩ := T.enu hj
    rw [← i3, ← j3, TEL.onE (c := c) h b0 q i1 j1 (by unfold KZE; simp) (by unfold KZE; simp)]
  · obtain ⟨i', u, i1, i2, i3⟩ := T.lwu hi
    obtain ⟨j', v, j1, j2, j3⟩ := T.lwu hj
    rw [← i3, ← j3, TEL.onN (c := c) h b0 q i1 j1 (by unfold KZN; simp) (by unfold KZN; simp)]
