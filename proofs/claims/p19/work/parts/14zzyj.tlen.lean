theorem go_ab {σ : Sto} (h : BM σ) {e b : Nat} {k : Int} (e2 : eF σ e = (b : Int)) (e3 : eT σ e = k) : eA σ e = b ∧ (eB σ e : Int) = k := by
  have g := gM_27 h e
  have g2 := gM_28 h e
  unfold eF at e2
  unfold eT at e3
  unfold eA eB
  have c1 := clamp_I (x := σ.1 27 e) (by omega)
  have c2 := clamp_I (x := σ.1 28 e) (by omega)
  exact ⟨by omega, by omega⟩
theorem ty_len (σ : Sto) (b : Nat) : (tyL σ b).length ≤ 1 := by
  unfold tyL
  by_cases z : (σ.1 25 b).toInt = -1
  · rw [if_pos z]; exact Nat.zero_le _
  · rw [if_neg z]; exact Nat.le_refl _
theorem ca_len (σ : Sto) (b : Nat) : (caL σ b).length ≤ 1 := by
  unfold caL
  by_cases z : (σ.1 25 b).toInt = -1
  · rw [if_pos z]; exact Nat.zero_le _
  · rw [if_neg z]; exact Nat.le_refl _
/-- how many lines are told -/
noncomputable def lnB (σ : Sto) (w b : Nat) (k : Int) : Int := if w = 0 then wS σ (csW σ) (SUBT σ b) - 2 else if w = 1 then wS σ (csW σ) (SMk σ b k) - 4 else if w = 2 then wS σ (csW σ) (SIn σ b) - 4 else 1 + wS σ (csW σ) (SGo σ b k)
theorem TEL.len {σ : Sto} (h : LNW σ) : ∀ (d w b : Nat) (k : Int) (l : List Ln), b < nB σ → TEL σ d w b k l → (l.length : Int) ≤ lnB σ w b k
  | 0, _, _, _, _, _, t => t.elim
  | d + 1, w, b, k, l, hb, t => by
    have nn := cs0 h
    have b0 : ∀ b k, lnB σ 0 b k = wS σ (csW σ) (SUBT σ b) - 2 := fun _ _ => rfl
    have b1 : ∀ b k, lnB σ 1 b k = wS σ (csW σ) (SMk σ b k) - 4 := fun _ _ => rfl
    have b2 : ∀ b k, lnB σ 2 b k = wS σ (csW σ) (SIn σ b) - 4 := fun _ _ => rfl
    have b3 : ∀ b k, lnB σ 3 b k = 1 + wS σ (csW σ) (SGo σ b k) := fun _ _ => rfl
    rcases t with ⟨w0, ⟨_, t⟩ | ⟨_, l1, t, e⟩⟩ | ⟨w1, ⟨_, t⟩ | ⟨m, l1, l2, hm, hk, _, t1, t2, e⟩⟩ | ⟨w2, tl, e, t⟩ | ⟨w3, e, _, e2, e3, ⟨_, t⟩ | ⟨_, _, t⟩ | ⟨_, _, t⟩ | ⟨fw, nm, t⟩⟩
    · subst w0
      have q := TEL.len h d _ _ _ _ hb t
      have q2 := w_mk nn b (nB σ)
      rw [b1] at q
      rw [b0]
      omega
    · subst w0
      have q := TEL.len h d _ _ _ _ hb t
      have q2 := w_mk nn b (nB σ)
      rw [b1] at q
      rw [b0, e]
      simp only [List.length_append, List.length_cons, List.length_nil]
      omega
    · subst w1
      have q := TEL.len h d _ _ _ _ hb t
      have q2 := w_in nn b k
      rw [b2] at q
      rw [b1]
      omega
    · subst w1
      have a1 := TEL.len h d _ _ _ _ hb t1
      have a2 := TEL.len h d _ _ _ _ hm.1.1 t2
      have a3 := w_mo h nn hm hk
      rw [b1] at a1
      rw [b0] at a2
      rw [b1, e]
      simp only [List.length_append, List.length_cons, List.length_nil]
      omega
    · subst w2
      have ty := ty_len σ b
      have ca := ca_len σ b
      have cn := csW_nn h b hb
      have ce : csW σ b = 12 + (sB σ (b + 1) - sB σ b) := rfl
      have st := stLs_len (b : Int) (sB σ b) (sB σ (b + 1) - sB σ b).toNat
      rw [b2, e]
      simp only [List.length_append, List.length_cons, List.length_nil]
      rw [st]
      rcases t with ⟨fk, l1, l2, t1, t2, e2⟩ | ⟨_, _, t⟩ | ⟨_, _, _, t⟩ | ⟨_, _, t⟩
      · have a1 := TEL.len h d _ _ _ _ hb t1
        have a2 := TEL.len h d _ _ _ _ hb t2
        rw [b3] at a1 a2
        have a3 : csW σ b + wS σ (csW σ) (SGo σ b (fallT σ b)) + wS σ (csW σ) (SGo σ b (jmpT σ b)) ≤ wS σ (csW σ) (SIn σ b) := w_two h nn hb fk.2
        rw [e2]
        simp only [List.length_append, List.length_cons, List.length_nil]
        omega
      · have a1 := TEL.len h d _ _ _ _ hb t
        rw [b3] at a1
        have a2 := w_one h nn hb (jmpT σ b)
        omega
      · have a1 := TEL.len h d _ _ _ _ hb t
        rw [b3] at a1
        have a2 := w_one h nn hb (fallT σ b)
        omega
      · have a2 := w_one h nn hb (fallT σ b)
        have a3 := wS_nn (σ := σ) (S := SGo σ b (fallT σ b)) nn
        rw [t]
        simp only [List.length_nil]
        omega
    · subst w3
      have a3 := wS_nn (σ := σ) (S := SGo σ b k) nn
      rw [t, b3]
      simp only [List.length_cons, List.length_nil]
      omega
    · subst w3
      have a3 := wS_nn (σ := σ) (S := SGo σ b k) nn
      rw [t, b3]
      simp only [List.length_cons, List.length_nil]
      omega
    · subst w3
      have a3 := wS_nn (σ := σ) (S := SGo σ b k) nn
      rw [t, b3]
      simp only [List.length_cons, List.length_nil]
      omega
    · subst w3
      obtain ⟨ea, eb⟩ := go_ab h.1 e2 e3
      have q := TEL.len h d _ _ _ _ (h.lt_b fw) t
      have q2 := w_go nn fw ea eb nm
      rw [b0] at q
      rw [b3]
      omega
/-- the whole of it -/
theorem TEL.all {σ : Sto} (h : LNW σ) {d : Nat} {l : List Ln} (t : TEL σ d 0 0 0 l) : (l.length : Int) + 2 ≤ 12 * (nB σ : Int) + (sB σ (nB σ) - sB σ 0) := by
  have b1 := h.2.2.2.2.2.2.2.2
  have tot : ∀ n, n ≤ nB σ → fb_si (csW σ) n = 12 * (n : Int) + (sB σ n - sB σ 0) := fun n => by
    induction n with
    | zero => intro _; show (0 : Int) = _; omega
    | succ n ih =>
      intro hn
      rw [fb_si_succ, ih (by omega)]
      unfold csW
      omega
  have t1 := tot (nB σ) (Nat.le_refl _)
  have a1 := wS_all (S := SUBT σ 0) (cs0 h)
  have a2 := TEL.len h d 0 0 0 l (by omega) t
  have a3 : lnB σ 0 0 0 = wS σ (csW σ) (SUBT σ 0) - 2 := rfl
  omega
/-- behind an ELSE: no END; if a break, then that alone -/
def STR (l : List Ln) : Prop := ∀ (i : Nat) (b o : Int), l[i]? = some (4, b, o) → ∃ y : Ln, l[i + 1]? = some y ∧ y.1 ≠ 5 ∧ (y.1 = 6 → l[i + 2]? = some (5, b, 3))
theorem STR.nil : STR [] := fun i b o h => by simp at h
theorem STR.app {l m : List Ln} (h : STR l) (g : STR m) : STR (l ++ m) := fun i b o q => by
  rw [List.getElem?_append] at q
  by_cases z : i < l.length
  · rw [if_pos z] at q
    obtain ⟨y, j1, j2, j3⟩ := h i b o q
    have jl : i + 1 < l.length := (List.getElem?_eq_some_iff.mp j1).1
    refine ⟨y, by rw [List.getElem?_append, if_pos jl]; exact j1, j2, fun w => ?_⟩
    have j4 := j3 w
    have kl : i + 2 < l.length := (List.getElem?_eq_some_iff.mp j4).1
    rw [List.getElem?_append, if_pos kl]; exact j4
  · rw [if_neg z] at q
    obtain ⟨y, j1, j2, j3⟩ := g _ b o q
    refine ⟨y, ?_, j2, fun w => ?_⟩
    · rw [List.getElem?_append, if_neg (by omega), show i + 1 - l.length = i - l.length + 1 by omega]
      exact j1
    · rw [List.getElem?_append, if_neg (by omega), show i + 2 - l.length = i - l.length + 2 by omega]
      exact j3 w
theorem STR.one {k b o : Int} (hk : k ≠ 4) : STR [(k, b, o)] := fun i c p q => by
  cases i with
  | zero =>
    simp at q
    exact absurd q.1 hk
  | succ i => simp at q
theorem STR.st (b a : Int) : ∀ n, STR (stLs b a n)
  | 0 => STR.nil
  | n + 1 => (STR.st b a n).app (STR.one (by decide))
theorem STR.ty (σ : Sto) (b : Nat) : STR (tyL σ b) := by
  unfold tyL
  by_cases q : (σ.1 25 b).toInt = -1
  · rw [if_pos q]; exact STR.nil
  · rw [if_neg q]; exact STR.one (by decide)
theorem STR.ca (σ : Sto) (b : Nat) : STR (caL σ b) := by
  unfold caL
  by_cases q : (σ.1 25 b).toInt = -1
  · rw [if_pos q]; exact STR.nil
  · rw [if_neg q]; exact STR.one (by decide)
theorem STR.els {y : Ln} {r : List Ln} {b : Int} (h : STR (y :: r)) (h5 : y.1 ≠ 5) (h6 : y.1 = 6 → r = []) : STR ([(4, b, -1)] ++ ((y :: r) ++ [(5, b, 3)])) := fun i c o q => by
  cases i with
  | zero =>
    simp at q
    refine ⟨y, by simp, h5, fun w => ?_⟩
    rw [h6 w, ← q.1]
    simp
  | succ i =>
    have q2 : ((y :: r) ++ [(5, b, 3)])[i]? = some (4, c, o) := by simpa using q
    obtain ⟨z, j1, j2, j3⟩ := (h.app (STR.one (k := 5) (b := b) (o := 3) (by decide))) i c o q2
    exact ⟨z, by simpa using j1, j2, fun w => by simpa using j3 w⟩
/-- how lines begin -/
theorem TEL.hd {σ : Sto} : ∀ (d w b : Nat) (k : Int) (l : List Ln), TEL σ d w b k l → ∃ (y : Ln) (r : List Ln), l = y :: r ∧ y.1 ≠ 5 ∧ (y.1 = 6 → r = [])
  | 0, _, _, _, _, h => h.elim
  | d + 1, w, b, k, l, h => by
    rcases h with ⟨_, ⟨_, h⟩ | ⟨_, l1, h, e⟩⟩ | ⟨_, ⟨_, h⟩ | ⟨m, l1, l2, _, _, _, h1, h2, e⟩⟩ | ⟨_, tl, e, h⟩ | ⟨_, e, _, _, _, ⟨_, q⟩ | ⟨_, _, q⟩ | ⟨_, _, q⟩ | ⟨_, _, q⟩⟩
    · exact TEL.hd d _ _ _ _ h
    · exact ⟨_, _, e, by show (1 : Int) ≠ 5; decide, fun z => absurd (show (1 : Int) = 6 from z) (by decide)⟩
    · exact TEL.hd d _ _ _ _ h
    · exact ⟨_, _, e, by show (2 : Int) ≠ 5; decide, fun z => absurd (show (2 : Int) = 6 from z) (by decide)⟩
    · exact ⟨_, _, e, by show (11 : Int) ≠ 5; decide, fun z => absurd (show (11 : Int) = 6 from z) (by decide)⟩
    · exact ⟨_, _, q, by show (8 : Int) ≠ 5; decide, fun _ => rfl⟩
    · exact ⟨_, _, q, by show (7 : Int) ≠ 5; decide, fun _ => rfl⟩
    · exact ⟨_, _, q, by show (6 : Int) ≠ 5; decide, fun _ => rfl⟩
    · exact TEL.hd d _ _ _ _ q
theorem TEL.str {σ : Sto} : ∀ (d w b : Nat) (k : Int) (l : List Ln), TEL σ d w b k l → STR l
  | 0, _, _, _, _, h => h.elim
  | d + 1, w, b, k, l, h => by
    rcases h with ⟨_, ⟨_, h⟩ | ⟨_, l1, h, e⟩⟩ | ⟨_, ⟨_, h⟩ | ⟨m, l1, l2, _, _, _, h1, h2, e⟩⟩ | ⟨_, tl, e, h⟩ | ⟨_, e, _, _, _, ⟨_, q⟩ | ⟨_, _, q⟩ | ⟨_, _, q⟩ | ⟨_, _, q⟩⟩
    · exact TEL.str d _ _ _ _ h
    · rw [e]; exact (STR.one (by decide)).app ((TEL.str d _ _ _ _ h).app (STR.one (by decide)))
    · exact TEL.str d _ _ _ _ h
    · rw [e]; exact (STR.one (by decide)).app ((TEL.str d _ _ _ _ h1).app ((STR.one (by decide)).app (TEL.str d _ _ _ _ h2)))
    · have ht : STR tl := by
        rcases h with ⟨_, l1, l2, h1, h2, e2⟩ | ⟨_, _, h⟩ | ⟨_, _, _, h⟩ | ⟨_, _, h⟩
        · obtain ⟨y, r, y1, y2, y3⟩ := TEL.hd d _ _ _ _ h2
          have s2 := TEL.str d _ _ _ _ h2
          rw [y1] at s2
          rw [e2, y1]
          exact (STR.one (by decide)).app ((TEL.str d _ _ _ _ h1).app (STR.els s2 y2 y3))
        · exact TEL.str d _ _ _ _ h
        · exact TEL.str d _ _ _ _ h
        · rw [h]; exact STR.nil
      rw [e]; exact (STR.one (by decide)).app ((STR.ty σ b).app ((STR.st _ _ _).app ((STR.ca σ b).app ht)))
    · rw [q]; exact STR.one (by decide)
    · rw [q]; exact STR.one (by decide)
    · rw [q]; exact STR.one (by decide)
    · exact TEL.str d _ _ _ _ q
