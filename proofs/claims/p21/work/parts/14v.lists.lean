/-- the listings of both alike, with their depths, and the class's blocks those of its listing -/
def LSA (σ s : Sto) : Prop := ((σ.1 0 0).toInt = 0 ∧ (s.1 21 0).toInt = 0) ∨ ((σ.1 0 0).toInt ≠ 0 ∧ (s.1 21 0).toInt ≠ 0 ∧ (σ.1 4 0).toInt = (s.1 15 0).toInt ∧ (σ.1 5 0).toInt = (s.1 16 0).toInt ∧ (∀ i, i < (s.1 15 0).toInt.toNat → σ.1 6 i = s.1 9 i ∧ σ.1 7 i = s.1 10 i) ∧ (∀ h, h < (s.1 16 0).toInt.toNat → σ.1 9 h = h3 (s.1 11) 0 h ∧ σ.1 10 h = h3 (s.1 11) 1 h ∧ σ.1 11 h = h3 (s.1 11) 2 h) ∧ mk (s.1 15 0).toInt.toNat (σ.1 8) = mk (s.1 15 0).toInt.toNat (s.1 20) ∧ BKX σ)
theorem LSA.cg {σ s σ2 s2 : Sto} (h : LSA σ s) (a : ∀ k, k ∈ ([0, 4, 5, 6, 7, 8, 9, 10, 11, 20, 21, 22, 23] : List Nat) → σ2.1 k = σ.1 k) (b : ∀ k, k ∈ ([9, 10, 11, 15, 16, 20, 21] : List Nat) → s2.1 k = s.1 k) : LSA σ2 s2 := by
  unfold LSA at h ⊢
  rw [a 0 (by decide), a 4 (by decide), a 5 (by decide), a 6 (by decide), a 7 (by decide), a 8 (by decide), a 9 (by decide), a 10 (by decide), a 11 (by decide), b 9 (by decide), b 10 (by decide), b 11 (by decide), b 15 (by decide), b 16 (by decide), b 20 (by decide), b 21 (by decide)]
  rcases h with h | ⟨h1, h2, h3_, h4, h5, h6, h7, h8⟩
  · exact Or.inl h
  · exact Or.inr ⟨h1, h2, h3_, h4, h5, h6, h7, h8.cg (fun k hk => a k (by revert hk; revert k; decide))⟩
theorem no_in {ms L : List Nat} (d : L.all (fun k => !ms.contains k) = true) {k : Nat} (hk : k ∈ L) : k ∉ ms := fun hm => by
  have := List.all_eq_true.mp d k hk
  simp only [Bool.not_eq_true', List.contains_eq_mem, decide_eq_false_iff_not] at this
  exact this hm
abbrev LSX : List Nat := [0, 4, 5, 6, 7, 8, 9, 10, 11, 20, 21, 22, 23]
abbrev LSM : List Nat := [9, 10, 11, 15, 16, 20, 21]
theorem KLs.r {τ s : Sto} (h : KLs τ s) : ∀ k, k ∈ LSM → s.1 k = τ.1 k := fun k hk => h.1 k (by
  simp only [List.mem_cons, List.not_mem_nil, or_false] at hk
  rcases hk with z | z | z | z | z | z | z <;> omega)
def JT3 (σ s : Sto) : Prop := JT σ s ∧ LSA σ s
theorem JT3.m {σ s s2 : Sto} (h : JT3 σ s) (g : GR s s2) : JT3 σ s2 := ⟨h.1.m g, h.2.cg (fun _ _ => rfl) (KLs.r g.2.2.2.2)⟩
theorem JT3.x {σ s σ2 : Sto} {ms : List Nat} (h : JT3 σ s) (hB : BX σ2) (f : FR ms [] σ σ2) (hm : ms.all (fun k => JIF.contains k) = true) (hd : (!ms.contains 1 && !ms.contains 2) = true) (hl : LSX.all (fun k => !ms.contains k) = true) : JT3 σ2 s := ⟨h.1.x hB f hm hd, h.2.cg (fun k hk => f.1 k (no_in hl hk)) (fun _ _ => rfl)⟩
theorem JT3.two {σ s σ2 s2 : Sto} {ms ml : List Nat} (h : JT3 σ s) (j : JT σ2 s2) (f : FR ms [] σ σ2) (g : FR ml [] s s2) (hl : LSX.all (fun k => !ms.contains k) = true) (hl2 : LSM.all (fun k => !ml.contains k) = true) : JT3 σ2 s2 := ⟨j, h.2.cg (fun k hk => f.1 k (no_in hl hk)) (fun k hk => g.1 k (no_in hl2 hk))⟩
theorem K_feed {σ s : Sto} (h : JT3 σ s) (a b c d e : Int32) : ∃ v σ2 s2, f_X11_feed a b c d e σ = some (v, σ2) ∧ f_X12_feed a b c d e s = some (v, s2) ∧ JT3 σ2 s2 := by
  have g1 := gX_2 h.1.1.b 0
  have g2 := gM_2 h.1.2.1.1 0
  obtain ⟨⟨v, σ2⟩, x1, x2, x3⟩ := ok_and (s_X11_feed (x1 := a) (x2 := b) (x3 := c) (x4 := d) (x5 := e) h.1.1.b) (t_feedX (a := a) (b := b) (c := c) (d := d) (e := e) g1)
  obtain ⟨⟨w, s2⟩, y1, y2, y3⟩ := ok_and (s_X12_feed (x1 := a) (x2 := b) (x3 := c) (x4 := d) (x5 := e) h.1.2.1.1) (t_feedM (a := a) (b := b) (c := c) (d := d) (e := e) g2)
  rw [h.1.2.2, ← y3] at x3
  have e1 : Tq σ2 = Tq s2 := congrArg Prod.fst x3
  have e2 : v = w := congrArg Prod.snd x3
  subst e2
  exact ⟨v, σ2, s2, x1, y1, h.two ⟨h.1.1.fr x2.2.1 (FR.cal FR.rf x2.2.2 rfl rfl), h.1.2.1.tp y2.2.1 y2.2.2 rfl, e1⟩ x2.2.2 y2.2.2 rfl rfl⟩
theorem K_end {σ s : Sto} (h : JT3 σ s) (a : Int32) : ∃ v σ2 s2, f_X11_end a σ = some (v, σ2) ∧ f_X12_end a s = some (v, s2) ∧ JT3 σ2 s2 := by
  obtain ⟨⟨v, σ2⟩, x1, x2, x3⟩ := ok_and (s_X11_end (x1 := a) h.1.1.b) (t_endX (x := a))
  obtain ⟨⟨w, s2⟩, y1, y2, y3⟩ := ok_and (s_X12_end (x1 := a) h.1.2.1.1) (t_endM (x := a))
  rw [h.1.2.2, ← y3] at x3
  have e1 : Tq σ2 = Tq s2 := congrArg Prod.fst x3
  have e2 : v = w := congrArg Prod.snd x3
  subst e2
  exact ⟨v, σ2, s2, x1, y1, h.two ⟨h.1.1.fr x2.2.1 (FR.cal FR.rf x2.2.2 rfl rfl), h.1.2.1.tp y2.2.1 y2.2.2 rfl, e1⟩ x2.2.2 y2.2.2 rfl rfl⟩
theorem K_fault {σ s : Sto} (h : JT3 σ s) : ∃ v σ2 w s2, f_X11_fault σ = some (v, σ2) ∧ f_X12_fault s = some (w, s2) ∧ JT3 σ2 s2 := by
  obtain ⟨⟨v, σ2⟩, x1, x2⟩ := s_X11_fault h.1.1.b
  obtain ⟨⟨w, s2⟩, y1, y2⟩ := s_X12_fault h.1.2.1.1
  exact ⟨v, σ2, w, s2, x1, y1, h.two ⟨h.1.1.fr x2.2.1 (FR.cal FR.rf x2.2.2 rfl rfl), h.1.2.1.tp y2.2.1 y2.2.2 rfl, by rw [Tq.fr x2.2.2 rfl, Tq.fr y2.2.2 rfl]; exact h.1.2.2⟩ x2.2.2 y2.2.2 rfl rfl⟩
theorem K_count {σ s : Sto} (h : JT3 σ s) (a : Int32) : ∃ v w s2, f_X11_count a σ = some v ∧ f_X12_count a s = some (w, s2) ∧ JT3 σ s2 := by
  obtain ⟨v, x1, _⟩ := s_X11_count (x1 := a) h.1.1.b
  obtain ⟨⟨w, s2⟩, y1, y2⟩ := s_count (x1 := a) h.1.2.1
  exact ⟨v, w, s2, x1, y1, h.m y2⟩
theorem K_edge {σ s : Sto} (h : JT3 σ s) (a b : Int32) : ∃ v w s2, f_X11_edge a b σ = some v ∧ f_X12_edge a b s = some (w, s2) ∧ JT3 σ s2 := by
  obtain ⟨v, x1, _⟩ := s_X11_edge (x1 := a) (x2 := b) h.1.1.b
  obtain ⟨⟨w, s2⟩, y1, y2⟩ := s_edge (x1 := a) (x2 := b) h.1.2.1
  exact ⟨v, w, s2, x1, y1, h.m y2⟩
theorem K_dominates {σ s : Sto} (h : JT3 σ s) (a b : Int32) : ∃ v w s2, f_X11_dominates a b σ = some v ∧ f_X12_dominates a b s = some (w, s2) ∧ JT3 σ s2 := by
  obtain ⟨v, x1, _⟩ := s_X11_dominates (x1 := a) (x2 := b) h.1.1.b
  obtain ⟨⟨w, s2⟩, y1, y2⟩ := s_dominates (x1 := a) (x2 := b) h.1.2.1
  exact ⟨v, w, s2, x1, y1, h.m y2⟩
theorem K_loop {σ s : Sto} (h : JT3 σ s) (a : Int32) : ∃ v w s2, f_X11_loop a σ = some v ∧ f_X12_loop a s = some (w, s2) ∧ JT3 σ s2 := by
  obtain ⟨v, x1, _⟩ := s_X11_loop (x1 := a) h.1.1.b
  obtain ⟨⟨w, s2⟩, y1, y2⟩ := s_loop (x1 := a) h.1.2.1
  exact ⟨v, w, s2, x1, y1, h.m y2⟩
theorem K_line {σ s : Sto} (h : JT3 σ s) (a b : Int32) : ∃ v w s2, f_X11_line a b σ = some v ∧ f_X12_line_ a b s = some (w, s2) ∧ JT3 σ s2 := by
  obtain ⟨v, x1, _⟩ := s_X11_line (x1 := a) (x2 := b) h.1.1.b
  obtain ⟨⟨w, s2⟩, y1, y2⟩ := s_line_ (x1 := a) (x2 := b) h.1.2.1
  exact ⟨v, w, s2, x1, y1, h.m y2⟩
theorem K_type {σ s : Sto} (h : JT3 σ s) (a b : Int32) : ∃ v w s2, f_X11_type a b σ = some v ∧ f_X12_type a b s = some (w, s2) ∧ JT3 σ s2 := by
  obtain ⟨v, x1, _⟩ := s_X11_type (x1 := a) (x2 := b) h.1.1.b
  obtain ⟨⟨w, s2⟩, y1, y2⟩ := s_type (x1 := a) (x2 := b) h.1.2.1
  exact ⟨v, w, s2, x1, y1, h.m y2⟩
theorem K_comesTo {σ s : Sto} (h : JT3 σ s) (a : Int32) : ∃ v w s2, f_X11_comesTo a σ = some v ∧ f_X12_comesTo a s = some (w, s2) ∧ JT3 σ s2 := by
  obtain ⟨v, x1, _⟩ := s_X11_comesTo (x1 := a) h.1.1.b
  obtain ⟨⟨w, s2⟩, y1, y2⟩ := s_comesTo (x1 := a) h.1.2.1
  exact ⟨v, w, s2, x1, y1, h.m y2⟩
theorem K_far {σ s : Sto} (h : JT3 σ s) (a b : Int32) : ∃ v w s2, f_X11_far a b σ = some v ∧ f_X12_far a b s = some (w, s2) ∧ JT3 σ s2 := by
  obtain ⟨v, x1, _⟩ := s_X11_far (x1 := a) (x2 := b) h.1.1.b
  obtain ⟨⟨w, s2⟩, y1, y2⟩ := s_far (x1 := a) (x2 := b) h.1.2.1
  exact ⟨v, w, s2, x1, y1, h.m y2⟩
theorem K_most {σ s : Sto} (h : JT3 σ s) (a : Int32) : ∃ v w s2, f_X11_most a σ = some v ∧ f_X12_most a s = some (w, s2) ∧ JT3 σ s2 := by
  obtain ⟨v, x1, _⟩ := s_X11_most (x1 := a) h.1.1.b
  obtain ⟨⟨w, s2⟩, y1, y2⟩ := s_most (x1 := a) h.1.2.1
  exact ⟨v, w, s2, x1, y1, h.m y2⟩
theorem K_statement {σ s : Sto} (h : JT3 σ s) (a b c : Int32) : ∃ v σ2 w s2, f_X11_statement a b c σ = some (v, σ2) ∧ f_X12_statement a b c s = some (w, s2) ∧ JT3 σ2 s2 := by
  obtain ⟨hB, h1, h2, h3, h4, h5, h6, h7, h8, h9, h10, h11⟩ := h.1.1
  obtain ⟨⟨v, σ2⟩, x1, _, x2, x3⟩ := s_X11_statement (x1 := a) (x2 := b) (x3 := c) hB h1 h7 h8 h10
  obtain ⟨⟨w, s2⟩, y1, y2⟩ := s_statement (x1 := a) (x2 := b) (x3 := c) h.1.2.1
  exact ⟨v, σ2, w, s2, x1, y1, (h.x x2 x3 rfl rfl rfl).m y2⟩
theorem K_condition {σ s : Sto} (h : JT3 σ s) (a b : Int32) : ∃ v σ2 w s2, f_X11_condition a b σ = some (v, σ2) ∧ f_X12_condition a b s = some (w, s2) ∧ JT3 σ2 s2 := by
  obtain ⟨hB, h1, h2, h3, h4, h5, h6, h7, h8, h9, h10, h11⟩ := h.1.1
  obtain ⟨⟨v, σ2⟩, x1, _, x2, x3⟩ := s_X11_condition (x1 := a) (x2 := b) hB h1 h7 h9
  obtain ⟨⟨w, s2⟩, y1, y2⟩ := s_condition (x1 := a) (x2 := b) h.1.2.1
  exact ⟨v, σ2, w, s2, x1, y1, (h.x x2 x3 rfl rfl rfl).m y2⟩
theorem K_spell {σ s : Sto} (h : JT3 σ s) (a b : Int32) : ∃ v σ2 w s2, f_X11_spell a b σ = some (v, σ2) ∧ f_X12_spell a b s = some (w, s2) ∧ JT3 σ2 s2 := by
  obtain ⟨hB, h1, h2, h3, h4, h5, h6, h7, h8, h9, h10, h11⟩ := h.1.1
  obtain ⟨⟨v, σ2⟩, x1, _, x2, x3⟩ := s_X11_spell (x1 := a) (x2 := b) hB h1 h7 h2 h8 h11
  obtain ⟨⟨w, s2⟩, y1, y2⟩ := s_spell (x1 := a) (x2 := b) h.1.2.1
  exact ⟨v, σ2, w, s2, x1, y1, (h.x x2 x3 rfl rfl rfl).m y2⟩
theorem K_run {σ s : Sto} (h : JT3 σ s) (a b c d e f : Int32) : ∃ v σ2 w s2, f_X11_run a b c d e f σ = some (v, σ2) ∧ f_X12_run a b c d e f s = some (w, s2) ∧ JT3 σ2 s2 := by
  obtain ⟨hB, h1, h2, h3, h4, h5, h6, h7, h8, h9, h10, h11⟩ := h.1.1
  obtain ⟨⟨v, σ2⟩, x1, _, x2, x3⟩ := s_X11_run (x1 := a) (x2 := b) (x3 := c) (x4 := d) (x5 := e) (x6 := f) hB h1 h2 h3 h4 h5
  obtain ⟨⟨w, s2⟩, y1, y2⟩ := s_run (x1 := a) (x2 := b) (x3 := c) (x4 := d) (x5 := e) (x6 := f) h.1.2.1
  exact ⟨v, σ2, w, s2, x1, y1, (h.x x2 x3 rfl rfl rfl).m y2⟩
theorem K_output {σ s : Sto} (h : JT3 σ s) (a b c d e f : Int32) : ∃ v σ2 w s2, f_X11_output a b c d e f σ = some (v, σ2) ∧ f_X12_output a b c d e f s = some (w, s2) ∧ JT3 σ2 s2 := by
  obtain ⟨hB, h1, h2, h3, h4, h5, h6, h7, h8, h9, h10, h11⟩ := h.1.1
  obtain ⟨⟨v, σ2⟩, x1, _, x2, x3⟩ := s_X11_output (x1 := a) (x2 := b) (x3 := c) (x4 := d) (x5 := e) (x6 := f) hB h1 h2 h3 h4 h5
  obtain ⟨⟨w, s2⟩, y1, y2⟩ := s_output (x1 := a) (x2 := b) (x3 := c) (x4 := d) (x5 := e) (x6 := f) h.1.2.1
  exact ⟨v, σ2, w, s2, x1, y1, (h.x x2 x3 rfl rfl rfl).m y2⟩
theorem K_instruction {σ s : Sto} (h : JT3 σ s) (a b : Int32) : ∃ w s2, f_X12_instruction_ a b s = some (w, s2) ∧ JT3 σ s2 := by
  obtain ⟨⟨w, s2⟩, y1, y2⟩ := s_instruction_ (x1 := a) (x2 := b) h.1.2.1
  exact ⟨w, s2, y1, h.m y2⟩
theorem K_block {σ s : Sto} (h : JT3 σ s) (a b : Int32) : ∃ w s2, f_X12_block a b s = some (w, s2) ∧ JT3 σ s2 := by
  obtain ⟨⟨w, s2⟩, y1, y2⟩ := s_block (x1 := a) (x2 := b) h.1.2.1
  exact ⟨w, s2, y1, h.m y2⟩
