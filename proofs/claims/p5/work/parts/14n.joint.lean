theorem JI.b {s : Sto} (h : JI s) : BX s := h.1
theorem GR.tp {σ s τ : Sto} {ms : List Nat} (h : GR τ σ) (hB : BM s) (f : FR ms [] σ s) (d1 : ms.all (fun k => decide (k ≤ 8)) = true) : GR s s := by
  have a : ∀ k, 8 < k → s.1 k = σ.1 k := fun k hk => f.1 k (fun hm => by
    have := List.all_eq_true.mp d1 k hm
    simp only [decide_eq_true_eq] at this
    omega)
  have b : ∀ k, s.2 k = σ.2 k := fun k => f.2 k (by simp)
  exact ⟨hB, h.2.1.imp (fun z => by rw [a 21 (by omega)]; exact z) (fun z => z.cg hB (fun k hk => a k (by omega)) (fun k _ => b k)), rfl, rfl⟩
/-- both objects between calls: each its own, the tapes alike -/
def JT (σ s : Sto) : Prop := JI σ ∧ GR s s ∧ Tq σ = Tq s
theorem Tq.of {σ s : Sto} (h : GR σ s) : Tq s = Tq σ := by
  unfold Tq
  rw [h.2.2.1, h.2.2.2]
theorem Tq.fr {σ s : Sto} {ms ml : List Nat} (f : FR ms ml σ s) (hd : (!ms.contains 1 && !ms.contains 2) = true) : Tq s = Tq σ := by
  simp only [Bool.and_eq_true, Bool.not_eq_true', List.contains_eq_mem, decide_eq_false_iff_not] at hd
  unfold Tq
  rw [f.1 1 hd.1, f.1 2 hd.2]
theorem JT.m {σ s s2 : Sto} (h : JT σ s) (g : GR s s2) : JT σ s2 := ⟨h.1, g.self, h.2.2.trans (Tq.of g).symm⟩
theorem JT.x {σ s σ2 : Sto} {ms : List Nat} (h : JT σ s) (hB : BX σ2) (f : FR ms [] σ σ2) (hm : ms.all (fun k => JIF.contains k) = true) (hd : (!ms.contains 1 && !ms.contains 2) = true) : JT σ2 s := ⟨h.1.fr hB (FR.cal FR.rf f hm rfl), h.2.1, (Tq.fr f hd).trans h.2.2⟩
theorem J_feed {σ s : Sto} (h : JT σ s) (a b c d e : Int32) : ∃ v σ2 s2, f_X11_feed a b c d e σ = some (v, σ2) ∧ f_X12_feed a b c d e s = some (v, s2) ∧ JT σ2 s2 := by
  have g1 := gX_2 h.1.b 0
  have g2 := gM_2 h.2.1.1 0
  obtain ⟨⟨v, σ2⟩, x1, x2, x3⟩ := ok_and (s_X11_feed (x1 := a) (x2 := b) (x3 := c) (x4 := d) (x5 := e) h.1.b) (t_feedX (a := a) (b := b) (c := c) (d := d) (e := e) g1)
  obtain ⟨⟨w, s2⟩, y1, y2, y3⟩ := ok_and (s_X12_feed (x1 := a) (x2 := b) (x3 := c) (x4 := d) (x5 := e) h.2.1.1) (t_feedM (a := a) (b := b) (c := c) (d := d) (e := e) g2)
  rw [h.2.2, ← y3] at x3
  have e1 : Tq σ2 = Tq s2 := congrArg Prod.fst x3
  have e2 : v = w := congrArg Prod.snd x3
  subst e2
  exact ⟨v, σ2, s2, x1, y1, h.1.fr x2.2.1 (FR.cal FR.rf x2.2.2 rfl rfl), h.2.1.tp y2.2.1 y2.2.2 rfl, e1⟩
theorem J_end {σ s : Sto} (h : JT σ s) (a : Int32) : ∃ v σ2 s2, f_X11_end a σ = some (v, σ2) ∧ f_X12_end a s = some (v, s2) ∧ JT σ2 s2 := by
  obtain ⟨⟨v, σ2⟩, x1, x2, x3⟩ := ok_and (s_X11_end (x1 := a) h.1.b) (t_endX (x := a))
  obtain ⟨⟨w, s2⟩, y1, y2, y3⟩ := ok_and (s_X12_end (x1 := a) h.2.1.1) (t_endM (x := a))
  rw [h.2.2, ← y3] at x3
  have e1 : Tq σ2 = Tq s2 := congrArg Prod.fst x3
  have e2 : v = w := congrArg Prod.snd x3
  subst e2
  exact ⟨v, σ2, s2, x1, y1, h.1.fr x2.2.1 (FR.cal FR.rf x2.2.2 rfl rfl), h.2.1.tp y2.2.1 y2.2.2 rfl, e1⟩
theorem J_fault {σ s : Sto} (h : JT σ s) : ∃ v σ2 w s2, f_X11_fault σ = some (v, σ2) ∧ f_X12_fault s = some (w, s2) ∧ JT σ2 s2 := by
  obtain ⟨⟨v, σ2⟩, x1, x2⟩ := s_X11_fault h.1.b
  obtain ⟨⟨w, s2⟩, y1, y2⟩ := s_X12_fault h.2.1.1
  exact ⟨v, σ2, w, s2, x1, y1, h.1.fr x2.2.1 (FR.cal FR.rf x2.2.2 rfl rfl), h.2.1.tp y2.2.1 y2.2.2 rfl, by rw [Tq.fr x2.2.2 rfl, Tq.fr y2.2.2 rfl]; exact h.2.2⟩
theorem J_code {σ s : Sto} (h : JT σ s) : ∃ v σ2 w s2, f_X11_code σ = some (v, σ2) ∧ f_X12_code s = some (w, s2) ∧ JT σ2 s2 := by
  obtain ⟨⟨v, σ2⟩, x1, x2, x3, x4, x5⟩ := s_codeX h.1
  obtain ⟨⟨w, s2⟩, y1, y2, y3, y4, y5⟩ := s_codeM h.2.1
  have t1 : σ.1 1 = s.1 1 := congrArg Prod.fst h.2.2
  have t2 : σ.1 2 0 = s.1 2 0 := congrArg Prod.snd h.2.2
  (try dsimp only at x2 x3 x4 x5 y2 y3 y4 y5)
  rw [t1, t2] at x4 x5
  refine ⟨v, σ2, w, s2, x1, y1, x2, y2, ?_⟩
  unfold Tq
  have r1 : σ2.1 1 = s2.1 1 := by rw [x3, y3, t1]
  have r2 : σ2.1 2 0 = s2.1 2 0 := by
    by_cases q : CDP (s.1 2 0).toInt.toNat (cb (s.1 1))
    · exact Int32.toInt_inj.mp (by rw [x4 q, y4 q])
    · rw [x5 q, y5 q, t2]
  rw [r1, r2]
theorem J_put {σ s : Sto} (h : JT σ s) (a b c : Int32) : ∃ v σ2 w s2, f_X11_put a b c σ = some (v, σ2) ∧ f_X12_put a b c s = some (w, s2) ∧ JT σ2 s2 := by
  obtain ⟨hB, h1, h2, h3, h4, h5, h6, h7, h8, h9, h10, h11⟩ := h.1
  obtain ⟨⟨v, σ2⟩, x1, _, a1, a2, a3, a4, a5, a6, a7, a8, a9, a10, a11, a12, a13⟩ := s_X11_put (x1 := a) (x2 := b) (x3 := c) hB h1 h2 h3 h4 h5 h6 h7 h8 h9 h10 h11
  obtain ⟨⟨w, s2⟩, y1, y2⟩ := s_put (x1 := a) (x2 := b) (x3 := c) h.2.1
  exact ⟨v, σ2, w, s2, x1, y1, ⟨a1, a3, a4, a5, a6, a7, a8, a9, a10, a11, a12, a13⟩, GR.self y2, by rw [Tq.fr a2 rfl, Tq.of y2]; exact h.2.2⟩
theorem J_count {σ s : Sto} (h : JT σ s) (a : Int32) : ∃ v w s2, f_X11_count a σ = some v ∧ f_X12_count a s = some (w, s2) ∧ JT σ s2 := by
  obtain ⟨v, x1, _⟩ := s_X11_count (x1 := a) h.1.b
  obtain ⟨⟨w, s2⟩, y1, y2⟩ := s_count (x1 := a) h.2.1
  exact ⟨v, w, s2, x1, y1, h.m y2⟩
theorem J_edge {σ s : Sto} (h : JT σ s) (a b : Int32) : ∃ v w s2, f_X11_edge a b σ = some v ∧ f_X12_edge a b s = some (w, s2) ∧ JT σ s2 := by
  obtain ⟨v, x1, _⟩ := s_X11_edge (x1 := a) (x2 := b) h.1.b
  obtain ⟨⟨w, s2⟩, y1, y2⟩ := s_edge (x1 := a) (x2 := b) h.2.1
  exact ⟨v, w, s2, x1, y1, h.m y2⟩
theorem J_dominates {σ s : Sto} (h : JT σ s) (a b : Int32) : ∃ v w s2, f_X11_dominates a b σ = some v ∧ f_X12_dominates a b s = some (w, s2) ∧ JT σ s2 := by
  obtain ⟨v, x1, _⟩ := s_X11_dominates (x1 := a) (x2 := b) h.1.b
  obtain ⟨⟨w, s2⟩, y1, y2⟩ := s_dominates (x1 := a) (x2 := b) h.2.1
  exact ⟨v, w, s2, x1, y1, h.m y2⟩
theorem J_loop {σ s : Sto} (h : JT σ s) (a : Int32) : ∃ v w s2, f_X11_loop a σ = some v ∧ f_X12_loop a s = some (w, s2) ∧ JT σ s2 := by
  obtain ⟨v, x1, _⟩ := s_X11_loop (x1 := a) h.1.b
  obtain ⟨⟨w, s2⟩, y1, y2⟩ := s_loop (x1 := a) h.2.1
  exact ⟨v, w, s2, x1, y1, h.m y2⟩
theorem J_line {σ s : Sto} (h : JT σ s) (a b : Int32) : ∃ v w s2, f_X11_line a b σ = some v ∧ f_X12_line_ a b s = some (w, s2) ∧ JT σ s2 := by
  obtain ⟨v, x1, _⟩ := s_X11_line (x1 := a) (x2 := b) h.1.b
  obtain ⟨⟨w, s2⟩, y1, y2⟩ := s_line_ (x1 := a) (x2 := b) h.2.1
  exact ⟨v, w, s2, x1, y1, h.m y2⟩
theorem J_type {σ s : Sto} (h : JT σ s) (a b : Int32) : ∃ v w s2, f_X11_type a b σ = some v ∧ f_X12_type a b s = some (w, s2) ∧ JT σ s2 := by
  obtain ⟨v, x1, _⟩ := s_X11_type (x1 := a) (x2 := b) h.1.b
  obtain ⟨⟨w, s2⟩, y1, y2⟩ := s_type (x1 := a) (x2 := b) h.2.1
  exact ⟨v, w, s2, x1, y1, h.m y2⟩
theorem J_comesTo {σ s : Sto} (h : JT σ s) (a : Int32) : ∃ v w s2, f_X11_comesTo a σ = some v ∧ f_X12_comesTo a s = some (w, s2) ∧ JT σ s2 := by
  obtain ⟨v, x1, _⟩ := s_X11_comesTo (x1 := a) h.1.b
  obtain ⟨⟨w, s2⟩, y1, y2⟩ := s_comesTo (x1 := a) h.2.1
  exact ⟨v, w, s2, x1, y1, h.m y2⟩
theorem J_far {σ s : Sto} (h : JT σ s) (a b : Int32) : ∃ v w s2, f_X11_far a b σ = some v ∧ f_X12_far a b s = some (w, s2) ∧ JT σ s2 := by
  obtain ⟨v, x1, _⟩ := s_X11_far (x1 := a) (x2 := b) h.1.b
  obtain ⟨⟨w, s2⟩, y1, y2⟩ := s_far (x1 := a) (x2 := b) h.2.1
  exact ⟨v, w, s2, x1, y1, h.m y2⟩
theorem J_most {σ s : Sto} (h : JT σ s) (a : Int32) : ∃ v w s2, f_X11_most a σ = some v ∧ f_X12_most a s = some (w, s2) ∧ JT σ s2 := by
  obtain ⟨v, x1, _⟩ := s_X11_most (x1 := a) h.1.b
  obtain ⟨⟨w, s2⟩, y1, y2⟩ := s_most (x1 := a) h.2.1
  exact ⟨v, w, s2, x1, y1, h.m y2⟩
theorem J_statement {σ s : Sto} (h : JT σ s) (a b c : Int32) : ∃ v σ2 w s2, f_X11_statement a b c σ = some (v, σ2) ∧ f_X12_statement a b c s = some (w, s2) ∧ JT σ2 s2 := by
  obtain ⟨hB, h1, h2, h3, h4, h5, h6, h7, h8, h9, h10, h11⟩ := h.1
  obtain ⟨⟨v, σ2⟩, x1, _, x2, x3⟩ := s_X11_statement (x1 := a) (x2 := b) (x3 := c) hB h1 h7 h8 h10
  obtain ⟨⟨w, s2⟩, y1, y2⟩ := s_statement (x1 := a) (x2 := b) (x3 := c) h.2.1
  exact ⟨v, σ2, w, s2, x1, y1, (h.x x2 x3 rfl rfl).m y2⟩
theorem J_condition {σ s : Sto} (h : JT σ s) (a b : Int32) : ∃ v σ2 w s2, f_X11_condition a b σ = some (v, σ2) ∧ f_X12_condition a b s = some (w, s2) ∧ JT σ2 s2 := by
  obtain ⟨hB, h1, h2, h3, h4, h5, h6, h7, h8, h9, h10, h11⟩ := h.1
  obtain ⟨⟨v, σ2⟩, x1, _, x2, x3⟩ := s_X11_condition (x1 := a) (x2 := b) hB h1 h7 h9
  obtain ⟨⟨w, s2⟩, y1, y2⟩ := s_condition (x1 := a) (x2 := b) h.2.1
  exact ⟨v, σ2, w, s2, x1, y1, (h.x x2 x3 rfl rfl).m y2⟩
theorem J_spell {σ s : Sto} (h : JT σ s) (a b : Int32) : ∃ v σ2 w s2, f_X11_spell a b σ = some (v, σ2) ∧ f_X12_spell a b s = some (w, s2) ∧ JT σ2 s2 := by
  obtain ⟨hB, h1, h2, h3, h4, h5, h6, h7, h8, h9, h10, h11⟩ := h.1
  obtain ⟨⟨v, σ2⟩, x1, _, x2, x3⟩ := s_X11_spell (x1 := a) (x2 := b) hB h1 h7 h2 h8 h11
  obtain ⟨⟨w, s2⟩, y1, y2⟩ := s_spell (x1 := a) (x2 := b) h.2.1
  exact ⟨v, σ2, w, s2, x1, y1, (h.x x2 x3 rfl rfl).m y2⟩
theorem J_run {σ s : Sto} (h : JT σ s) (a b c d e f : Int32) : ∃ v σ2 w s2, f_X11_run a b c d e f σ = some (v, σ2) ∧ f_X12_run a b c d e f s = some (w, s2) ∧ JT σ2 s2 := by
  obtain ⟨hB, h1, h2, h3, h4, h5, h6, h7, h8, h9, h10, h11⟩ := h.1
  obtain ⟨⟨v, σ2⟩, x1, _, x2, x3⟩ := s_X11_run (x1 := a) (x2 := b) (x3 := c) (x4 := d) (x5 := e) (x6 := f) hB h1 h2 h3 h4 h5
  obtain ⟨⟨w, s2⟩, y1, y2⟩ := s_run (x1 := a) (x2 := b) (x3 := c) (x4 := d) (x5 := e) (x6 := f) h.2.1
  exact ⟨v, σ2, w, s2, x1, y1, (h.x x2 x3 rfl rfl).m y2⟩
theorem J_output {σ s : Sto} (h : JT σ s) (a b c d e f : Int32) : ∃ v σ2 w s2, f_X11_output a b c d e f σ = some (v, σ2) ∧ f_X12_output a b c d e f s = some (w, s2) ∧ JT σ2 s2 := by
  obtain ⟨hB, h1, h2, h3, h4, h5, h6, h7, h8, h9, h10, h11⟩ := h.1
  obtain ⟨⟨v, σ2⟩, x1, _, x2, x3⟩ := s_X11_output (x1 := a) (x2 := b) (x3 := c) (x4 := d) (x5 := e) (x6 := f) hB h1 h2 h3 h4 h5
  obtain ⟨⟨w, s2⟩, y1, y2⟩ := s_output (x1 := a) (x2 := b) (x3 := c) (x4 := d) (x5 := e) (x6 := f) h.2.1
  exact ⟨v, σ2, w, s2, x1, y1, (h.x x2 x3 rfl rfl).m y2⟩
theorem J_instruction {σ s : Sto} (h : JT σ s) (a b : Int32) : ∃ w s2, f_X12_instruction_ a b s = some (w, s2) ∧ JT σ s2 := by
  obtain ⟨⟨w, s2⟩, y1, y2⟩ := s_instruction_ (x1 := a) (x2 := b) h.2.1
  exact ⟨w, s2, y1, h.m y2⟩
theorem J_block {σ s : Sto} (h : JT σ s) (a b : Int32) : ∃ w s2, f_X12_block a b s = some (w, s2) ∧ JT σ s2 := by
  obtain ⟨⟨w, s2⟩, y1, y2⟩ := s_block (x1 := a) (x2 := b) h.2.1
  exact ⟨w, s2, y1, h.m y2⟩
