/-- the class's rows that adoptDraft lays -/
def kx4 (k : Nat) : Bool := k == 0 || (decide (4 ≤ k) && decide (k ≤ 11)) || (decide (20 ≤ k) && decide (k ≤ 77))
/-- the reference's rows that lays lays, or reads -/
def km4 (k : Nat) : Bool := (decide (9 ≤ k) && decide (k ≤ 11)) || k == 15 || k == 16 || (decide (20 ≤ k) && decide (k ≤ 64))
def SAX (σ s : Sto) : Prop := (∀ k, kx4 k = true → s.1 k = σ.1 k) ∧ ∀ k, s.2 k = σ.2 k
def SAQ (σ s : Sto) : Prop := (∀ k, km4 k = true → s.1 k = σ.1 k) ∧ ∀ k, k ≤ 1 → s.2 k = σ.2 k
/-- what adoptDraft may begin with -/
def GDX (s : Sto) : Prop := BX s ∧ DV s ∧ PI s ∧ SI s ∧ LI s ∧ FE s ∧ BV s
def AD4 (σ : Sto) : Prop := ∃ s5 a, GDX s5 ∧ f_X11_adoptDraft s5 = some a ∧ SAX a σ
def LY4 (s : Sto) : Prop := ∃ s7 b, (BM s7 ∧ QL s7) ∧ f_X12_lays_ s7 = some b ∧ SAQ b s
theorem SAX.rf {σ : Sto} : SAX σ σ := ⟨fun _ _ => rfl, fun _ => rfl⟩
theorem SAQ.rf {σ : Sto} : SAQ σ σ := ⟨fun _ _ => rfl, fun _ _ => rfl⟩
theorem SAX.tr {a b c : Sto} (h : SAX a b) (g : SAX b c) : SAX a c := ⟨fun k hk => (g.1 k hk).trans (h.1 k hk), fun k => (g.2 k).trans (h.2 k)⟩
theorem SAQ.tr {a b c : Sto} (h : SAQ a b) (g : SAQ b c) : SAQ a c := ⟨fun k hk => (g.1 k hk).trans (h.1 k hk), fun k hk => (g.2 k hk).trans (h.2 k hk)⟩
theorem AD4.cg {σ s : Sto} (h : AD4 σ) (g : SAX σ s) : AD4 s := by
  obtain ⟨s5, a, h1, h2, h3⟩ := h
  exact ⟨s5, a, h1, h2, h3.tr g⟩
theorem LY4.cg {σ s : Sto} (h : LY4 σ) (g : SAQ σ s) : LY4 s := by
  obtain ⟨s7, b, h1, h2, h3⟩ := h
  exact ⟨s7, b, h1, h2, h3.tr g⟩
theorem SAX.of {σ s : Sto} {ms : List Nat} (f : FR ms [] σ s) (d : ms.all (fun k => !kx4 k) = true) : SAX σ s := ⟨fun k hk => f.1 k (fun hm => by
  have := List.all_eq_true.mp d k hm
  rw [hk] at this
  cases this), fun k => f.2 k List.not_mem_nil⟩
theorem SAQ.of {σ s : Sto} {ms : List Nat} (f : FR ms [] σ s) (d : ms.all (fun k => !km4 k) = true) : SAQ σ s := ⟨fun k hk => f.1 k (fun hm => by
  have := List.all_eq_true.mp d k hm
  rw [hk] at this
  cases this), fun k _ => f.2 k List.not_mem_nil⟩
theorem SAQ.kl {σ s : Sto} (h : KLs σ s) : SAQ σ s := ⟨fun k hk => h.1 k (fun z => by
  simp only [km4, Bool.or_eq_true, Bool.and_eq_true, decide_eq_true_eq, beq_iff_eq] at hk
  omega), h.2⟩
def JT4 (σ s : Sto) : Prop := JT3 σ s ∧ ((σ.1 0 0).toInt = 0 ∨ (AD4 σ ∧ LY4 s))
theorem JT4.go {σ s σ2 s2 : Sto} (h : JT4 σ s) (j : JT3 σ2 s2) (x : SAX σ σ2) (m : SAQ s s2) : JT4 σ2 s2 := ⟨j, h.2.imp (fun z => by rw [x.1 0 rfl]; exact z) (fun z => ⟨z.1.cg x, z.2.cg m⟩)⟩
theorem JT4.m {σ s s2 : Sto} (h : JT4 σ s) (g : GR s s2) : JT4 σ s2 := h.go (h.1.m g) SAX.rf (SAQ.kl g.2.2.2.2)
theorem JT4.x {σ s σ2 : Sto} {ms : List Nat} (h : JT4 σ s) (hB : BX σ2) (f : FR ms [] σ σ2) (hm : ms.all (fun k => JIF.contains k) = true) (hd : (!ms.contains 1 && !ms.contains 2) = true) (hl : LSX.all (fun k => !ms.contains k) = true) (h4 : ms.all (fun k => !kx4 k) = true) : JT4 σ2 s := h.go (h.1.x hB f hm hd hl) (SAX.of f h4) SAQ.rf
theorem JT4.two {σ s σ2 s2 : Sto} {ms ml : List Nat} (h : JT4 σ s) (j : JT σ2 s2) (f : FR ms [] σ σ2) (g : FR ml [] s s2) (hl : LSX.all (fun k => !ms.contains k) = true) (hl2 : LSM.all (fun k => !ml.contains k) = true) (h4 : ms.all (fun k => !kx4 k) = true) (h5 : ml.all (fun k => !km4 k) = true) : JT4 σ2 s2 := h.go (h.1.two j f g hl hl2) (SAX.of f h4) (SAQ.of g h5)
theorem Q_feed {σ s : Sto} (q4 : JT4 σ s) (a b c d e : Int32) : ∃ v σ2 s2, f_X11_feed a b c d e σ = some (v, σ2) ∧ f_X12_feed a b c d e s = some (v, s2) ∧ JT4 σ2 s2 := by
  have h := q4.1
  have g1 := gX_2 h.1.1.b 0
  have g2 := gM_2 h.1.2.1.1 0
  obtain ⟨⟨v, σ2⟩, x1, x2, x3⟩ := ok_and (s_X11_feed (x1 := a) (x2 := b) (x3 := c) (x4 := d) (x5 := e) h.1.1.b) (t_feedX (a := a) (b := b) (c := c) (d := d) (e := e) g1)
  obtain ⟨⟨w, s2⟩, y1, y2, y3⟩ := ok_and (s_X12_feed (x1 := a) (x2 := b) (x3 := c) (x4 := d) (x5 := e) h.1.2.1.1) (t_feedM (a := a) (b := b) (c := c) (d := d) (e := e) g2)
  rw [h.1.2.2, ← y3] at x3
  have e1 : Tq σ2 = Tq s2 := congrArg Prod.fst x3
  have e2 : v = w := congrArg Prod.snd x3
  subst e2
  exact ⟨v, σ2, s2, x1, y1, q4.two ⟨h.1.1.fr x2.2.1 (FR.cal FR.rf x2.2.2 rfl rfl), h.1.2.1.tp y2.2.1 y2.2.2 rfl, e1⟩ x2.2.2 y2.2.2 rfl rfl rfl rfl⟩
theorem Q_end {σ s : Sto} (q4 : JT4 σ s) (a : Int32) : ∃ v σ2 s2, f_X11_end a σ = some (v, σ2) ∧ f_X12_end a s = some (v, s2) ∧ JT4 σ2 s2 := by
  have h := q4.1
  obtain ⟨⟨v, σ2⟩, x1, x2, x3⟩ := ok_and (s_X11_end (x1 := a) h.1.1.b) (t_endX (x := a))
  obtain ⟨⟨w, s2⟩, y1, y2, y3⟩ := ok_and (s_X12_end (x1 := a) h.1.2.1.1) (t_endM (x := a))
  rw [h.1.2.2, ← y3] at x3
  have e1 : Tq σ2 = Tq s2 := congrArg Prod.fst x3
  have e2 : v = w := congrArg Prod.snd x3
  subst e2
  exact ⟨v, σ2, s2, x1, y1, q4.two ⟨h.1.1.fr x2.2.1 (FR.cal FR.rf x2.2.2 rfl rfl), h.1.2.1.tp y2.2.1 y2.2.2 rfl, e1⟩ x2.2.2 y2.2.2 rfl rfl rfl rfl⟩
theorem Q_fault {σ s : Sto} (q4 : JT4 σ s) : ∃ v σ2 w s2, f_X11_fault σ = some (v, σ2) ∧ f_X12_fault s = some (w, s2) ∧ JT4 σ2 s2 := by
  have h := q4.1
  obtain ⟨⟨v, σ2⟩, x1, x2⟩ := s_X11_fault h.1.1.b
  obtain ⟨⟨w, s2⟩, y1, y2⟩ := s_X12_fault h.1.2.1.1
  exact ⟨v, σ2, w, s2, x1, y1, q4.two ⟨h.1.1.fr x2.2.1 (FR.cal FR.rf x2.2.2 rfl rfl), h.1.2.1.tp y2.2.1 y2.2.2 rfl, by rw [Tq.fr x2.2.2 rfl, Tq.fr y2.2.2 rfl]; exact h.1.2.2⟩ x2.2.2 y2.2.2 rfl rfl rfl rfl⟩
theorem Q_count {σ s : Sto} (q4 : JT4 σ s) (a : Int32) : ∃ v w s2, f_X11_count a σ = some v ∧ f_X12_count a s = some (w, s2) ∧ JT4 σ s2 := by
  have h := q4.1
  obtain ⟨v, x1, _⟩ := s_X11_count (x1 := a) h.1.1.b
  obtain ⟨⟨w, s2⟩, y1, y2⟩ := s_count (x1 := a) h.1.2.1
  exact ⟨v, w, s2, x1, y1, q4.m y2⟩
theorem Q_edge {σ s : Sto} (q4 : JT4 σ s) (a b : Int32) : ∃ v w s2, f_X11_edge a b σ = some v ∧ f_X12_edge a b s = some (w, s2) ∧ JT4 σ s2 := by
  have h := q4.1
  obtain ⟨v, x1, _⟩ := s_X11_edge (x1 := a) (x2 := b) h.1.1.b
  obtain ⟨⟨w, s2⟩, y1, y2⟩ := s_edge (x1 := a) (x2 := b) h.1.2.1
  exact ⟨v, w, s2, x1, y1, q4.m y2⟩
theorem Q_dominates {σ s : Sto} (q4 : JT4 σ s) (a b : Int32) : ∃ v w s2, f_X11_dominates a b σ = some v ∧ f_X12_dominates a b s = some (w, s2) ∧ JT4 σ s2 := by
  have h := q4.1
  obtain ⟨v, x1, _⟩ := s_X11_dominates (x1 := a) (x2 := b) h.1.1.b
  obtain ⟨⟨w, s2⟩, y1, y2⟩ := s_dominates (x1 := a) (x2 := b) h.1.2.1
  exact ⟨v, w, s2, x1, y1, q4.m y2⟩
theorem Q_loop {σ s : Sto} (q4 : JT4 σ s) (a : Int32) : ∃ v w s2, f_X11_loop a σ = some v ∧ f_X12_loop a s = some (w, s2) ∧ JT4 σ s2 := by
  have h := q4.1
  obtain ⟨v, x1, _⟩ := s_X11_loop (x1 := a) h.1.1.b
  obtain ⟨⟨w, s2⟩, y1, y2⟩ := s_loop (x1 := a) h.1.2.1
  exact ⟨v, w, s2, x1, y1, q4.m y2⟩
theorem Q_line {σ s : Sto} (q4 : JT4 σ s) (a b : Int32) : ∃ v w s2, f_X11_line a b σ = some v ∧ f_X12_line_ a b s = some (w, s2) ∧ JT4 σ s2 := by
  have h := q4.1
  obtain ⟨v, x1, _⟩ := s_X11_line (x1 := a) (x2 := b) h.1.1.b
  obtain ⟨⟨w, s2⟩, y1, y2⟩ := s_line_ (x1 := a) (x2 := b) h.1.2.1
  exact ⟨v, w, s2, x1, y1, q4.m y2⟩
theorem Q_type {σ s : Sto} (q4 : JT4 σ s) (a b : Int32) : ∃ v w s2, f_X11_type a b σ = some v ∧ f_X12_type a b s = some (w, s2) ∧ JT4 σ s2 := by
  have h := q4.1
  obtain ⟨v, x1, _⟩ := s_X11_type (x1 := a) (x2 := b) h.1.1.b
  obtain ⟨⟨w, s2⟩, y1, y2⟩ := s_type (x1 := a) (x2 := b) h.1.2.1
  exact ⟨v, w, s2, x1, y1, q4.m y2⟩
theorem Q_comesTo {σ s : Sto} (q4 : JT4 σ s) (a : Int32) : ∃ v w s2, f_X11_comesTo a σ = some v ∧ f_X12_comesTo a s = some (w, s2) ∧ JT4 σ s2 := by
  have h := q4.1
  obtain ⟨v, x1, _⟩ := s_X11_comesTo (x1 := a) h.1.1.b
  obtain ⟨⟨w, s2⟩, y1, y2⟩ := s_comesTo (x1 := a) h.1.2.1
  exact ⟨v, w, s2, x1, y1, q4.m y2⟩
theorem Q_far {σ s : Sto} (q4 : JT4 σ s) (a b : Int32) : ∃ v w s2, f_X11_far a b σ = some v ∧ f_X12_far a b s = some (w, s2) ∧ JT4 σ s2 := by
  have h := q4.1
  obtain ⟨v, x1, _⟩ := s_X11_far (x1 := a) (x2 := b) h.1.1.b
  obtain ⟨⟨w, s2⟩, y1, y2⟩ := s_far (x1 := a) (x2 := b) h.1.2.1
  exact ⟨v, w, s2, x1, y1, q4.m y2⟩
theorem Q_most {σ s : Sto} (q4 : JT4 σ s) (a : Int32) : ∃ v w s2, f_X11_most a σ = some v ∧ f_X12_most a s = some (w, s2) ∧ JT4 σ s2 := by
  have h := q4.1
  obtain ⟨v, x1, _⟩ := s_X11_most (x1 := a) h.1.1.b
  obtain ⟨⟨w, s2⟩, y1, y2⟩ := s_most (x1 := a) h.1.2.1
  exact ⟨v, w, s2, x1, y1, q4.m y2⟩
theorem Q_statement {σ s : Sto} (q4 : JT4 σ s) (a b c : Int32) : ∃ v σ2 w s2, f_X11_statement a b c σ = some (v, σ2) ∧ f_X12_statement a b c s = some (w, s2) ∧ JT4 σ2 s2 := by
  have h := q4.1
  obtain ⟨hB, h1, h2, h3, h4, h5, h6, h7, h8, h9, h10, h11⟩ := h.1.1
  obtain ⟨⟨v, σ2⟩, x1, _, x2, x3⟩ := s_X11_statement (x1 := a) (x2 := b) (x3 := c) hB h1 h7 h8 h10
  obtain ⟨⟨w, s2⟩, y1, y2⟩ := s_statement (x1 := a) (x2 := b) (x3 := c) h.1.2.1
  exact ⟨v, σ2, w, s2, x1, y1, (q4.x x2 x3 rfl rfl rfl rfl).m y2⟩
theorem Q_condition {σ s : Sto} (q4 : JT4 σ s) (a b : Int32) : ∃ v σ2 w s2, f_X11_condition a b σ = some (v, σ2) ∧ f_X12_condition a b s = some (w, s2) ∧ JT4 σ2 s2 := by
  have h := q4.1
  obtain ⟨hB, h1, h2, h3, h4, h5, h6, h7, h8, h9, h10, h11⟩ := h.1.1
  obtain ⟨⟨v, σ2⟩, x1, _, x2, x3⟩ := s_X11_condition (x1 := a) (x2 := b) hB h1 h7 h9
  obtain ⟨⟨w, s2⟩, y1, y2⟩ := s_condition (x1 := a) (x2 := b) h.1.2.1
  exact ⟨v, σ2, w, s2, x1, y1, (q4.x x2 x3 rfl rfl rfl rfl).m y2⟩
theorem Q_spell {σ s : Sto} (q4 : JT4 σ s) (a b : Int32) : ∃ v σ2 w s2, f_X11_spell a b σ = some (v, σ2) ∧ f_X12_spell a b s = some (w, s2) ∧ JT4 σ2 s2 := by
  have h := q4.1
  obtain ⟨hB, h1, h2, h3, h4, h5, h6, h7, h8, h9, h10, h11⟩ := h.1.1
  obtain ⟨⟨v, σ2⟩, x1, _, x2, x3⟩ := s_X11_spell (x1 := a) (x2 := b) hB h1 h7 h2 h8 h11
  obtain ⟨⟨w, s2⟩, y1, y2⟩ := s_spell (x1 := a) (x2 := b) h.1.2.1
  exact ⟨v, σ2, w, s2, x1, y1, (q4.x x2 x3 rfl rfl rfl rfl).m y2⟩
theorem Q_run {σ s : Sto} (q4 : JT4 σ s) (a b c d e f : Int32) : ∃ v σ2 w s2, f_X11_run a b c d e f σ = some (v, σ2) ∧ f_X12_run a b c d e f s = some (w, s2) ∧ JT4 σ2 s2 := by
  have h := q4.1
  obtain ⟨hB, h1, h2, h3, h4, h5, h6, h7, h8, h9, h10, h11⟩ := h.1.1
  obtain ⟨⟨v, σ2⟩, x1, _, x2, x3⟩ := s_X11_run (x1 := a) (x2 := b) (x3 := c) (x4 := d) (x5 := e) (x6 := f) hB h1 h2 h3 h4 h5
  obtain ⟨⟨w, s2⟩, y1, y2⟩ := s_run (x1 := a) (x2 := b) (x3 := c) (x4 := d) (x5 := e) (x6 := f) h.1.2.1
  exact ⟨v, σ2, w, s2, x1, y1, (q4.x x2 x3 rfl rfl rfl rfl).m y2⟩
theorem Q_output {σ s : Sto} (q4 : JT4 σ s) (a b c d e f : Int32) : ∃ v σ2 w s2, f_X11_output a b c d e f σ = some (v, σ2) ∧ f_X12_output a b c d e f s = some (w, s2) ∧ JT4 σ2 s2 := by
  have h := q4.1
  obtain ⟨hB, h1, h2, h3, h4, h5, h6, h7, h8, h9, h10, h11⟩ := h.1.1
  obtain ⟨⟨v, σ2⟩, x1, _, x2, x3⟩ := s_X11_output (x1 := a) (x2 := b) (x3 := c) (x4 := d) (x5 := e) (x6 := f) hB h1 h2 h3 h4 h5
  obtain ⟨⟨w, s2⟩, y1, y2⟩ := s_output (x1 := a) (x2 := b) (x3 := c) (x4 := d) (x5 := e) (x6 := f) h.1.2.1
  exact ⟨v, σ2, w, s2, x1, y1, (q4.x x2 x3 rfl rfl rfl rfl).m y2⟩
theorem Q_instruction {σ s : Sto} (q4 : JT4 σ s) (a b : Int32) : ∃ w s2, f_X12_instruction_ a b s = some (w, s2) ∧ JT4 σ s2 := by
  have h := q4.1
  obtain ⟨⟨w, s2⟩, y1, y2⟩ := s_instruction_ (x1 := a) (x2 := b) h.1.2.1
  exact ⟨w, s2, y1, q4.m y2⟩
theorem Q_block {σ s : Sto} (q4 : JT4 σ s) (a b : Int32) : ∃ w s2, f_X12_block a b s = some (w, s2) ∧ JT4 σ s2 := by
  have h := q4.1
  obtain ⟨⟨w, s2⟩, y1, y2⟩ := s_block (x1 := a) (x2 := b) h.1.2.1
  exact ⟨w, s2, y1, q4.m y2⟩
theorem u_takes {σ : Sto} (hB : BM σ) (hQ : QLc σ) : OK (f_X12_takes σ) (fun r => FR RT_ [0, 1, 2] σ r.2 ∧ LAID r.2 ∧ r.1.toInt = (nB r.2 : Int) ∧ (r.2.1 21 0).toInt = 1 ∧ ∃ s7, (BM s7 ∧ QL s7) ∧ f_X12_lays_ s7 = some r.2) := by
  have k_0 : (0 : Int32).toInt = 0 := by decide +kernel
  have k_1 : (1 : Int32).toInt = 1 := by decide +kernel
  have k_9 : (9 : Int32).toInt = 9 := by decide +kernel
  have k_40 : (40 : Int32).toInt = 40 := by decide +kernel
  have z0 : (0 : Int32).toNatClampNeg = 0 := by have := clamp_I (x := 0) (by omega); omega
  have g17 := gM_17 hB 0
  have g18 := gM_18 hB 0
  unfold f_X12_takes
  refine ok_itr2 (fun n x s => n = (41 - x.toInt).toNat ∧ 0 ≤ x.toInt ∧ x.toInt ≤ 40 ∧ BM s ∧ FR [9, 10, 20] [] σ s ∧ ∀ i, i < x.toNatClampNeg → s.1 9 i = σ.1 12 i ∧ s.1 10 i = σ.1 13 i ∧ s.1 20 i = σ.1 19 i) ?_ (n := (41 - (0 : Int32).toInt).toNat) ⟨rfl, by omega, by omega, hB, FR.rf, fun i hi => by omega⟩ (by rw [k_0]; decide)
  intro ag n x s I ih
  obtain ⟨hn, x0, x4, s1, s2, s3⟩ := I
  have cx := clamp_I x0
  refine ok_ite (fun c1 => ?_) (fun c1 => ?_)
  · rw [fa_le, k_40] at c1
    have xe : x.toNatClampNeg = 40 := by omega
    rw [xe] at s3
    refine ok_itr2 (fun n x u => n = (10 - x.toInt).toNat ∧ 0 ≤ x.toInt ∧ x.toInt ≤ 9 ∧ BM u ∧ FR [11] [] s u ∧ ∀ i, i < x.toNatClampNeg → u.1 11 i = σ.1 14 i) ?_ (n := (10 - (0 : Int32).toInt).toNat) ⟨rfl, by omega, by omega, s1, FR.rf, fun i hi => by omega⟩ (by rw [k_0]; decide)
    intro ag2 m y u I2 ih2
    obtain ⟨hm, y0, y9, u1, u2, u3⟩ := I2
    have cy := clamp_I y0
    refine ok_ite (fun c2 => ?_) (fun c2 => ?_)
    · rw [fa_le, k_9] at c2
      have ye : y.toNatClampNeg = 9 := by omega
      rw [ye] at u3
      have fu : FR [9, 10, 11, 20] [] σ u := FR.cal (FR.cal FR.rf s2 rfl rfl) u2 rfl rfl
      refine ok_lt fun s5 e5 => ?_
      refine ok_lt fun s6 e6 => ?_
      refine ok_lt fun s7 e7 => ?_
      have b5 : BM s5 := by rw [e5, fu.1 17 (by decide)]; exact pM_15 u1 (by omega)
      have b6 : BM s6 := by rw [e6, e5, sti_o (by decide), fu.1 18 (by decide)]; exact pM_16 (e5 ▸ b5) (by omega)
      have b7 : BM s7 := by rw [e7]; exact pM_21 b6 (by omega)
      have f7 : FR [9, 10, 11, 15, 16, 20, 21] [] σ s7 := by
        rw [e7]; refine FR.st ?_ (by decide)
        rw [e6]; refine FR.st ?_ (by decide)
        rw [e5]; exact FR.st (FR.cal FR.rf fu rfl rfl) (by decide)
      have o7 : ∀ k, k ≠ 15 → k ≠ 16 → k ≠ 21 → s7.1 k = u.1 k := fun k h1 h2 h3 => by rw [e7, sti_o h3, e6, sti_o h2, e5, sti_o h1]
      have Q : QL s7 := QLc.ql hQ (by omega) (by omega) (fun i hi => by
        rw [o7 9 (by decide) (by decide) (by decide), o7 10 (by decide) (by decide) (by decide), o7 20 (by decide) (by decide) (by decide), u2.1 9 (by decide), u2.1 10 (by decide), u2.1 20 (by decide)]
        exact s3 i hi) (fun i hi => by
        rw [o7 11 (by decide) (by decide) (by decide)]
        exact u3 i hi) (by rw [e7, sti_o (by decide), e6, sti_o (by decide), e5, sti_if, if_pos rfl, fu.1 17 (by decide)]) (by rw [e7, sti_o (by decide), e6, sti_if, if_pos rfl, e5, sti_o (by decide), fu.1 18 (by decide)])
      refine ok_cals (ok_and (s_lays_ b7 Q) (ok_tr (s_lays_ b7 Q) pc_eq)) (fun s8 q => ?_)
      obtain ⟨⟨q1, q2⟩, q8⟩ := q
      refine ok_ret ⟨FR.cal (FR.cal FR.rf f7 rfl rfl) q1 rfl rfl, q2, ?_, ?_, ?_⟩
      · have := nB_le q2.1; (try dsimp only); omega
      · show (s8.1 21 0).toInt = 1
        rw [q1.1 21 (by decide), e7, sti_if, if_pos rfl]; exact k_1
      · exact ⟨s7, ⟨b7, Q⟩, q8⟩
    · rw [fa_le, k_9] at c2
      have iy : 0 ≤ y.toInt ∧ y.toInt < 9 := by omega
      refine ok_ix iy ?_
      rw [u2.1 14 (by decide), s2.1 14 (by decide)]
      refine ok_lt fun v9 e9 => ?_
      refine ok_ix iy ?_
      refine ok_lt fun s10 e10 => ?_
      refine ok_lt fun x11 e11 => ?_
      have ex : x11.toInt = y.toInt + 1 := by rw [e11]; exact i1 (by omega)
      have cx11 := clamp_I (x := x11) (by omega)
      have g14 := gM_14 hB y.toNatClampNeg
      refine ih2 (10 - x11.toInt).toNat x11 s10 (by omega) ⟨rfl, by omega, by omega, by rw [e10, e9]; exact pM_11 u1 (by omega), by rw [e10]; exact FR.st u2 (by decide), fun i hi => ?_⟩
      rw [e10, sti_if]
      by_cases z : i = y.toNatClampNeg
      · rw [if_pos z, e9, z]
      · rw [if_neg z]; exact u3 i (by omega)
  · rw [fa_le, k_40] at c1
    have ix_ : 0 ≤ x.toInt ∧ x.toInt < 40 := by omega
    refine ok_ix ix_ ?_
    rw [s2.1 12 (by decide)]
    refine ok_lt fun v12 e12 => ?_
    refine ok_ix ix_ ?_
    refine ok_lt fun s13 e13 => ?_
    refine ok_ix ix_ ?_
    rw [show s13.1 13 = σ.1 13 by rw [e13, sti_o (by decide), s2.1 13 (by decide)]]
    refine ok_lt fun v14 e14 => ?_
    refine ok_ix ix_ ?_
    refine ok_lt fun s15 e15 => ?_
    refine ok_ix ix_ ?_
    rw [show s15.1 19 = σ.1 19 by rw [e15, sti_o (by decide), e13, sti_o (by decide), s2.1 19 (by decide)]]
    refine ok_lt fun v16 e16 => ?_
    refine ok_ix ix_ ?_
    refine ok_lt fun s17 e17 => ?_
    refine ok_lt fun x18 e18 => ?_
    have ex : x18.toInt = x.toInt + 1 := by rw [e18]; exact i1 (by omega)
    have cx18 := clamp_I (x := x18) (by omega)
    have g12 := gM_12 hB x.toNatClampNeg
    have g13 := gM_13 hB x.toNatClampNeg
    have g19 := gM_19 hB x.toNatClampNeg
    have B17 : BM s17 := by
      rw [e17, e16]; refine pM_20 ?_ (by omega)
      rw [e15, e14]; refine pM_10 ?_ (by omega)
      rw [e13, e12]; exact pM_9 s1 (by omega)
    have F17 : FR [9, 10, 20] [] σ s17 := by
      rw [e17]; refine FR.st ?_ (by decide)
      rw [e15]; refine FR.st ?_ (by decide)
      rw [e13]; exact FR.st s2 (by decide)
    have r9 : ∀ j, s17.1 9 j = if j = x.toNatClampNeg then v12 else s.1 9 j := fun j => by
      rw [e17, sti_o (by decide), e15, sti_o (by decide), e13, sti_if]
    have r10 : ∀ j, s17.1 10 j = if j = x.toNatClampNeg then v14 else s.1 10 j := fun j => by
      rw [e17, sti_o (by decide), e15, sti_if, e13, sti_o (by decide)]
    have r20 : ∀ j, s17.1 20 j = if j = x.toNatClampNeg then v16 else s.1 20 j := fun j => by
      rw [e17, sti_if, e15, sti_o (by decide), e13, sti_o (by decide)]
    refine ih (41 - x18.toInt).toNat x18 s17 (by omega) ⟨rfl, by omega, by omega, B17, F17, fun i hi => ?_⟩
    rw [r9, r10, r20]
    by_cases z : i = x.toNatClampNeg
    · rw [if_pos z, if_pos z, if_pos z, e12, e14, e16, z]
      exact ⟨rfl, rfl, rfl⟩
    · rw [if_neg z, if_neg z, if_neg z]; exact s3 i (by omega)

theorem u_codeX {σ : Sto} (h : JI σ) : OK (f_X11_code σ) (fun r => (¬ CDP (σ.1 2 0).toInt.toNat (cb (σ.1 1)) → SAX σ r.2) ∧ (CDP (σ.1 2 0).toInt.toNat (cb (σ.1 1)) → AD4 r.2)) := by
  obtain ⟨hB, h1, h2, h3, h4, h5, h6, h7, h8, h9, h10, h11⟩ := h
  have k_0 : (0 : Int32).toInt = 0 := by decide +kernel
  have k_1 : (1 : Int32).toInt = 1 := by decide +kernel
  unfold f_X11_code
  refine ok_calv (s_X9_read_draft (σ := σ) hB) (fun v1 s1 q => ?_)
  obtain ⟨b1, B1, F1, D1, x1, x2⟩ := q
  (try dsimp only at b1 B1 F1 D1 x1 x2)
  have tv : v1.toInt = (paT (σ.1 2 0).toInt.toNat (cb (σ.1 1))).1 := congrArg Prod.fst x1
  refine ok_ite (fun c1 => ?_) (fun c1 => ?_)
  · rw [fa_eq, k_0] at c1
    refine ok_ret ⟨fun _ => SAX.of F1 rfl, fun z => ?_⟩
    have := z.1
    omega
  rw [fa_eq, k_0] at c1
  obtain ⟨n1, eq_, er_⟩ := x2 (by omega)
  refine ok_calv (s_X3_judge_draft (σ := s1) B1 n1) (fun v3 s3 r => ?_)
  obtain ⟨r1, r2, r3, r4, r5⟩ := r
  (try dsimp only at r1 r2 r3 r4 r5)
  have g12 := gX_12 B1 0
  have g13 := gX_13 B1 0
  have hv : v3.toInt = 0 ↔ CDP (σ.1 2 0).toInt.toNat (cb (σ.1 1)) := CDP.of (by omega) eq_ er_ (fun i _ => ⟨rfl, rfl⟩) (fun i _ => ⟨rfl, rfl, rfl⟩) r4 r5
  refine ok_ite (fun c2 => ?_) (fun c2 => ?_)
  · rw [fa_eq, k_0] at c2
    have cd := hv.mp c2
    have L : LDP (s1.1 12 0).toInt.toNat (s1.1 13 0).toInt.toNat (ri (s1.1 14)) (ri (s1.1 15)) (ri (s1.1 17)) (ri (s1.1 18)) (ri (s1.1 19)) := Classical.byContradiction fun q => by have := r5 q; omega
    refine ok_lt fun s5 e5 => ?_
    have B5 : BX s5 := by rw [e5]; exact pX_2 r2 (by omega)
    have F5 : FR [2, 3, 12, 13, 14, 15, 16, 17, 18, 19] [] σ s5 := by
      rw [e5]; refine FR.st ?_ (by decide)
      exact FR.cal (FR.cal FR.rf F1 rfl rfl) r3 rfl rfl
    have DV3 : DV s3 := DV.of (σ := s1) (v := v3.toInt) n1 D1 B1 (by omega) ⟨r4, r5⟩ (fun k h1 h2 h3 => r3.1 k (by simp; omega))
    have DV5 : DV s5 := by rw [e5]; exact DV.st1 (by decide) DV3
    have AD := t_X11_adoptDraft (σ := s5) B5 DV5 (PI.fr F5 (by decide) h1) (SI.fr F5 (by decide) h2) (LI.fr F5 (by decide) h3) (FE.fr F5 (by decide) h5) (BV.fr F5 (by decide) h6)
    refine ok_cals (ok_tr AD pc_eq) (fun s6 u => ?_)
    exact ok_ret ⟨fun z => absurd cd z, fun _ => ⟨s5, s6, ⟨B5, DV5, PI.fr F5 (by decide) h1, SI.fr F5 (by decide) h2, LI.fr F5 (by decide) h3, FE.fr F5 (by decide) h5, BV.fr F5 (by decide) h6⟩, u, SAX.rf⟩⟩
  · rw [fa_eq, k_0] at c2
    exact ok_ret ⟨fun _ => SAX.of (FR.cal (FR.cal (FR.rf (ms := [2, 3, 12, 13, 14, 15, 16, 17, 18, 19])) F1 rfl rfl) r3 rfl rfl) rfl, fun z => absurd (hv.mpr z) c2⟩
theorem u_codeM {σ τ : Sto} (h : GR τ σ) : OK (f_X12_code σ) (fun r => (¬ CDP (σ.1 2 0).toInt.toNat (cb (σ.1 1)) → SAQ σ r.2) ∧ (CDP (σ.1 2 0).toInt.toNat (cb (σ.1 1)) → LY4 r.2)) := by
  have k_0 : (0 : Int32).toInt = 0 := by decide +kernel
  unfold f_X12_code
  refine ok_lt fun s1 e1 => ?_
  have B1 : BM s1 := by rw [e1]; exact pM_0 h.1 (by omega)
  have f1 : FR [0, 3, 4, 5, 6, 7, 8, 12, 13, 14, 17, 18, 19] [] σ s1 := by rw [e1]; exact FR.st FR.rf (by decide)
  refine ok_calv (s_X12_isText B1) (fun v2 s2 q => ?_)
  obtain ⟨q1, q2, q3, q4, q5, q6, q7⟩ := q
  (try dsimp only at q1 q2 q3 q4 q5 q6 q7)
  rw [f1.1 1 (by decide), f1.1 2 (by decide)] at q5 q6
  have f2 : FR [0, 3, 4, 5, 6, 7, 8, 12, 13, 14, 17, 18, 19] [] σ s2 := FR.cal f1 q3 rfl rfl
  have tv : v2.toInt = (paT (σ.1 2 0).toInt.toNat (cb (σ.1 1))).1 := congrArg Prod.fst q5
  refine ok_ite (fun c1 => ?_) (fun c1 => ?_)
  · rw [fa_eq, k_0] at c1
    refine ok_ret ⟨fun _ => SAQ.of f2 rfl, fun z => ?_⟩
    have := z.1
    omega
  rw [fa_eq, k_0] at c1
  obtain ⟨n1, eq_, er_⟩ := q6 (by omega)
  have g7 := gM_7 q2 0
  have g8 := gM_8 q2 0
  refine ok_cals (s_X12_tries_signRead_numberRead_handlerRead (x3 := s2.1 7 0) (x5 := s2.1 8 0) q2 (by omega) (by omega)) (fun s4 r => ?_)
  obtain ⟨r1, r2, r3, r4, r5, r6⟩ := r
  have f4 : FR [0, 3, 4, 5, 6, 7, 8, 12, 13, 14, 17, 18, 19] [] σ s4 := FR.cal f2 r2 rfl rfl
  refine ok_calv (ok_and (s_wrongQ r1 (by omega) (fun i hi => ?_)) (s_X12_wrong r1 (by omega))) (fun v5 s5 t => ?_)
  · rw [r3] at hi
    have := q4 i (by omega)
    unfold ri
    rw [(r5 i (by omega)).1, (r5 i (by omega)).2]
    exact this
  · obtain ⟨⟨t1, t2, t3, t4⟩, _, _, _, t5, t6⟩ := t
    (try dsimp only at t1 t2 t3 t4 t5 t6)
    have f5 : FR [0, 3, 4, 5, 6, 7, 8, 12, 13, 14, 17, 18, 19] [] σ s5 := FR.cal f4 t3 rfl rfl
    have zz : (s4.1 17 0).toInt.toNat = (s2.1 7 0).toInt.toNat := by rw [r3]
    have ww : (s4.1 18 0).toInt.toNat = (s2.1 8 0).toInt.toNat := by rw [r4]
    rw [zz, ww] at t5 t6
    have hv : v5.toInt = 0 ↔ CDP (σ.1 2 0).toInt.toNat (cb (σ.1 1)) := CDP.of (by omega) eq_ er_ (fun i hi => r5 i (by omega)) (fun i hi => ⟨r6 _ (by omega), r6 _ (by omega), r6 _ (by omega)⟩) t5 t6
    refine ok_ite (fun c2 => ?_) (fun c2 => ?_)
    · rw [fa_le, k_0] at c2
      have cd := hv.mp (by omega)
      have L : LDP (s2.1 7 0).toInt.toNat (s2.1 8 0).toInt.toNat (ri (s4.1 12)) (ri (s4.1 13)) (ri (h3 (s4.1 14) 0)) (ri (h3 (s4.1 14) 1)) (ri (h3 (s4.1 14) 2)) := Classical.byContradiction fun q => by have := t6 q; omega
      refine ok_lt fun s7 e7 => ?_
      have Q := t4 c2
      have o5 : ∀ k, k ≠ 2 → s7.1 k = s5.1 k := fun k hk => by rw [e7, sti_o hk]
      have Q7 : QLc s7 := by
        unfold QLc at Q ⊢
        rw [o5 12 (by decide), o5 13 (by decide), o5 14 (by decide), o5 17 (by decide), o5 18 (by decide), o5 19 (by decide)]
        exact Q
      refine ok_calv (u_takes (by rw [e7]; exact pM_2 t2 (by omega)) Q7) (fun v8 s8 u => ?_)
      obtain ⟨u1, u2, u3, u4, s9, u5, u6⟩ := u
      exact ok_ret ⟨fun z => absurd cd z, fun _ => ⟨s9, s8, u5, u6, SAQ.rf⟩⟩
    · rw [fa_le, k_0] at c2
      refine ok_ret ⟨fun _ => SAQ.of f5 rfl, fun z => ?_⟩
      have := hv.mpr z
      omega
theorem Q_code {σ s : Sto} (q4 : JT4 σ s) : ∃ v σ2 s2, f_X11_code σ = some (v, σ2) ∧ f_X12_code s = some (v, s2) ∧ JT4 σ2 s2 := by
  have h := q4.1
  obtain ⟨v, σ2, s2, z1, z2, z3⟩ := K_code h
  obtain ⟨⟨v', σ2'⟩, x1, x2, x3⟩ := u_codeX h.1.1
  obtain ⟨⟨w', s2'⟩, y1, y2, y3⟩ := u_codeM h.1.2.1
  have t1 : σ.1 1 = s.1 1 := congrArg Prod.fst h.1.2.2
  have t2 : σ.1 2 0 = s.1 2 0 := congrArg Prod.snd h.1.2.2
  have a := Option.some.inj (x1.symm.trans z1)
  have b := Option.some.inj (y1.symm.trans z2)
  injection a with a1 a2
  injection b with b1 b2
  subst a2; subst b2
  (try dsimp only at x2 x3 y2 y3)
  rw [t1, t2] at x2 x3
  refine ⟨v, σ2', s2', z1, z2, ?_⟩
  by_cases q : CDP (s.1 2 0).toInt.toNat (cb (s.1 1))
  · exact ⟨z3, Or.inr ⟨x3 q, y3 q⟩⟩
  · exact q4.go z3 (x2 q) (y2 q)
theorem u_putX {σ : Sto} {a b c : Int32} (h : JI σ) (hl : (σ.1 0 0).toInt ≠ 0) (ha : 0 ≤ a.toInt) (ha2 : a.toInt < (σ.1 4 0).toInt) (hi : INS b.toInt c.toInt) : OK (f_X11_put a b c σ) (fun r => PVR (σ.1 4 0).toInt.toNat (σ.1 5 0).toInt.toNat (ri (ptI (σ.1 6) a b)) (ri (ptI (σ.1 7) a c)) (ri (σ.1 9)) (ri (σ.1 10)) (ri (σ.1 11)) r.1.toInt (SAX σ r.2) (fun _ => AD4 r.2)) := by
  obtain ⟨hB, h1, h2, h3, h4, h5, h6, h7, h8, h9, h10, h11⟩ := h
  have k_0 : (0 : Int32).toInt = 0 := by decide +kernel
  have k_1 : (1 : Int32).toInt = 1 := by decide +kernel
  have g4 := gX_4 hB 0
  have g5 := gX_5 hB 0
  have ca := clamp_I ha
  unfold f_X11_put
  refine ok_ite (fun e => absurd (by rw [e]; exact k_0) hl) (fun _ => ?_)
  refine ok_ite (fun e => by rw [fa_lt, k_0] at e; omega) (fun _ => ?_)
  refine ok_ite (fun e => by rw [fa_le] at e; omega) (fun _ => ?_)
  refine ok_calp (ok_and s_X11_isInstruction (t_isInstruction (a := b) (b := c))) (fun v4 x => ?_)
  have v1 := x.2.2.mpr hi
  have hVI := x.1.2 v1
  have hVI2 := hVI.2
  refine ok_ite (fun e => by rw [fa_eq, k_0] at e; omega) (fun _ => ?_)
  have hq := h4 hl
  refine ok_cals (s_X3_copy_draft_listing (σ := σ) hB) (fun s6 y => ?_)
  obtain ⟨B6, F6, y1, y2, y3, y4⟩ := y
  have hDS6 : DS s6 := fun i hi => by have hi4 : (i : Int) < (σ.1 4 0).toInt := (by omega); have q := y3 i (by omega); rw [q.1, q.2.1]; exact (hq.2.1 i hi4).1
  refine ok_ix ⟨by omega, by omega⟩ ?_
  refine ok_lt fun s7 e7 => ?_
  have B7 : BX s7 := by rw [e7]; exact pX_14 B6 (by omega)
  refine ok_ix ⟨by omega, by omega⟩ ?_
  refine ok_lt fun s8 e8 => ?_
  have B8 : BX s8 := by rw [e8]; exact pX_15 B7 (by omega)
  have z8 : (s8.1 12 0).toInt = (σ.1 4 0).toInt := by rw [e8, e7]; exact y1
  have w8 : (s8.1 13 0).toInt = (σ.1 5 0).toInt := by rw [e8, e7]; exact y2
  have r14 : ∀ i, i < 40 → s8.1 14 i = ptI (σ.1 6) a b i := fun i hi => by
    rw [e8, sti_o (by decide), e7, sti_if]
    show _ = if i = a.toNatClampNeg then b else σ.1 6 i
    by_cases q : i = a.toNatClampNeg
    · rw [if_pos q, if_pos q]
    · rw [if_neg q, if_neg q, (y3 i hi).1]
  have r15 : ∀ i, i < 40 → s8.1 15 i = ptI (σ.1 7) a c i := fun i hi => by
    rw [e8, sti_if, e7, sti_o (by decide)]
    show _ = if i = a.toNatClampNeg then c else σ.1 7 i
    by_cases q : i = a.toNatClampNeg
    · rw [if_pos q, if_pos q]
    · rw [if_neg q, if_neg q, (y3 i hi).2.1]
  have r17 : ∀ h, h < 3 → s8.1 17 h = σ.1 9 h ∧ s8.1 18 h = σ.1 10 h ∧ s8.1 19 h = σ.1 11 h := fun i hi => by
    rw [e8, sti_o (by decide), sti_o (by decide), sti_o (by decide), e7, sti_o (by decide), sti_o (by decide), sti_o (by decide)]
    exact y4 i hi
  have hDS8 : DS s8 := fun i hi => by have hi6 : (i : Int) < (s6.1 12 0).toInt := (by omega); rw [show s8.1 14 = s7.1 14 by rw [e8]; rfl, show s8.1 15 = (sti s7 15 a.toNatClampNeg c).1 15 by rw [e8], e7, sti_if, sti_if]; by_cases q : i = a.toNatClampNeg; (rw [if_pos q, if_pos q]; exact hVI.1); (rw [if_neg q, if_neg q]; exact hDS6 i hi6)
  have F8 : FR [12, 13, 14, 15, 16, 17, 18, 19] [] σ s8 := by
    rw [e8]; refine FR.st ?_ (by decide)
    rw [e7]; exact FR.st F6 (by decide)
  refine ok_calv (s_X3_judge_draft (σ := s8) B8 (by omega)) (fun v9 s9 u => ?_)
  obtain ⟨u1, B9, F9, u2, u3⟩ := u
  (try dsimp only at u1 u2 u3)
  have pa : ∀ i, i < (σ.1 4 0).toInt.toNat → ri (ptI (σ.1 6) a b) i = ri (s8.1 14) i ∧ ri (ptI (σ.1 7) a c) i = ri (s8.1 15) i := fun i hi => by
    unfold ri; rw [r14 i (by omega), r15 i (by omega)]; exact ⟨rfl, rfl⟩
  have pb : ∀ h, h < (σ.1 5 0).toInt.toNat → ri (σ.1 9) h = ri (s8.1 17) h ∧ ri (σ.1 10) h = ri (s8.1 18) h ∧ ri (σ.1 11) h = ri (s8.1 19) h := fun i hi => by
    have := r17 i (by omega)
    unfold ri; rw [this.1, this.2.1, this.2.2]; exact ⟨rfl, rfl, rfl⟩
  have pa2 : ∀ i, i < (σ.1 4 0).toInt.toNat → ri (s8.1 14) i = ri (ptI (σ.1 6) a b) i ∧ ri (s8.1 15) i = ri (ptI (σ.1 7) a c) i := fun i hi => ⟨(pa i hi).1.symm, (pa i hi).2.symm⟩
  have pb2 : ∀ h, h < (σ.1 5 0).toInt.toNat → ri (s8.1 17) h = ri (σ.1 9) h ∧ ri (s8.1 18) h = ri (σ.1 10) h ∧ ri (s8.1 19) h = ri (σ.1 11) h := fun i hi => ⟨(pb i hi).1.symm, (pb i hi).2.1.symm, (pb i hi).2.2.symm⟩
  have DJ : DV s9 ∨ v9.toInt ≠ 0 := by
    by_cases q : v9.toInt = 0
    · exact Or.inl (DV.of (σ := s8) (v := v9.toInt) (by omega) hDS8 B8 q ⟨u2, u3⟩ (fun k h1 h2 h3 => F9.1 k (by simp; omega)))
    · exact Or.inr q
  rw [z8, w8] at u2 u3
  rw [JUP_cp pa2 pb2] at u2
  have ld : LDP (σ.1 4 0).toInt.toNat (σ.1 5 0).toInt.toNat (ri (ptI (σ.1 6) a b)) (ri (ptI (σ.1 7) a c)) (ri (σ.1 9)) (ri (σ.1 10)) (ri (σ.1 11)) ↔ LDP (σ.1 4 0).toInt.toNat (σ.1 5 0).toInt.toNat (ri (s8.1 14)) (ri (s8.1 15)) (ri (s8.1 17)) (ri (s8.1 18)) (ri (s8.1 19)) := ⟨fun L => LDP.cp pa2 pb2 L, fun L => LDP.cp pa pb L⟩
  rw [← ld] at u2 u3
  have F9' : FR [12, 13, 14, 15, 16, 17, 18, 19] [] σ s9 := FR.cal F8 F9 rfl rfl
  refine ok_ite (fun c2 => ?_) (fun c2 => ?_)
  · rw [fa_eq, k_0] at c2
    have L : LDP (σ.1 4 0).toInt.toNat (σ.1 5 0).toInt.toNat (ri (ptI (σ.1 6) a b)) (ri (ptI (σ.1 7) a c)) (ri (σ.1 9)) (ri (σ.1 10)) (ri (σ.1 11)) := Classical.byContradiction fun q => by have := u3 q; omega
    have AD := t_X11_adoptDraft (σ := s9) B9 (DJ.resolve_right (fun q => q c2)) (PI.fr F9' (by decide) h1) (SI.fr F9' (by decide) h2) (LI.fr F9' (by decide) h3) (FE.fr F9' (by decide) h5) (BV.fr F9' (by decide) h6)
    refine ok_cals (ok_and AD (ok_tr AD pc_eq)) (fun s11 u => ?_)
    obtain ⟨⟨B11, _, _, _, _, _, _, _, _, _, _, _, _, ub, uc⟩, u0⟩ := u
    obtain ⟨d1, d2, d3, d4⟩ := uc
    rw [F9.1 12 (by decide), z8] at d1
    rw [F9.1 13 (by decide), w8] at d2
    rw [F9.1 14 (by decide), F9.1 15 (by decide)] at d3
    rw [F9.1 17 (by decide), F9.1 18 (by decide), F9.1 19 (by decide)] at d4
    have hd : mk (σ.1 4 0).toInt.toNat (s11.1 8) = mk (σ.1 4 0).toInt.toNat (s9.1 16) := mk_cp (fun i hi => (d3 i (by omega)).2.2)
    have nb := ub.1
    have ea : ∀ i, i < (σ.1 4 0).toInt.toNat → ri (s11.1 6) i = ri (ptI (σ.1 6) a b) i ∧ ri (s11.1 7) i = ri (ptI (σ.1 7) a c) i := fun i hi => by
      unfold ri; rw [(d3 i (by omega)).1, (d3 i (by omega)).2.1, r14 i (by omega), r15 i (by omega)]; exact ⟨rfl, rfl⟩
    have eb : ∀ h, h < (σ.1 5 0).toInt.toNat → ri (s11.1 9) h = ri (σ.1 9) h ∧ ri (s11.1 10) h = ri (σ.1 10) h ∧ ri (s11.1 11) h = ri (σ.1 11) h := fun i hi => by
      have q := d4 i (by omega)
      have r := r17 i (by omega)
      unfold ri; rw [q.1, q.2.1, q.2.2, r.1, r.2.1, r.2.2]; exact ⟨rfl, rfl, rfl⟩
    rw [d1, d2, hd, cbP_cg (fun i _ => rfl) (fun i _ => CUTC.cp ea eb)] at nb
    have g20 := gX_20 B11 0
    refine ok_ret ⟨fun q => absurd L q, fun _ q hq2 => ?_⟩
    rw [← u2 L] at hq2
    subst hq2
    refine ⟨fun q => absurd c2 q, fun _ => ⟨?_, s9, s11, ⟨B9, DJ.resolve_right (fun q => q c2), PI.fr F9' (by decide) h1, SI.fr F9' (by decide) h2, LI.fr F9' (by decide) h3, FE.fr F9' (by decide) h5, BV.fr F9' (by decide) h6⟩, u0, SAX.rf⟩⟩
    have e9 : (s11.1 20 0).toInt = ((s11.1 20 0).toInt.toNat : Int) := by
      have g : 0 ≤ (s11.1 20 0).toInt := g20.1
      omega
    exact e9.trans (congrArg (fun q : Nat => (q : Int)) nb)
  · rw [fa_eq, k_0] at c2
    have same : SAX σ s9 := SAX.of F9' rfl
    refine ok_ret ⟨fun q => ⟨u3 q, same⟩, fun L q hq2 => ?_⟩
    rw [← u2 L] at hq2
    subst hq2
    exact ⟨fun _ => ⟨rfl, same⟩, fun q => absurd q c2⟩
theorem u_putM {σ τ : Sto} {a b c : Int32} (h : GR τ σ) (hl : (σ.1 21 0).toInt ≠ 0) (ha : 0 ≤ a.toInt) (ha2 : a.toInt < (σ.1 15 0).toInt) (hi : INS b.toInt c.toInt) : OK (f_X12_put a b c σ) (fun r => PVR (σ.1 15 0).toInt.toNat (σ.1 16 0).toInt.toNat (ri (ptI (σ.1 9) a b)) (ri (ptI (σ.1 10) a c)) (ri (h3 (σ.1 11) 0)) (ri (h3 (σ.1 11) 1)) (ri (h3 (σ.1 11) 2)) r.1.toInt (SAQ σ r.2) (fun _ => LY4 r.2)) := by
  have k_0 : (0 : Int32).toInt = 0 := by decide +kernel
  have n1 : (nI 1) = (1 : Int32) := by decide +kernel
  unfold f_X12_put
  refine ok_lt fun s1 e1 => ?_
  have B1 : BM s1 := by rw [e1]; exact pM_0 h.1 (by omega)
  have f1 : FR [0, 3, 4, 5, 6, 7, 8, 12, 13, 14, 17, 18, 19] [] σ s1 := by rw [e1]; exact FR.st FR.rf (by decide)
  have G1 : GR τ s1 := h.fr B1 f1 rfl rfl
  have p21 : s1.1 21 0 = σ.1 21 0 := by rw [f1.1 21 (by decide)]
  have p15 : s1.1 15 0 = σ.1 15 0 := by rw [f1.1 15 (by decide)]
  have p16 : s1.1 16 0 = σ.1 16 0 := by rw [f1.1 16 (by decide)]
  refine ok_ite (fun e => absurd (by rw [← p21, e]; exact k_0) hl) (fun c1 => ?_)
  rw [fa_eq, k_0] at c1
  have L1 := G1.2.1.resolve_left c1
  have Q1 := L1.2.1
  have g15 := gM_15 B1 0
  have g16 := gM_16 B1 0
  have em := i_sub (x := s1.1 15 0) (k := 1) (by decide) (by omega)
  rw [n1] at em
  refine ok_calp s_isIn (fun v3 q => ?_)
  rw [Int32.toInt_toInt64, Int32.toInt_toInt64, i64_0, em] at q
  have v3n := q.2.mpr ⟨ha, by rw [p15]; omega⟩
  refine ok_ite (fun e => by rw [fa_eq, k_0] at e; exact absurd e v3n) (fun c2 => ?_)
  rw [fa_eq, k_0] at c2
  have xb := q.2.mp c2
  clear em
  refine ok_calp (ok_and (s_isCode (x := b) (y := c)) (t_isCode (x := b) (y := c))) (fun v5 r => ?_)
  have v5n := r.2.2.mpr hi
  refine ok_ite (fun e => by rw [fa_eq, k_0] at e; exact absurd e v5n) (fun c3 => ?_)
  rw [fa_eq, k_0] at c3
  obtain ⟨y1, y2, y3⟩ := r.1.2 c3
  have cx := clamp_I xb.1
  refine ok_cals (s_triesP (x3 := s1.1 15 0) (x5 := s1.1 16 0) B1 (by omega) (by omega)) (fun s7 t => ?_)
  obtain ⟨t1, t2, t3, t4, t5, t6⟩ := t
  have f7 : FR [0, 3, 4, 5, 6, 7, 8, 12, 13, 14, 17, 18, 19] [] σ s7 := FR.cal f1 t2 rfl rfl
  have ix_ : 0 ≤ a.toInt ∧ a.toInt < 40 := by omega
  refine ok_ix ix_ ?_
  refine ok_lt fun s8 e8 => ?_
  refine ok_ix ix_ ?_
  refine ok_lt fun s9 e9 => ?_
  have b8 : BM s8 := by rw [e8]; exact pM_12 t1 y1
  have b9 : BM s9 := by rw [e9]; exact pM_13 b8 y2
  have f9 : FR [0, 3, 4, 5, 6, 7, 8, 12, 13, 14, 17, 18, 19] [] σ s9 := by
    rw [e9]; refine FR.st ?_ (by decide)
    rw [e8]; exact FR.st f7 (by decide)
  have r12 : ∀ j, s9.1 12 j = if j = a.toNatClampNeg then b else s7.1 12 j := fun j => by
    rw [e9, sti_o (by decide), e8, sti_if]
  have r13 : ∀ j, s9.1 13 j = if j = a.toNatClampNeg then c else s7.1 13 j := fun j => by
    rw [e9, sti_if, e8, sti_o (by decide)]
  have r17 : s9.1 17 0 = s1.1 15 0 := by rw [e9, sti_o (by decide), e8, sti_o (by decide), t3]
  have r18 : s9.1 18 0 = s1.1 16 0 := by rw [e9, sti_o (by decide), e8, sti_o (by decide), t4]
  have r14 : ∀ i, i < 9 → s9.1 14 i = σ.1 11 i := fun i hi => by rw [e9, sti_o (by decide), e8, sti_o (by decide), t6 i hi, f1.1 11 (by decide)]
  have q12 : ∀ i, i < 40 → s9.1 12 i = ptI (σ.1 9) a b i := fun i hi => by
    rw [r12]
    show _ = if i = a.toNatClampNeg then b else σ.1 9 i
    rw [(t5 i hi).1, f1.1 9 (by decide)]
  have q13 : ∀ i, i < 40 → s9.1 13 i = ptI (σ.1 10) a c i := fun i hi => by
    rw [r13]
    show _ = if i = a.toNatClampNeg then c else σ.1 10 i
    rw [(t5 i hi).2, f1.1 10 (by decide)]
  have q15 := Q1.1
  refine ok_calv (ok_and (s_wrongQ b9 (by rw [r17]; exact q15) (fun i hi => ?_)) (s_X12_wrong b9 (by rw [r17]; exact q15))) (fun v10 s10 u => ?_)
  · rw [r17] at hi
    unfold ri
    rw [r12, r13]
    by_cases z : i = a.toNatClampNeg
    · rw [if_pos z, if_pos z]; exact y3
    · rw [if_neg z, if_neg z, (t5 i (by omega)).1, (t5 i (by omega)).2]
      exact Q1.2.1 i hi
  · obtain ⟨⟨u1, u2, u3, u4⟩, _, _, _, u5, u6⟩ := u
    (try dsimp only at u1 u2 u3 u4 u5 u6)
    have zz : (s9.1 17 0).toInt.toNat = (σ.1 15 0).toInt.toNat := by rw [r17, p15]
    have ww : (s9.1 18 0).toInt.toNat = (σ.1 16 0).toInt.toNat := by rw [r18, p16]
    rw [p15] at g15
    rw [p16] at g16
    rw [zz, ww] at u5 u6
    have f10 : FR [0, 3, 4, 5, 6, 7, 8, 12, 13, 14, 17, 18, 19] [] σ s10 := FR.cal f9 u3 rfl rfl
    have pa : ∀ i, i < (σ.1 15 0).toInt.toNat → ri (ptI (σ.1 9) a b) i = ri (s9.1 12) i ∧ ri (ptI (σ.1 10) a c) i = ri (s9.1 13) i := fun i hi => by
      unfold ri; rw [q12 i (by omega), q13 i (by omega)]; exact ⟨rfl, rfl⟩
    have pb : ∀ h, h < (σ.1 16 0).toInt.toNat → ri (h3 (σ.1 11) 0) h = ri (h3 (s9.1 14) 0) h ∧ ri (h3 (σ.1 11) 1) h = ri (h3 (s9.1 14) 1) h ∧ ri (h3 (σ.1 11) 2) h = ri (h3 (s9.1 14) 2) h := fun i hi => by
      unfold ri h3; rw [r14 _ (by omega), r14 _ (by omega), r14 _ (by omega)]; exact ⟨rfl, rfl, rfl⟩
    have pa2 : ∀ i, i < (σ.1 15 0).toInt.toNat → ri (s9.1 12) i = ri (ptI (σ.1 9) a b) i ∧ ri (s9.1 13) i = ri (ptI (σ.1 10) a c) i := fun i hi => ⟨(pa i hi).1.symm, (pa i hi).2.symm⟩
    have pb2 : ∀ h, h < (σ.1 16 0).toInt.toNat → ri (h3 (s9.1 14) 0) h = ri (h3 (σ.1 11) 0) h ∧ ri (h3 (s9.1 14) 1) h = ri (h3 (σ.1 11) 1) h ∧ ri (h3 (s9.1 14) 2) h = ri (h3 (σ.1 11) 2) h := fun i hi => ⟨(pb i hi).1.symm, (pb i hi).2.1.symm, (pb i hi).2.2.symm⟩
    rw [JUP_cp pa2 pb2] at u5
    have ld : LDP (σ.1 15 0).toInt.toNat (σ.1 16 0).toInt.toNat (ri (ptI (σ.1 9) a b)) (ri (ptI (σ.1 10) a c)) (ri (h3 (σ.1 11) 0)) (ri (h3 (σ.1 11) 1)) (ri (h3 (σ.1 11) 2)) ↔ LDP (σ.1 15 0).toInt.toNat (σ.1 16 0).toInt.toNat (ri (s9.1 12)) (ri (s9.1 13)) (ri (h3 (s9.1 14) 0)) (ri (h3 (s9.1 14) 1)) (ri (h3 (s9.1 14) 2)) := ⟨fun L => LDP.cp pa2 pb2 L, fun L => LDP.cp pa pb L⟩
    rw [← ld] at u5 u6
    refine ok_ite (fun c4 => ?_) (fun c4 => ?_)
    · rw [fa_le, k_0] at c4
      have L : LDP (σ.1 15 0).toInt.toNat (σ.1 16 0).toInt.toNat (ri (ptI (σ.1 9) a b)) (ri (ptI (σ.1 10) a c)) (ri (h3 (σ.1 11) 0)) (ri (h3 (σ.1 11) 1)) (ri (h3 (σ.1 11) 2)) := Classical.byContradiction fun q => by have := u6 q; omega
      refine ok_calv (ok_and (t_takes u2 (u4 c4)) (u_takes u2 (u4 c4))) (fun v12 s12 w => ?_)
      obtain ⟨⟨w1, w2, w3, w4, w5⟩, _, _, _, _, s13, w6, w7⟩ := w
      (try dsimp only at w1 w2 w3 w4 w5)
      obtain ⟨d1, d2, d3, d4⟩ := w5
      rw [u3.1 17 (by decide), r17, p15] at d1
      rw [u3.1 18 (by decide), r18, p16] at d2
      rw [u3.1 12 (by decide), u3.1 13 (by decide)] at d3
      rw [u3.1 14 (by decide)] at d4
      have hn : nC s12 = (σ.1 15 0).toInt.toNat := by show (s12.1 15 0).toInt.toNat = _; rw [d1]
      have hh : nH s12 = (σ.1 16 0).toInt.toNat := by show (s12.1 16 0).toInt.toNat = _; rw [d2]
      have hd : mk (σ.1 15 0).toInt.toNat (s12.1 20) = mk (σ.1 15 0).toInt.toNat (s10.1 19) := mk_cp (fun i hi => (d3 i (by omega)).2.2)
      have ea : ∀ i, i < (σ.1 15 0).toInt.toNat → sG s12 i = ri (ptI (σ.1 9) a b) i ∧ nM s12 i = ri (ptI (σ.1 10) a c) i := fun i hi => by
        unfold sG nM ri
        rw [(d3 i (by omega)).1, (d3 i (by omega)).2.1, q12 i (by omega), q13 i (by omega)]
        exact ⟨rfl, rfl⟩
      have eb : ∀ h, h < (σ.1 16 0).toInt.toNat → fR s12 h = ri (h3 (σ.1 11) 0) h ∧ uP s12 h = ri (h3 (σ.1 11) 1) h ∧ gO s12 h = ri (h3 (σ.1 11) 2) h := fun i hi => by
        unfold fR uP gO ri h3
        rw [d4 _ (by omega), d4 _ (by omega), d4 _ (by omega), r14 _ (by omega), r14 _ (by omega), r14 _ (by omega)]
        exact ⟨rfl, rfl, rfl⟩
      have nb : nB s12 = cbP (mk (nC s12) (s12.1 20)) (CUTC (nC s12) (nH s12) (sG s12) (nM s12) (fR s12) (uP s12) (gO s12) (mk (nC s12) (s12.1 20))) (nC s12) := w2.2.2.1.1
      rw [hn, hh, hd, cbP_cg (fun i _ => rfl) (fun i _ => CUTC.cp ea eb)] at nb
      refine ok_ret ⟨fun q => absurd L q, fun _ q hq2 => ?_⟩
      rw [← u5 L] at hq2
      subst hq2
      refine ⟨fun q => absurd (show v10.toInt = 0 by omega) q, fun _ => ⟨?_, s13, s12, w6, w7, SAQ.rf⟩⟩
      show v12.toInt = _
      rw [w3, nb]
    · rw [fa_le, k_0] at c4
      have same : SAQ σ s10 := SAQ.of f10 rfl
      refine ok_ret ⟨fun q => ⟨u6 q, same⟩, fun L q hq2 => ?_⟩
      rw [← u5 L] at hq2
      subst hq2
      exact ⟨fun _ => ⟨rfl, same⟩, fun q => absurd q (by omega)⟩
theorem Q_put {σ s : Sto} (q4 : JT4 σ s) (a b c : Int32) : ∃ v σ2 s2, f_X11_put a b c σ = some (v, σ2) ∧ f_X12_put a b c s = some (v, s2) ∧ JT4 σ2 s2 := by
  have h := q4.1
  obtain ⟨v, σ2, s2, z1, z2, z3⟩ := K_put h a b c
  have refused : f_X11_put a b c σ = some ((-1), σ) → f_X12_put a b c s = some ((-1), sti s 0 0 0) → ∃ v σ2 s2, f_X11_put a b c σ = some (v, σ2) ∧ f_X12_put a b c s = some (v, s2) ∧ JT4 σ2 s2 := fun e1 e2 => by
    have p := Option.some.inj (z1.symm.trans e1)
    have q := Option.some.inj (z2.symm.trans e2)
    injection p with p1 p2
    injection q with q1 q2
    subst p2; subst q2
    refine ⟨-1, σ2, sti s 0 0 0, e1, e2, q4.go z3 SAX.rf ⟨fun k hk => sti_o (fun e => ?_), fun _ _ => rfl⟩⟩
    subst e
    exact absurd hk (by decide)
  rcases h.2 with ⟨a1, a2⟩ | ⟨a1, a2, a3, a4, a5, a6, a7, a8⟩
  · exact refused (no_putX (Or.inl a1)) (no_putM h.1.2.1.1 (Or.inl a2))
  by_cases r : 0 ≤ a.toInt ∧ a.toInt < (σ.1 4 0).toInt ∧ INS b.toInt c.toInt
  · obtain ⟨r1, r2, r3⟩ := r
    obtain ⟨⟨v', σ'⟩, x1, X⟩ := u_putX h.1.1 a1 r1 r2 r3
    obtain ⟨⟨w', s'⟩, y1, Y⟩ := u_putM h.1.2.1 a2 r1 (by omega) r3
    have p := Option.some.inj (x1.symm.trans z1)
    have q := Option.some.inj (y1.symm.trans z2)
    injection p with p1 p2
    injection q with q1 q2
    subst p2; subst q2
    (try dsimp only at X Y)
    rw [a3, a4] at X
    have ca : ∀ i, i < (s.1 15 0).toInt.toNat → ri (ptI (s.1 9) a b) i = ri (ptI (σ.1 6) a b) i ∧ ri (ptI (s.1 10) a c) i = ri (ptI (σ.1 7) a c) i := fun i hi => by
      have t := a5 i hi
      unfold ri
      rw [ptI_cg (a := a) (v := b) t.1, ptI_cg (a := a) (v := c) t.2]
      exact ⟨rfl, rfl⟩
    have cb_ : ∀ h, h < (s.1 16 0).toInt.toNat → ri (h3 (s.1 11) 0) h = ri (σ.1 9) h ∧ ri (h3 (s.1 11) 1) h = ri (σ.1 10) h ∧ ri (h3 (s.1 11) 2) h = ri (σ.1 11) h := fun i hi => by
      have t := a6 i hi
      unfold ri
      rw [t.1, t.2.1, t.2.2]
      exact ⟨rfl, rfl, rfl⟩
    have ca2 : ∀ i, i < (s.1 15 0).toInt.toNat → ri (ptI (σ.1 6) a b) i = ri (ptI (s.1 9) a b) i ∧ ri (ptI (σ.1 7) a c) i = ri (ptI (s.1 10) a c) i := fun i hi => ⟨(ca i hi).1.symm, (ca i hi).2.symm⟩
    have cb2 : ∀ h, h < (s.1 16 0).toInt.toNat → ri (σ.1 9) h = ri (h3 (s.1 11) 0) h ∧ ri (σ.1 10) h = ri (h3 (s.1 11) 1) h ∧ ri (σ.1 11) h = ri (h3 (s.1 11) 2) h := fun i hi => ⟨(cb_ i hi).1.symm, (cb_ i hi).2.1.symm, (cb_ i hi).2.2.symm⟩
    have fin : ∀ v9 : Int, v'.toInt = v9 → w'.toInt = v9 → (SAX σ σ' ∧ SAQ s s' ∨ AD4 σ' ∧ LY4 s') → ∃ v σ2 s2, f_X11_put a b c σ = some (v, σ2) ∧ f_X12_put a b c s = some (v, s2) ∧ JT4 σ2 s2 := fun v9 e1 e2 g => by
      have e : v' = w' := Int32.toInt_inj.mp (e1.trans e2.symm)
      subst e
      refine ⟨v', σ', s', x1, y1, ?_⟩
      rcases g with ⟨g1, g2⟩ | g
      · exact q4.go z3 g1 g2
      · exact ⟨z3, Or.inr g⟩
    by_cases L : LDP (s.1 15 0).toInt.toNat (s.1 16 0).toInt.toNat (ri (ptI (s.1 9) a b)) (ri (ptI (s.1 10) a c)) (ri (h3 (s.1 11) 0)) (ri (h3 (s.1 11) 1)) (ri (h3 (s.1 11) 2))
    · have X2 := X.2 (LDP.cp ca2 cb2 L) _ (JUP_cp ca cb_)
      have Y2 := Y.2 L _ rfl
      by_cases q0 : (JUP (s.1 15 0).toInt.toNat (s.1 16 0).toInt.toNat (ri (ptI (s.1 9) a b)) (ri (ptI (s.1 10) a c)) (ri (h3 (s.1 11) 0)) (ri (h3 (s.1 11) 1)) (ri (h3 (s.1 11) 2))).1 = 0
      · obtain ⟨X3, X4⟩ := X2.2 q0
        obtain ⟨Y3, Y4⟩ := Y2.2 q0
        rw [cbP_cg (fun i _ => rfl) (fun i _ => CUTC.cp ca2 cb2)] at X3
        exact fin _ X3 Y3 (Or.inr ⟨X4, Y4⟩)
      · obtain ⟨X3, X4⟩ := X2.1 q0
        obtain ⟨Y3, Y4⟩ := Y2.1 q0
        exact fin _ X3 Y3 (Or.inl ⟨X4, Y4⟩)
    · obtain ⟨X3, X4⟩ := X.1 (fun z => L (LDP.cp ca cb_ z))
      obtain ⟨Y3, Y4⟩ := Y.1 L
      exact fin _ X3 Y3 (Or.inl ⟨X4, Y4⟩)
  · have n : (σ.1 0 0).toInt = 0 ∨ a.toInt < 0 ∨ (σ.1 4 0).toInt ≤ a.toInt ∨ ¬ INS b.toInt c.toInt := by
      by_cases q1 : a.toInt < 0
      · exact Or.inr (Or.inl q1)
      by_cases q2 : (σ.1 4 0).toInt ≤ a.toInt
      · exact Or.inr (Or.inr (Or.inl q2))
      exact Or.inr (Or.inr (Or.inr (fun q3 => r ⟨by omega, by omega, q3⟩)))
    exact refused (no_putX n) (no_putM h.1.2.1.1 (by rw [a3] at n; exact n.imp (fun z => absurd z a1) id))
