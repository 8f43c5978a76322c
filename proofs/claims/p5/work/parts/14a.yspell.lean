/-- so many signs more at most are written -/
def WRT (n : Int) (s t : Sto) : Prop := BM t ∧ FR [65, 66] [] s t ∧ (t.1 66 0).toInt ≤ (s.1 66 0).toInt + n
theorem WRT.tr {m n k : Int} {s t u : Sto} (h : WRT m s t) (g : WRT n t u) (hk : m + n ≤ k) : WRT k s u := by
  refine ⟨g.1, FR.cal h.2.1 g.2.1 rfl rfl, ?_⟩
  have a := h.2.2
  have b := g.2.2
  omega
theorem WRT.up {m n : Int} {s t : Sto} (h : WRT m s t) (g : m ≤ n) : WRT n s t := by
  refine ⟨h.1, h.2.1, ?_⟩
  have a := h.2.2
  omega
theorem WRT.rf {s : Sto} (h : BM s) : WRT 0 s s := ⟨h, FR.rf, by omega⟩
theorem s_writes {s : Sto} {x : Int32} (hx : 0 ≤ x.toInt ∧ x.toInt ≤ 400) (hB : BM s) (h : (s.1 66 0).toInt + 1 ≤ 2000) : OK (f_X12_writes x s) (WRT 1 s) := by
  have g := gM_66 hB 0
  have ex : ((s.1 66 0) + 1).toInt = (s.1 66 0).toInt + 1 := i1 (by omega)
  unfold f_X12_writes
  refine ok_ix (by omega) ?_
  refine ok_lt fun s1 e1 => ?_
  have b1 : BM s1 := by rw [e1]; exact pM_65 hB hx
  have f1 : FR [65, 66] [] s s1 := by rw [e1]; exact FR.st FR.rf (by decide)
  have q1 : s1.1 66 = s.1 66 := by rw [e1, sti_o (by decide)]
  refine ok_lt fun s2 e2 => ?_
  rw [q1] at e2
  refine ok_ret ⟨by rw [e2]; exact pM_66 b1 (by omega), by rw [e2]; exact FR.st f1 (by decide), ?_⟩
  rw [e2, sti_if, if_pos rfl]; omega
theorem sd_writesNumber : ∀ (n d : Nat) (x : Int32) (s : Sto), n ≤ d → 1 ≤ n → 0 ≤ x.toInt → x.toInt < 10 ^ n → BM s → (s.1 66 0).toInt + n ≤ 2000 → OK (f_X12_writesNumber d x s) (WRT n s)
  | 0, _, _, _, _, h, _, _, _, _ => absurd h (by omega)
  | n + 1, 0, _, _, h, _, _, _, _, _ => absurd h (by omega)
  | n + 1, d + 1, x, s, h1, h2, x0, hx, hB, hn => by
    have k_9 : (9 : Int32).toInt = 9 := by decide +kernel
    have n10 : nI 10 = (10 : Int32) := by decide +kernel
    have k_48 : (48 : Int32).toInt = 48 := by decide +kernel
    have rm := rem_I (x := x) (n := 10) x0 (by decide) (by decide)
    rw [n10] at rm
    have r48 : ((48 : Int32) + (x - x / 10 * 10)).toInt = 48 + (x - x / 10 * 10).toInt := by rw [fb_addI (by rw [rm, k_48]; omega) (by rw [rm, k_48]; omega), k_48]
    show OK (b_X12_writesNumber (f_X12_writesNumber d) x s) _
    unfold b_X12_writesNumber
    refine ok_jnI1 (fun t => WRT n s t) (fun t ht => ?_) (fun k hk => ?_)
    · have a := ht.2.2
      refine ok_cals (s_writes (by rw [r48, rm]; omega) ht.1 (by omega)) (fun s2 q => ?_)
      exact ok_ret (ht.tr q (by omega))
    · refine ok_ite (fun _ => hk s ((WRT.rf hB).up (by omega))) (fun c => ?_)
      rw [fa_le, k_9] at c
      have dv := div_I (x := x) (n := 10) (by omega) (by decide) (by decide)
      rw [n10] at dv
      have n1 : 1 ≤ n := by
        rcases Nat.eq_zero_or_pos n with z | z
        · subst z
          simp at hx
          omega
        · exact z
      have pw : (10 : Int) ^ (n + 1) = 10 ^ n * 10 := Int.pow_succ 10 n
      rw [pw] at hx
      refine ok_cals (sd_writesNumber n d (x / 10) s (by omega) n1 (by rw [dv]; omega) (by rw [dv]; omega) hB (by omega)) (fun s4 q => ?_)
      exact hk s4 q
theorem s_writesName {s : Sto} {x v : Int32} (hx : 0 ≤ x.toInt ∧ x.toInt ≤ 400) (hB : BM s) (hv : 0 ≤ v.toInt ∧ v.toInt ≤ 999) (h : (s.1 66 0).toInt + 4 ≤ 2000) : OK (f_X12_writesName x v s) (WRT 4 s) := by
  unfold f_X12_writesName
  refine ok_cals (s_writes hx hB (by omega)) (fun s1 q => ?_)
  have a := q.2.2
  refine ok_cals (sd_writesNumber 3 250 v s1 (by decide) (by decide) hv.1 (by omega) q.1 (by omega)) (fun s2 r => ?_)
  exact ok_ret (q.tr r (by omega))
theorem s_word_110 {σ : Sto} (hB : BM σ) (h : (σ.1 66 0).toInt + 4 ≤ 2000) : OK (f_X12_writesWord_s110 σ) (WRT 2 σ) := by
  have k_0 : (0 : Int32).toInt = 0 := by decide +kernel
  have k_n : (2 : Int32).toInt = 2 := by decide +kernel
  unfold f_X12_writesWord_s110
  refine ok_itr2 (fun n x s => n = (3 - x.toInt).toNat ∧ 0 ≤ x.toInt ∧ x.toInt ≤ 2 ∧ WRT x.toInt σ s) ?_ (n := (3 - (0 : Int32).toInt).toNat) ⟨rfl, by omega, by omega, by rw [k_0]; exact WRT.rf hB⟩ (by rw [k_0]; decide)
  intro ag n x s I ih
  obtain ⟨hn, x0, x4, w⟩ := I
  have a := w.2.2
  refine ok_ite (fun _ => ok_ret (w.up (by omega))) (fun c => ?_)
  rw [fa_le, k_n] at c
  refine ok_ix (by omega) ?_
  refine ok_lt fun v3 e3 => ?_
  have c3 := ch_rng 110 x
  rw [← e3] at c3
  refine ok_cals (s_writes (by omega) w.1 (by omega)) (fun s4 q => ?_)
  refine ok_lt fun x5 e5 => ?_
  have ex : x5.toInt = x.toInt + 1 := by rw [e5]; exact i1 (by omega)
  exact ih (3 - x5.toInt).toNat x5 s4 (by omega) ⟨rfl, by omega, by omega, w.tr q (by omega)⟩
theorem s_word_111 {σ : Sto} (hB : BM σ) (h : (σ.1 66 0).toInt + 9 ≤ 2000) : OK (f_X12_writesWord_s111 σ) (WRT 9 σ) := by
  have k_0 : (0 : Int32).toInt = 0 := by decide +kernel
  have k_n : (4 : Int32).toInt = 4 := by decide +kernel
  unfold f_X12_writesWord_s111
  refine ok_itr2 (fun n x s => n = (5 - x.toInt).toNat ∧ 0 ≤ x.toInt ∧ x.toInt ≤ 4 ∧ WRT x.toInt σ s) ?_ (n := (5 - (0 : Int32).toInt).toNat) ⟨rfl, by omega, by omega, by rw [k_0]; exact WRT.rf hB⟩ (by rw [k_0]; decide)
  intro ag n x s I ih
  obtain ⟨hn, x0, x4, w⟩ := I
  have a := w.2.2
  refine ok_ite (fun _ => ok_ret (w.up (by omega))) (fun c => ?_)
  rw [fa_le, k_n] at c
  refine ok_ix (by omega) ?_
  refine ok_lt fun v3 e3 => ?_
  have c3 := ch_rng 111 x
  rw [← e3] at c3
  refine ok_cals (s_writes (by omega) w.1 (by omega)) (fun s4 q => ?_)
  refine ok_lt fun x5 e5 => ?_
  have ex : x5.toInt = x.toInt + 1 := by rw [e5]; exact i1 (by omega)
  exact ih (5 - x5.toInt).toNat x5 s4 (by omega) ⟨rfl, by omega, by omega, w.tr q (by omega)⟩
theorem s_word_112 {σ : Sto} (hB : BM σ) (h : (σ.1 66 0).toInt + 9 ≤ 2000) : OK (f_X12_writesWord_s112 σ) (WRT 9 σ) := by
  have k_0 : (0 : Int32).toInt = 0 := by decide +kernel
  have k_n : (6 : Int32).toInt = 6 := by decide +kernel
  unfold f_X12_writesWord_s112
  refine ok_itr2 (fun n x s => n = (7 - x.toInt).toNat ∧ 0 ≤ x.toInt ∧ x.toInt ≤ 6 ∧ WRT x.toInt σ s) ?_ (n := (7 - (0 : Int32).toInt).toNat) ⟨rfl, by omega, by omega, by rw [k_0]; exact WRT.rf hB⟩ (by rw [k_0]; decide)
  intro ag n x s I ih
  obtain ⟨hn, x0, x4, w⟩ := I
  have a := w.2.2
  refine ok_ite (fun _ => ok_ret (w.up (by omega))) (fun c => ?_)
  rw [fa_le, k_n] at c
  refine ok_ix (by omega) ?_
  refine ok_lt fun v3 e3 => ?_
  have c3 := ch_rng 112 x
  rw [← e3] at c3
  refine ok_cals (s_writes (by omega) w.1 (by omega)) (fun s4 q => ?_)
  refine ok_lt fun x5 e5 => ?_
  have ex : x5.toInt = x.toInt + 1 := by rw [e5]; exact i1 (by omega)
  exact ih (7 - x5.toInt).toNat x5 s4 (by omega) ⟨rfl, by omega, by omega, w.tr q (by omega)⟩
theorem s_word_113 {σ : Sto} (hB : BM σ) (h : (σ.1 66 0).toInt + 9 ≤ 2000) : OK (f_X12_writesWord_s113 σ) (WRT 9 σ) := by
  have k_0 : (0 : Int32).toInt = 0 := by decide +kernel
  have k_n : (6 : Int32).toInt = 6 := by decide +kernel
  unfold f_X12_writesWord_s113
  refine ok_itr2 (fun n x s => n = (7 - x.toInt).toNat ∧ 0 ≤ x.toInt ∧ x.toInt ≤ 6 ∧ WRT x.toInt σ s) ?_ (n := (7 - (0 : Int32).toInt).toNat) ⟨rfl, by omega, by omega, by rw [k_0]; exact WRT.rf hB⟩ (by rw [k_0]; decide)
  intro ag n x s I ih
  obtain ⟨hn, x0, x4, w⟩ := I
  have a := w.2.2
  refine ok_ite (fun _ => ok_ret (w.up (by omega))) (fun c => ?_)
  rw [fa_le, k_n] at c
  refine ok_ix (by omega) ?_
  refine ok_lt fun v3 e3 => ?_
  have c3 := ch_rng 113 x
  rw [← e3] at c3
  refine ok_cals (s_writes (by omega) w.1 (by omega)) (fun s4 q => ?_)
  refine ok_lt fun x5 e5 => ?_
  have ex : x5.toInt = x.toInt + 1 := by rw [e5]; exact i1 (by omega)
  exact ih (7 - x5.toInt).toNat x5 s4 (by omega) ⟨rfl, by omega, by omega, w.tr q (by omega)⟩
theorem s_word_114 {σ : Sto} (hB : BM σ) (h : (σ.1 66 0).toInt + 9 ≤ 2000) : OK (f_X12_writesWord_s114 σ) (WRT 9 σ) := by
  have k_0 : (0 : Int32).toInt = 0 := by decide +kernel
  have k_n : (5 : Int32).toInt = 5 := by decide +kernel
  unfold f_X12_writesWord_s114
  refine ok_itr2 (fun n x s => n = (6 - x.toInt).toNat ∧ 0 ≤ x.toInt ∧ x.toInt ≤ 5 ∧ WRT x.toInt σ s) ?_ (n := (6 - (0 : Int32).toInt).toNat) ⟨rfl, by omega, by omega, by rw [k_0]; exact WRT.rf hB⟩ (by rw [k_0]; decide)
  intro ag n x s I ih
  obtain ⟨hn, x0, x4, w⟩ := I
  have a := w.2.2
  refine ok_ite (fun _ => ok_ret (w.up (by omega))) (fun c => ?_)
  rw [fa_le, k_n] at c
  refine ok_ix (by omega) ?_
  refine ok_lt fun v3 e3 => ?_
  have c3 := ch_rng 114 x
  rw [← e3] at c3
  refine ok_cals (s_writes (by omega) w.1 (by omega)) (fun s4 q => ?_)
  refine ok_lt fun x5 e5 => ?_
  have ex : x5.toInt = x.toInt + 1 := by rw [e5]; exact i1 (by omega)
  exact ih (6 - x5.toInt).toNat x5 s4 (by omega) ⟨rfl, by omega, by omega, w.tr q (by omega)⟩
theorem s_word_115 {σ : Sto} (hB : BM σ) (h : (σ.1 66 0).toInt + 9 ≤ 2000) : OK (f_X12_writesWord_s115 σ) (WRT 9 σ) := by
  have k_0 : (0 : Int32).toInt = 0 := by decide +kernel
  have k_n : (6 : Int32).toInt = 6 := by decide +kernel
  unfold f_X12_writesWord_s115
  refine ok_itr2 (fun n x s => n = (7 - x.toInt).toNat ∧ 0 ≤ x.toInt ∧ x.toInt ≤ 6 ∧ WRT x.toInt σ s) ?_ (n := (7 - (0 : Int32).toInt).toNat) ⟨rfl, by omega, by omega, by rw [k_0]; exact WRT.rf hB⟩ (by rw [k_0]; decide)
  intro ag n x s I ih
  obtain ⟨hn, x0, x4, w⟩ := I
  have a := w.2.2
  refine ok_ite (fun _ => ok_ret (w.up (by omega))) (fun c => ?_)
  rw [fa_le, k_n] at c
  refine ok_ix (by omega) ?_
  refine ok_lt fun v3 e3 => ?_
  have c3 := ch_rng 115 x
  rw [← e3] at c3
  refine ok_cals (s_writes (by omega) w.1 (by omega)) (fun s4 q => ?_)
  refine ok_lt fun x5 e5 => ?_
  have ex : x5.toInt = x.toInt + 1 := by rw [e5]; exact i1 (by omega)
  exact ih (7 - x5.toInt).toNat x5 s4 (by omega) ⟨rfl, by omega, by omega, w.tr q (by omega)⟩
theorem s_word_116 {σ : Sto} (hB : BM σ) (h : (σ.1 66 0).toInt + 9 ≤ 2000) : OK (f_X12_writesWord_s116 σ) (WRT 9 σ) := by
  have k_0 : (0 : Int32).toInt = 0 := by decide +kernel
  have k_n : (3 : Int32).toInt = 3 := by decide +kernel
  unfold f_X12_writesWord_s116
  refine ok_itr2 (fun n x s => n = (4 - x.toInt).toNat ∧ 0 ≤ x.toInt ∧ x.toInt ≤ 3 ∧ WRT x.toInt σ s) ?_ (n := (4 - (0 : Int32).toInt).toNat) ⟨rfl, by omega, by omega, by rw [k_0]; exact WRT.rf hB⟩ (by rw [k_0]; decide)
  intro ag n x s I ih
  obtain ⟨hn, x0, x4, w⟩ := I
  have a := w.2.2
  refine ok_ite (fun _ => ok_ret (w.up (by omega))) (fun c => ?_)
  rw [fa_le, k_n] at c
  refine ok_ix (by omega) ?_
  refine ok_lt fun v3 e3 => ?_
  have c3 := ch_rng 116 x
  rw [← e3] at c3
  refine ok_cals (s_writes (by omega) w.1 (by omega)) (fun s4 q => ?_)
  refine ok_lt fun x5 e5 => ?_
  have ex : x5.toInt = x.toInt + 1 := by rw [e5]; exact i1 (by omega)
  exact ih (4 - x5.toInt).toNat x5 s4 (by omega) ⟨rfl, by omega, by omega, w.tr q (by omega)⟩
theorem s_word_117 {σ : Sto} (hB : BM σ) (h : (σ.1 66 0).toInt + 9 ≤ 2000) : OK (f_X12_writesWord_s117 σ) (WRT 9 σ) := by
  have k_0 : (0 : Int32).toInt = 0 := by decide +kernel
  have k_n : (5 : Int32).toInt = 5 := by decide +kernel
  unfold f_X12_writesWord_s117
  refine ok_itr2 (fun n x s => n = (6 - x.toInt).toNat ∧ 0 ≤ x.toInt ∧ x.toInt ≤ 5 ∧ WRT x.toInt σ s) ?_ (n := (6 - (0 : Int32).toInt).toNat) ⟨rfl, by omega, by omega, by rw [k_0]; exact WRT.rf hB⟩ (by rw [k_0]; decide)
  intro ag n x s I ih
  obtain ⟨hn, x0, x4, w⟩ := I
  have a := w.2.2
  refine ok_ite (fun _ => ok_ret (w.up (by omega))) (fun c => ?_)
  rw [fa_le, k_n] at c
  refine ok_ix (by omega) ?_
  refine ok_lt fun v3 e3 => ?_
  have c3 := ch_rng 117 x
  rw [← e3] at c3
  refine ok_cals (s_writes (by omega) w.1 (by omega)) (fun s4 q => ?_)
  refine ok_lt fun x5 e5 => ?_
  have ex : x5.toInt = x.toInt + 1 := by rw [e5]; exact i1 (by omega)
  exact ih (6 - x5.toInt).toNat x5 s4 (by omega) ⟨rfl, by omega, by omega, w.tr q (by omega)⟩
theorem s_word_118 {σ : Sto} (hB : BM σ) (h : (σ.1 66 0).toInt + 9 ≤ 2000) : OK (f_X12_writesWord_s118 σ) (WRT 9 σ) := by
  have k_0 : (0 : Int32).toInt = 0 := by decide +kernel
  have k_n : (6 : Int32).toInt = 6 := by decide +kernel
  unfold f_X12_writesWord_s118
  refine ok_itr2 (fun n x s => n = (7 - x.toInt).toNat ∧ 0 ≤ x.toInt ∧ x.toInt ≤ 6 ∧ WRT x.toInt σ s) ?_ (n := (7 - (0 : Int32).toInt).toNat) ⟨rfl, by omega, by omega, by rw [k_0]; exact WRT.rf hB⟩ (by rw [k_0]; decide)
  intro ag n x s I ih
  obtain ⟨hn, x0, x4, w⟩ := I
  have a := w.2.2
  refine ok_ite (fun _ => ok_ret (w.up (by omega))) (fun c => ?_)
  rw [fa_le, k_n] at c
  refine ok_ix (by omega) ?_
  refine ok_lt fun v3 e3 => ?_
  have c3 := ch_rng 118 x
  rw [← e3] at c3
  refine ok_cals (s_writes (by omega) w.1 (by omega)) (fun s4 q => ?_)
  refine ok_lt fun x5 e5 => ?_
  have ex : x5.toInt = x.toInt + 1 := by rw [e5]; exact i1 (by omega)
  exact ih (7 - x5.toInt).toNat x5 s4 (by omega) ⟨rfl, by omega, by omega, w.tr q (by omega)⟩
theorem s_word_119 {σ : Sto} (hB : BM σ) (h : (σ.1 66 0).toInt + 9 ≤ 2000) : OK (f_X12_writesWord_s119 σ) (WRT 9 σ) := by
  have k_0 : (0 : Int32).toInt = 0 := by decide +kernel
  have k_n : (9 : Int32).toInt = 9 := by decide +kernel
  unfold f_X12_writesWord_s119
  refine ok_itr2 (fun n x s => n = (10 - x.toInt).toNat ∧ 0 ≤ x.toInt ∧ x.toInt ≤ 9 ∧ WRT x.toInt σ s) ?_ (n := (10 - (0 : Int32).toInt).toNat) ⟨rfl, by omega, by omega, by rw [k_0]; exact WRT.rf hB⟩ (by rw [k_0]; decide)
  intro ag n x s I ih
  obtain ⟨hn, x0, x4, w⟩ := I
  have a := w.2.2
  refine ok_ite (fun _ => ok_ret (w.up (by omega))) (fun c => ?_)
  rw [fa_le, k_n] at c
  refine ok_ix (by omega) ?_
  refine ok_lt fun v3 e3 => ?_
  have c3 := ch_rng 119 x
  rw [← e3] at c3
  refine ok_cals (s_writes (by omega) w.1 (by omega)) (fun s4 q => ?_)
  refine ok_lt fun x5 e5 => ?_
  have ex : x5.toInt = x.toInt + 1 := by rw [e5]; exact i1 (by omega)
  exact ih (10 - x5.toInt).toNat x5 s4 (by omega) ⟨rfl, by omega, by omega, w.tr q (by omega)⟩
theorem s_word_120 {σ : Sto} (hB : BM σ) (h : (σ.1 66 0).toInt + 9 ≤ 2000) : OK (f_X12_writesWord_s120 σ) (WRT 9 σ) := by
  have k_0 : (0 : Int32).toInt = 0 := by decide +kernel
  have k_n : (5 : Int32).toInt = 5 := by decide +kernel
  unfold f_X12_writesWord_s120
  refine ok_itr2 (fun n x s => n = (6 - x.toInt).toNat ∧ 0 ≤ x.toInt ∧ x.toInt ≤ 5 ∧ WRT x.toInt σ s) ?_ (n := (6 - (0 : Int32).toInt).toNat) ⟨rfl, by omega, by omega, by rw [k_0]; exact WRT.rf hB⟩ (by rw [k_0]; decide)
  intro ag n x s I ih
  obtain ⟨hn, x0, x4, w⟩ := I
  have a := w.2.2
  refine ok_ite (fun _ => ok_ret (w.up (by omega))) (fun c => ?_)
  rw [fa_le, k_n] at c
  refine ok_ix (by omega) ?_
  refine ok_lt fun v3 e3 => ?_
  have c3 := ch_rng 120 x
  rw [← e3] at c3
  refine ok_cals (s_writes (by omega) w.1 (by omega)) (fun s4 q => ?_)
  refine ok_lt fun x5 e5 => ?_
  have ex : x5.toInt = x.toInt + 1 := by rw [e5]; exact i1 (by omega)
  exact ih (6 - x5.toInt).toNat x5 s4 (by omega) ⟨rfl, by omega, by omega, w.tr q (by omega)⟩
theorem s_word_121 {σ : Sto} (hB : BM σ) (h : (σ.1 66 0).toInt + 9 ≤ 2000) : OK (f_X12_writesWord_s121 σ) (WRT 9 σ) := by
  have k_0 : (0 : Int32).toInt = 0 := by decide +kernel
  have k_n : (4 : Int32).toInt = 4 := by decide +kernel
  unfold f_X12_writesWord_s121
  refine ok_itr2 (fun n x s => n = (5 - x.toInt).toNat ∧ 0 ≤ x.toInt ∧ x.toInt ≤ 4 ∧ WRT x.toInt σ s) ?_ (n := (5 - (0 : Int32).toInt).toNat) ⟨rfl, by omega, by omega, by rw [k_0]; exact WRT.rf hB⟩ (by rw [k_0]; decide)
  intro ag n x s I ih
  obtain ⟨hn, x0, x4, w⟩ := I
  have a := w.2.2
  refine ok_ite (fun _ => ok_ret (w.up (by omega))) (fun c => ?_)
  rw [fa_le, k_n] at c
  refine ok_ix (by omega) ?_
  refine ok_lt fun v3 e3 => ?_
  have c3 := ch_rng 121 x
  rw [← e3] at c3
  refine ok_cals (s_writes (by omega) w.1 (by omega)) (fun s4 q => ?_)
  refine ok_lt fun x5 e5 => ?_
  have ex : x5.toInt = x.toInt + 1 := by rw [e5]; exact i1 (by omega)
  exact ih (5 - x5.toInt).toNat x5 s4 (by omega) ⟨rfl, by omega, by omega, w.tr q (by omega)⟩
theorem s_word_122 {σ : Sto} (hB : BM σ) (h : (σ.1 66 0).toInt + 9 ≤ 2000) : OK (f_X12_writesWord_s122 σ) (WRT 9 σ) := by
  have k_0 : (0 : Int32).toInt = 0 := by decide +kernel
  have k_n : (7 : Int32).toInt = 7 := by decide +kernel
  unfold f_X12_writesWord_s122
  refine ok_itr2 (fun n x s => n = (8 - x.toInt).toNat ∧ 0 ≤ x.toInt ∧ x.toInt ≤ 7 ∧ WRT x.toInt σ s) ?_ (n := (8 - (0 : Int32).toInt).toNat) ⟨rfl, by omega, by omega, by rw [k_0]; exact WRT.rf hB⟩ (by rw [k_0]; decide)
  intro ag n x s I ih
  obtain ⟨hn, x0, x4, w⟩ := I
  have a := w.2.2
  refine ok_ite (fun _ => ok_ret (w.up (by omega))) (fun c => ?_)
  rw [fa_le, k_n] at c
  refine ok_ix (by omega) ?_
  refine ok_lt fun v3 e3 => ?_
  have c3 := ch_rng 122 x
  rw [← e3] at c3
  refine ok_cals (s_writes (by omega) w.1 (by omega)) (fun s4 q => ?_)
  refine ok_lt fun x5 e5 => ?_
  have ex : x5.toInt = x.toInt + 1 := by rw [e5]; exact i1 (by omega)
  exact ih (8 - x5.toInt).toNat x5 s4 (by omega) ⟨rfl, by omega, by omega, w.tr q (by omega)⟩
theorem s_word_123 {σ : Sto} (hB : BM σ) (h : (σ.1 66 0).toInt + 9 ≤ 2000) : OK (f_X12_writesWord_s123 σ) (WRT 9 σ) := by
  have k_0 : (0 : Int32).toInt = 0 := by decide +kernel
  unfold f_X12_writesWord_s123
  refine ok_itr2 (fun n x s => n = 0 ∧ 0 ≤ x.toInt ∧ s = σ) ?_ (n := 0) ⟨rfl, by omega, rfl⟩ (by decide)
  intro ag n x s I ih
  obtain ⟨hn, x0, es⟩ := I
  refine ok_ite (fun _ => ok_ret (by rw [es]; exact (WRT.rf hB).up (by omega))) (fun c => ?_)
  rw [fa_le, k_0] at c
  omega
theorem s_sblk_114 {σ : Sto} {x y : Int32} (hB : BM σ) (hx : 0 ≤ x.toInt ∧ x.toInt ≤ 999) (hy : 0 ≤ y.toInt ∧ y.toInt ≤ 400) (h : (σ.1 66 0).toInt + 14 ≤ 2000) : OK (f_X12_spellsBlock_s114 x y σ) (WRT 14 σ) := by
  unfold f_X12_spellsBlock_s114
  refine ok_cals (s_word_114 hB (by omega)) (fun s1 q => ?_)
  have a := q.2.2
  refine ok_cals (s_writesName (by decide +kernel) q.1 hx (by omega)) (fun s2 r => ?_)
  have b := r.2.2
  refine ok_cals (s_writes hy r.1 (by omega)) (fun s3 w => ?_)
  exact ok_ret ((q.tr r (k := 13) (by omega)).tr w (by omega))
theorem s_sblk_115 {σ : Sto} {x y : Int32} (hB : BM σ) (hx : 0 ≤ x.toInt ∧ x.toInt ≤ 999) (hy : 0 ≤ y.toInt ∧ y.toInt ≤ 400) (h : (σ.1 66 0).toInt + 14 ≤ 2000) : OK (f_X12_spellsBlock_s115 x y σ) (WRT 14 σ) := by
  unfold f_X12_spellsBlock_s115
  refine ok_cals (s_word_115 hB (by omega)) (fun s1 q => ?_)
  have a := q.2.2
  refine ok_cals (s_writesName (by decide +kernel) q.1 hx (by omega)) (fun s2 r => ?_)
  have b := r.2.2
  refine ok_cals (s_writes hy r.1 (by omega)) (fun s3 w => ?_)
  exact ok_ret ((q.tr r (k := 13) (by omega)).tr w (by omega))
theorem s_sblk_118 {σ : Sto} {x y : Int32} (hB : BM σ) (hx : 0 ≤ x.toInt ∧ x.toInt ≤ 999) (hy : 0 ≤ y.toInt ∧ y.toInt ≤ 400) (h : (σ.1 66 0).toInt + 14 ≤ 2000) : OK (f_X12_spellsBlock_s118 x y σ) (WRT 14 σ) := by
  unfold f_X12_spellsBlock_s118
  refine ok_cals (s_word_118 hB (by omega)) (fun s1 q => ?_)
  have a := q.2.2
  refine ok_cals (s_writesName (by decide +kernel) q.1 hx (by omega)) (fun s2 r => ?_)
  have b := r.2.2
  refine ok_cals (s_writes hy r.1 (by omega)) (fun s3 w => ?_)
  exact ok_ret ((q.tr r (k := 13) (by omega)).tr w (by omega))
theorem s_sblk_119 {σ : Sto} {x y : Int32} (hB : BM σ) (hx : 0 ≤ x.toInt ∧ x.toInt ≤ 999) (hy : 0 ≤ y.toInt ∧ y.toInt ≤ 400) (h : (σ.1 66 0).toInt + 14 ≤ 2000) : OK (f_X12_spellsBlock_s119 x y σ) (WRT 14 σ) := by
  unfold f_X12_spellsBlock_s119
  refine ok_cals (s_word_119 hB (by omega)) (fun s1 q => ?_)
  have a := q.2.2
  refine ok_cals (s_writesName (by decide +kernel) q.1 hx (by omega)) (fun s2 r => ?_)
  have b := r.2.2
  refine ok_cals (s_writes hy r.1 (by omega)) (fun s3 w => ?_)
  exact ok_ret ((q.tr r (k := 13) (by omega)).tr w (by omega))
theorem s_sblk_120 {σ : Sto} {x y : Int32} (hB : BM σ) (hx : 0 ≤ x.toInt ∧ x.toInt ≤ 999) (hy : 0 ≤ y.toInt ∧ y.toInt ≤ 400) (h : (σ.1 66 0).toInt + 14 ≤ 2000) : OK (f_X12_spellsBlock_s120 x y σ) (WRT 14 σ) := by
  unfold f_X12_spellsBlock_s120
  refine ok_cals (s_word_120 hB (by omega)) (fun s1 q => ?_)
  have a := q.2.2
  refine ok_cals (s_writesName (by decide +kernel) q.1 hx (by omega)) (fun s2 r => ?_)
  have b := r.2.2
  refine ok_cals (s_writes hy r.1 (by omega)) (fun s3 w => ?_)
  exact ok_ret ((q.tr r (k := 13) (by omega)).tr w (by omega))
theorem s_sblk_122 {σ : Sto} {x y : Int32} (hB : BM σ) (hx : 0 ≤ x.toInt ∧ x.toInt ≤ 999) (hy : 0 ≤ y.toInt ∧ y.toInt ≤ 400) (h : (σ.1 66 0).toInt + 14 ≤ 2000) : OK (f_X12_spellsBlock_s122 x y σ) (WRT 14 σ) := by
  unfold f_X12_spellsBlock_s122
  refine ok_cals (s_word_122 hB (by omega)) (fun s1 q => ?_)
  have a := q.2.2
  refine ok_cals (s_writesName (by decide +kernel) q.1 hx (by omega)) (fun s2 r => ?_)
  have b := r.2.2
  refine ok_cals (s_writes hy r.1 (by omega)) (fun s3 w => ?_)
  exact ok_ret ((q.tr r (k := 13) (by omega)).tr w (by omega))
theorem s_sblk_123 {σ : Sto} {x y : Int32} (hB : BM σ) (hx : 0 ≤ x.toInt ∧ x.toInt ≤ 999) (hy : 0 ≤ y.toInt ∧ y.toInt ≤ 400) (h : (σ.1 66 0).toInt + 14 ≤ 2000) : OK (f_X12_spellsBlock_s123 x y σ) (WRT 14 σ) := by
  unfold f_X12_spellsBlock_s123
  refine ok_cals (s_word_123 hB (by omega)) (fun s1 q => ?_)
  have a := q.2.2
  refine ok_cals (s_writesName (by decide +kernel) q.1 hx (by omega)) (fun s2 r => ?_)
  have b := r.2.2
  refine ok_cals (s_writes hy r.1 (by omega)) (fun s3 w => ?_)
  exact ok_ret ((q.tr r (k := 13) (by omega)).tr w (by omega))
theorem sd_spells : ∀ (d z : Nat) (e : Int32) (s : Sto), BM s → 0 ≤ e.toInt → TZ (s.1 38) (s.1 39) (s.1 40) (s.1 41 0).toInt d z e.toNatClampNeg → (s.1 66 0).toInt + 4 * z ≤ 2000 → OK (f_X12_spells d e s) (WRT (4 * z) s) := by
  intro d
  induction d with
  | zero => intro z e s _ _ h; exact absurd h (fun z => z)
  | succ d ih =>
    intro z e s hB e0 h hn
    have g41 := gM_41 hB 0
    have hl := h.lt
    have ce := clamp_I e0
    have ei : 0 ≤ e.toInt ∧ e.toInt < 6000 := ⟨e0, by omega⟩
    obtain ⟨-, z1, h3⟩ := h
    have a1 := gM_39 hB e.toNatClampNeg
    have a2 := gM_40 hB e.toNatClampNeg
    have a3 := gM_38 hB e.toNatClampNeg
    show OK (b_X12_spells (f_X12_spells d) e s) _
    unfold b_X12_spells
    refine ok_ix ei ?_
    refine ok_lt fun v1 e1 => ?_
    subst e1
    refine ok_ite (fun c0 => ?_) (fun c0 => ?_)
    · refine ok_ix ei ?_
      refine ok_lt fun v3 e3 => ?_
      subst e3
      rcases h3 with ⟨-, h3⟩ | ⟨h3, -⟩ | ⟨h3, -⟩
      · have := h3.1 c0
        refine ok_cals (sd_writesNumber 3 250 _ s (by decide) (by decide) a1.1 (by omega) hB (by omega)) (fun s4 q => ok_ret (q.up (by omega)))
      · omega
      · omega
    refine ok_ite (fun c1 => ?_) (fun c1 => ?_)
    · refine ok_ix ei ?_
      refine ok_lt fun v3 e3 => ?_
      subst e3
      rcases h3 with ⟨-, h3⟩ | ⟨h3, -⟩ | ⟨h3, -⟩
      · have := h3.2.1 c1
        have k_97 : (97 : Int32).toInt = 97 := by decide +kernel
        have r97 : ((97 : Int32) + s.1 39 e.toNatClampNeg).toInt = 97 + (s.1 39 e.toNatClampNeg).toInt := by rw [fb_addI (by rw [k_97]; omega) (by rw [k_97]; omega), k_97]
        exact ok_cals (s_writes (by omega) hB (by omega)) (fun s4 q => ok_ret (q.up (by omega)))
      · omega
      · omega
    refine ok_ite (fun c2 => ?_) (fun c2 => ?_)
    · refine ok_ix ei ?_
      refine ok_lt fun v3 e3 => ?_
      subst e3
      rcases h3 with ⟨-, h3⟩ | ⟨h3, -⟩ | ⟨h3, -⟩
      · have := h3.2.2.1 c2
        exact ok_cals (s_writesName (by decide +kernel) hB (by omega) (by omega)) (fun s4 q => ok_ret (q.up (by omega)))
      · omega
      · omega
    refine ok_ite (fun c3 => ?_) (fun c3 => ?_)
    · refine ok_ix ei ?_
      refine ok_lt fun v3 e3 => ?_
      subst e3
      rcases h3 with ⟨-, h3⟩ | ⟨h3, -⟩ | ⟨h3, -⟩
      · have := h3.2.2.2 c3
        exact ok_cals (s_writesName (by decide +kernel) hB (by omega) (by omega)) (fun s4 q => ok_ret (q.up (by omega)))
      · omega
      · omega
    refine ok_ite (fun c4 => ?_) (fun c4 => ?_)
    · exact ok_cals (s_word_110 hB (by omega)) (fun s4 q => ok_ret (q.up (by omega)))
    have un : ((s.1 38 e.toNatClampNeg).toInt = 5 ∨ (s.1 38 e.toNatClampNeg).toInt = 6) → ∀ x : Int32, 0 ≤ x.toInt ∧ x.toInt ≤ 400 → OK (cals (f_X12_writes x s) fun s_12 => ix 6000 e <| lt (s_12.1 39 e.toNatClampNeg) fun v_13 => cals (f_X12_spells d v_13 s_12) fun s_14 => some s_14) (WRT (4 * z) s) := fun c x hx => by
      rcases h3 with ⟨h3, -⟩ | ⟨-, h4⟩ | ⟨h3, -⟩
      · omega
      · refine ok_cals (s_writes hx hB (by omega)) (fun s12 q => ?_)
        have b := q.2.2
        refine ok_ix ei ?_
        refine ok_lt fun v13 e13 => ?_
        rw [q.2.1.1 39 (by decide)] at e13
        subst e13
        refine ok_cals (ih (z - 1) _ s12 q.1 (by omega) (by rw [q.2.1.1 38 (by decide), q.2.1.1 39 (by decide), q.2.1.1 40 (by decide), q.2.1.1 41 (by decide)]; exact h4) (by omega)) (fun s14 r => ?_)
        exact ok_ret (q.tr r (by omega))
      · omega
    refine ok_ite (fun c5 => un (Or.inl c5) _ (by decide +kernel)) (fun c5 => ?_)
    refine ok_ite (fun c6 => un (Or.inr c6) _ (by decide +kernel)) (fun c6 => ?_)
    rcases h3 with ⟨h3, -⟩ | ⟨h3, -⟩ | ⟨h3, p, q, hz, h4, h5⟩
    · omega
    · omega
    · refine ok_cals (s_writes (by decide +kernel) hB (by omega)) (fun s18 q18 => ?_)
      have b18 := q18.2.2
      refine ok_ix ei ?_
      refine ok_lt fun v19 e19 => ?_
      rw [q18.2.1.1 39 (by decide)] at e19
      subst e19
      refine ok_cals (ih p _ s18 q18.1 (by omega) (by rw [q18.2.1.1 38 (by decide), q18.2.1.1 39 (by decide), q18.2.1.1 40 (by decide), q18.2.1.1 41 (by decide)]; exact h4) (by omega)) (fun s20 q20 => ?_)
      have b20 := q20.2.2
      have w20 := q18.tr q20 (k := 1 + 4 * p) (by omega)
      refine ok_ix ei ?_
      refine ok_lt fun v21 e21 => ?_
      have v21r := gM_38 q20.1 e.toNatClampNeg
      rw [← e21] at v21r
      refine ok_cals (s_writes (by omega) q20.1 (by omega)) (fun s22 q22 => ?_)
      have b22 := q22.2.2
      have w22 := w20.tr q22 (k := 2 + 4 * p) (by omega)
      refine ok_ix ei ?_
      refine ok_lt fun v23 e23 => ?_
      rw [w22.2.1.1 40 (by decide)] at e23
      subst e23
      refine ok_cals (ih q _ s22 q22.1 (by omega) (by rw [w22.2.1.1 38 (by decide), w22.2.1.1 39 (by decide), w22.2.1.1 40 (by decide), w22.2.1.1 41 (by decide)]; exact h5) (by omega)) (fun s24 q24 => ?_)
      have b24 := q24.2.2
      have w24 := w22.tr q24 (k := 2 + 4 * p + 4 * q) (by omega)
      refine ok_cals (s_writes (by decide +kernel) q24.1 (by omega)) (fun s25 q25 => ?_)
      exact ok_ret (w24.tr q25 (by omega))
theorem sd_within {σ : Sto} (hB : BM σ) : ∀ (d z : Nat) (e : Int32), 0 ≤ e.toInt → TZ (σ.1 38) (σ.1 39) (σ.1 40) (σ.1 41 0).toInt d z e.toNatClampNeg → OK (f_X12_within d e σ) (fun _ => True) := by
  intro d
  induction d with
  | zero => intro z e _ h; exact absurd h (fun z => z)
  | succ d ih =>
    intro z e e0 h
    have k_0 : (0 : Int32).toInt = 0 := by decide +kernel
    have g41 := gM_41 hB 0
    have hl := h.lt
    have ce := clamp_I e0
    have ei : 0 ≤ e.toInt ∧ e.toInt < 6000 := ⟨e0, by omega⟩
    obtain ⟨-, z1, h3⟩ := h
    have a1 := gM_39 hB e.toNatClampNeg
    have a2 := gM_40 hB e.toNatClampNeg
    show OK (b_X12_within (f_X12_within d) e σ) _
    unfold b_X12_within
    refine ok_calp (s_X12_isOne hB (by omega)) (fun v1 q1 => ?_)
    refine ok_ite (fun c1 => ?_) (fun c1 => ?_)
    · rw [fa_eq, k_0] at c1
      refine ok_calp (s_X12_isBoth hB (by omega)) (fun v3 q3 => ?_)
      refine ok_ite (fun c2 => ok_ret trivial) (fun c2 => ?_)
      rw [fa_eq, k_0] at c2
      have k6 := q3.2.mp (by omega)
      rcases h3 with ⟨h3, -⟩ | ⟨h3, -⟩ | ⟨h3, p, q, hz, h4, h5⟩
      · omega
      · omega
      · refine ok_ix ei ?_
        refine ok_lt fun v5 e5 => ?_
        subst e5
        refine ok_calp (ih p _ (by omega) h4) (fun v6 _ => ?_)
        refine ok_ix ei ?_
        refine ok_lt fun v7 e7 => ?_
        subst e7
        refine ok_calp (ih q _ (by omega) h5) (fun v8 _ => ok_ret trivial)
    · rw [fa_eq, k_0] at c1
      have k5 := q1.2.mp (by omega)
      rcases h3 with ⟨h3, -⟩ | ⟨-, h4⟩ | ⟨h3, -⟩
      · omega
      · refine ok_ix ei ?_
        refine ok_lt fun v9 e9 => ?_
        subst e9
        refine ok_calp (ih (z - 1) _ (by omega) h4) (fun v10 _ => ok_ret trivial)
      · omega
