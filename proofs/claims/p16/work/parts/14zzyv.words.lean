section
variable {σ : Sto} {L : List Int32}
theorem w_w0 (h : WRX σ L) (hl : L.length + 6 ≤ 400) : PC (f_X6_write_s0 σ) (fun s => FR [93, 94] [] σ s ∧ WRX s (L ++ wd 0 6)) := w_word (N := 6) (by decide +kernel) h hl
theorem w_w1 (h : WRX σ L) (hl : L.length + 1 ≤ 400) : PC (f_X6_write_s1 σ) (fun s => FR [93, 94] [] σ s ∧ WRX s (L ++ wd 1 1)) := w_word (N := 1) (by decide +kernel) h hl
theorem w_w2 (h : WRX σ L) (hl : L.length + 7 ≤ 400) : PC (f_X6_write_s2 σ) (fun s => FR [93, 94] [] σ s ∧ WRX s (L ++ wd 2 7)) := w_word (N := 7) (by decide +kernel) h hl
theorem w_w3 (h : WRX σ L) (hl : L.length + 3 ≤ 400) : PC (f_X6_write_s3 σ) (fun s => FR [93, 94] [] σ s ∧ WRX s (L ++ wd 3 3)) := w_word (N := 3) (by decide +kernel) h hl
theorem w_w4 (h : WRX σ L) (hl : L.length + 5 ≤ 400) : PC (f_X6_write_s4 σ) (fun s => FR [93, 94] [] σ s ∧ WRX s (L ++ wd 4 5)) := w_word (N := 5) (by decide +kernel) h hl
theorem w_w5 (h : WRX σ L) (hl : L.length + 1 ≤ 400) : PC (f_X6_write_s5 σ) (fun s => FR [93, 94] [] σ s ∧ WRX s (L ++ wd 5 1)) := w_word (N := 1) (by decide +kernel) h hl
theorem w_w6 (h : WRX σ L) (hl : L.length + 7 ≤ 400) : PC (f_X6_write_s6 σ) (fun s => FR [93, 94] [] σ s ∧ WRX s (L ++ wd 6 7)) := w_word (N := 7) (by decide +kernel) h hl
theorem w_w7 (h : WRX σ L) (hl : L.length + 1 ≤ 400) : PC (f_X6_write_s7 σ) (fun s => FR [93, 94] [] σ s ∧ WRX s (L ++ wd 7 1)) := w_word (N := 1) (by decide +kernel) h hl
theorem w_w8 (h : WRX σ L) (hl : L.length + 10 ≤ 400) : PC (f_X6_write_s8 σ) (fun s => FR [93, 94] [] σ s ∧ WRX s (L ++ wd 8 10)) := w_word (N := 10) (by decide +kernel) h hl
theorem w_w9 (h : WRX σ L) (hl : L.length + 6 ≤ 400) : PC (f_X6_write_s9 σ) (fun s => FR [93, 94] [] σ s ∧ WRX s (L ++ wd 9 6)) := w_word (N := 6) (by decide +kernel) h hl
theorem w_w10 (h : WRX σ L) (hl : L.length + 4 ≤ 400) : PC (f_X6_write_s10 σ) (fun s => FR [93, 94] [] σ s ∧ WRX s (L ++ wd 10 4)) := w_word (N := 4) (by decide +kernel) h hl
theorem w_w11 (h : WRX σ L) (hl : L.length + 8 ≤ 400) : PC (f_X6_write_s11 σ) (fun s => FR [93, 94] [] σ s ∧ WRX s (L ++ wd 11 8)) := w_word (N := 8) (by decide +kernel) h hl
theorem w_w12 (h : WRX σ L) (hl : L.length + 1 ≤ 400) : PC (f_X6_write_s12 σ) (fun s => FR [93, 94] [] σ s ∧ WRX s (L ++ wd 12 1)) := w_word (N := 1) (by decide +kernel) h hl
theorem w_w13 (h : WRX σ L) (hl : L.length + 1 ≤ 400) : PC (f_X6_write_s13 σ) (fun s => FR [93, 94] [] σ s ∧ WRX s (L ++ wd 13 1)) := w_word (N := 1) (by decide +kernel) h hl
theorem w_w14 (h : WRX σ L) (hl : L.length + 1 ≤ 400) : PC (f_X6_write_s14 σ) (fun s => FR [93, 94] [] σ s ∧ WRX s (L ++ wd 14 1)) := w_word (N := 1) (by decide +kernel) h hl
theorem w_w15 (h : WRX σ L) (hl : L.length + 4 ≤ 400) : PC (f_X6_write_s15 σ) (fun s => FR [93, 94] [] σ s ∧ WRX s (L ++ wd 15 4)) := w_word (N := 4) (by decide +kernel) h hl
theorem w_w16 (h : WRX σ L) (hl : L.length + 6 ≤ 400) : PC (f_X6_write_s16 σ) (fun s => FR [93, 94] [] σ s ∧ WRX s (L ++ wd 16 6)) := w_word (N := 6) (by decide +kernel) h hl
theorem w_w17 (h : WRX σ L) (hl : L.length + 6 ≤ 400) : PC (f_X6_write_s17 σ) (fun s => FR [93, 94] [] σ s ∧ WRX s (L ++ wd 17 6)) := w_word (N := 6) (by decide +kernel) h hl
theorem v_w111 (h : WRM σ L) : PC (f_X12_writesWord_s111 σ) (fun s => FR [65, 66] [] σ s ∧ WRM s (L ++ wd 111 4)) := v_word (N := 4) (by decide +kernel) h
theorem v_w112 (h : WRM σ L) : PC (f_X12_writesWord_s112 σ) (fun s => FR [65, 66] [] σ s ∧ WRM s (L ++ wd 112 6)) := v_word (N := 6) (by decide +kernel) h
theorem v_w113 (h : WRM σ L) : PC (f_X12_writesWord_s113 σ) (fun s => FR [65, 66] [] σ s ∧ WRM s (L ++ wd 113 6)) := v_word (N := 6) (by decide +kernel) h
theorem v_w114 (h : WRM σ L) : PC (f_X12_writesWord_s114 σ) (fun s => FR [65, 66] [] σ s ∧ WRM s (L ++ wd 114 5)) := v_word (N := 5) (by decide +kernel) h
theorem v_w115 (h : WRM σ L) : PC (f_X12_writesWord_s115 σ) (fun s => FR [65, 66] [] σ s ∧ WRM s (L ++ wd 115 6)) := v_word (N := 6) (by decide +kernel) h
theorem v_w116 (h : WRM σ L) : PC (f_X12_writesWord_s116 σ) (fun s => FR [65, 66] [] σ s ∧ WRM s (L ++ wd 116 3)) := v_word (N := 3) (by decide +kernel) h
theorem v_w117 (h : WRM σ L) : PC (f_X12_writesWord_s117 σ) (fun s => FR [65, 66] [] σ s ∧ WRM s (L ++ wd 117 5)) := v_word (N := 5) (by decide +kernel) h
theorem v_w118 (h : WRM σ L) : PC (f_X12_writesWord_s118 σ) (fun s => FR [65, 66] [] σ s ∧ WRM s (L ++ wd 118 6)) := v_word (N := 6) (by decide +kernel) h
theorem v_w119 (h : WRM σ L) : PC (f_X12_writesWord_s119 σ) (fun s => FR [65, 66] [] σ s ∧ WRM s (L ++ wd 119 9)) := v_word (N := 9) (by decide +kernel) h
theorem v_w120 (h : WRM σ L) : PC (f_X12_writesWord_s120 σ) (fun s => FR [65, 66] [] σ s ∧ WRM s (L ++ wd 120 5)) := v_word (N := 5) (by decide +kernel) h
theorem v_w121 (h : WRM σ L) : PC (f_X12_writesWord_s121 σ) (fun s => FR [65, 66] [] σ s ∧ WRM s (L ++ wd 121 4)) := v_word (N := 4) (by decide +kernel) h
theorem v_w122 (h : WRM σ L) : PC (f_X12_writesWord_s122 σ) (fun s => FR [65, 66] [] σ s ∧ WRM s (L ++ wd 122 7)) := v_word (N := 7) (by decide +kernel) h
theorem v_w123 (h : WRM σ L) : PC (f_X12_writesWord_s123 σ) (fun s => FR [65, 66] [] σ s ∧ WRM s (L ++ wd 123 0)) := v_word (N := 0) (by decide +kernel) h
theorem v_name2 {c x : Int32} (h : WRM σ L) (h9 : x.toInt ≤ 999) : PC (f_X12_writesName c x σ) (fun s => FR [65, 66] [] σ s ∧ WRM s (L ++ c :: dgs x)) := by
  by_cases q : 0 ≤ x.toInt
  · exact v_name h q h9
  · have k_9 : (9 : Int32).toInt = 9 := by decide +kernel
    have x9 : x ≤ 9 := by rw [fa_le, k_9]; omega
    unfold f_X12_writesName
    refine pc_cals (v_sign h) (fun s1 a1 => ?_)
    refine pc_cals (show PC (f_X12_writesNumber 250 x s1) _ from v_num1 (d := 249) a1.2 x9) (fun s2 a2 => pc_ret ⟨FR.cal a1.1 a2.1 rfl rfl, ?_⟩)
    rw [dgs_1 x9, show L ++ c :: [48 + (x - x / 10 * 10)] = L ++ [c] ++ [48 + (x - x / 10 * 10)] by simp]
    exact a2.2
/-- a line with a block's name -/
def blS (w : List Int32) (b : Int32) (e : List Int32) : List Int32 := w ++ (dgs b ++ e)
theorem blS_l (w : List Int32) (b : Int32) (e : List Int32) : (blS w b e).length ≤ w.length + 3 + e.length := by
  have := dgs_l b
  unfold blS
  rw [List.length_append, List.length_append]
  omega
theorem w_b1 {x : Int32} (h : WRX σ L) (hl : L.length + 20 ≤ 400) : PC (f_X6_writeBlock_s0_s1 x σ) (fun s => FR [93, 94] [] σ s ∧ WRX s (L ++ blS (wd 0 6) x (wd 1 1))) := by
  have dl := dgs_l x
  have wl : (wd 0 6).length = 6 := by decide +kernel
  unfold f_X6_writeBlock_s0_s1
  refine pc_cals (w_w0 h (by omega)) (fun s1 a1 => ?_)
  refine pc_cals (w_number a1.2 (by rw [List.length_append]; omega)) (fun s2 a2 => ?_)
  refine pc_cals (w_w1 a2.2 (by rw [List.length_append, List.length_append]; omega)) (fun s3 a3 => pc_ret ⟨FR.cal (FR.cal a1.1 a2.1 rfl rfl) a3.1 rfl rfl, ?_⟩)
  have q := a3.2
  rw [List.append_assoc, List.append_assoc] at q
  exact q
theorem v_b1 {x : Int32} (h : WRM σ L) (h9 : x.toInt ≤ 999) : PC (f_X12_spellsBlock_s114 x 123 σ) (fun s => FR [65, 66] [] σ s ∧ WRM s (L ++ blS (wd 0 6) x (wd 1 1))) := by
  have e1 : wd 0 6 = wd 114 5 ++ [66] := by decide +kernel
  have e2 : wd 1 1 = [123] := by decide +kernel
  unfold f_X12_spellsBlock_s114
  refine pc_cals (v_w114 h) (fun s1 a1 => ?_)
  refine pc_cals (v_name2 a1.2 h9) (fun s2 a2 => ?_)
  refine pc_cals (v_sign a2.2) (fun s3 a3 => pc_ret ⟨FR.cal (FR.cal a1.1 a2.1 rfl rfl) a3.1 rfl rfl, ?_⟩)
  have q := a3.2
  unfold blS
  rw [e1, e2]
  rw [show L ++ (wd 114 5 ++ [66] ++ (dgs x ++ [123])) = L ++ wd 114 5 ++ 66 :: dgs x ++ [123] by simp]
  exact q
theorem w_b2 {x : Int32} (h : WRX σ L) (hl : L.length + 20 ≤ 400) : PC (f_X6_writeBlock_s2_s1 x σ) (fun s => FR [93, 94] [] σ s ∧ WRX s (L ++ blS (wd 2 7) x (wd 1 1))) := by
  have dl := dgs_l x
  have wl : (wd 2 7).length = 7 := by decide +kernel
  unfold f_X6_writeBlock_s2_s1
  refine pc_cals (w_w2 h (by omega)) (fun s1 a1 => ?_)
  refine pc_cals (w_number a1.2 (by rw [List.length_append]; omega)) (fun s2 a2 => ?_)
  refine pc_cals (w_w1 a2.2 (by rw [List.length_append, List.length_append]; omega)) (fun s3 a3 => pc_ret ⟨FR.cal (FR.cal a1.1 a2.1 rfl rfl) a3.1 rfl rfl, ?_⟩)
  have q := a3.2
  rw [List.append_assoc, List.append_assoc] at q
  exact q
theorem v_b2 {x : Int32} (h : WRM σ L) (h9 : x.toInt ≤ 999) : PC (f_X12_spellsBlock_s115 x 123 σ) (fun s => FR [65, 66] [] σ s ∧ WRM s (L ++ blS (wd 2 7) x (wd 1 1))) := by
  have e1 : wd 2 7 = wd 115 6 ++ [66] := by decide +kernel
  have e2 : wd 1 1 = [123] := by decide +kernel
  unfold f_X12_spellsBlock_s115
  refine pc_cals (v_w115 h) (fun s1 a1 => ?_)
  refine pc_cals (v_name2 a1.2 h9) (fun s2 a2 => ?_)
  refine pc_cals (v_sign a2.2) (fun s3 a3 => pc_ret ⟨FR.cal (FR.cal a1.1 a2.1 rfl rfl) a3.1 rfl rfl, ?_⟩)
  have q := a3.2
  unfold blS
  rw [e1, e2]
  rw [show L ++ (wd 115 6 ++ [66] ++ (dgs x ++ [123])) = L ++ wd 115 6 ++ 66 :: dgs x ++ [123] by simp]
  exact q
theorem w_b6 {x : Int32} (h : WRX σ L) (hl : L.length + 20 ≤ 400) : PC (f_X6_writeBlock_s6_s7 x σ) (fun s => FR [93, 94] [] σ s ∧ WRX s (L ++ blS (wd 6 7) x (wd 7 1))) := by
  have dl := dgs_l x
  have wl : (wd 6 7).length = 7 := by decide +kernel
  unfold f_X6_writeBlock_s6_s7
  refine pc_cals (w_w6 h (by omega)) (fun s1 a1 => ?_)
  refine pc_cals (w_number a1.2 (by rw [List.length_append]; omega)) (fun s2 a2 => ?_)
  refine pc_cals (w_w7 a2.2 (by rw [List.length_append, List.length_append]; omega)) (fun s3 a3 => pc_ret ⟨FR.cal (FR.cal a1.1 a2.1 rfl rfl) a3.1 rfl rfl, ?_⟩)
  have q := a3.2
  rw [List.append_assoc, List.append_assoc] at q
  exact q
theorem v_b6 {x : Int32} (h : WRM σ L) (h9 : x.toInt ≤ 999) : PC (f_X12_spellsBlock_s118 x 59 σ) (fun s => FR [65, 66] [] σ s ∧ WRM s (L ++ blS (wd 6 7) x (wd 7 1))) := by
  have e1 : wd 6 7 = wd 118 6 ++ [66] := by decide +kernel
  have e2 : wd 7 1 = [59] := by decide +kernel
  unfold f_X12_spellsBlock_s118
  refine pc_cals (v_w118 h) (fun s1 a1 => ?_)
  refine pc_cals (v_name2 a1.2 h9) (fun s2 a2 => ?_)
  refine pc_cals (v_sign a2.2) (fun s3 a3 => pc_ret ⟨FR.cal (FR.cal a1.1 a2.1 rfl rfl) a3.1 rfl rfl, ?_⟩)
  have q := a3.2
  unfold blS
  rw [e1, e2]
  rw [show L ++ (wd 118 6 ++ [66] ++ (dgs x ++ [59])) = L ++ wd 118 6 ++ 66 :: dgs x ++ [59] by simp]
  exact q
theorem w_b7 {x : Int32} (h : WRX σ L) (hl : L.length + 20 ≤ 400) : PC (f_X6_writeBlock_s8_s7 x σ) (fun s => FR [93, 94] [] σ s ∧ WRX s (L ++ blS (wd 8 10) x (wd 7 1))) := by
  have dl := dgs_l x
  have wl : (wd 8 10).length = 10 := by decide +kernel
  unfold f_X6_writeBlock_s8_s7
  refine pc_cals (w_w8 h (by omega)) (fun s1 a1 => ?_)
  refine pc_cals (w_number a1.2 (by rw [List.length_append]; omega)) (fun s2 a2 => ?_)
  refine pc_cals (w_w7 a2.2 (by rw [List.length_append, List.length_append]; omega)) (fun s3 a3 => pc_ret ⟨FR.cal (FR.cal a1.1 a2.1 rfl rfl) a3.1 rfl rfl, ?_⟩)
  have q := a3.2
  rw [List.append_assoc, List.append_assoc] at q
  exact q
theorem v_b7 {x : Int32} (h : WRM σ L) (h9 : x.toInt ≤ 999) : PC (f_X12_spellsBlock_s119 x 59 σ) (fun s => FR [65, 66] [] σ s ∧ WRM s (L ++ blS (wd 8 10) x (wd 7 1))) := by
  have e1 : wd 8 10 = wd 119 9 ++ [66] := by decide +kernel
  have e2 : wd 7 1 = [59] := by decide +kernel
  unfold f_X12_spellsBlock_s119
  refine pc_cals (v_w119 h) (fun s1 a1 => ?_)
  refine pc_cals (v_name2 a1.2 h9) (fun s2 a2 => ?_)
  refine pc_cals (v_sign a2.2) (fun s3 a3 => pc_ret ⟨FR.cal (FR.cal a1.1 a2.1 rfl rfl) a3.1 rfl rfl, ?_⟩)
  have q := a3.2
  unfold blS
  rw [e1, e2]
  rw [show L ++ (wd 119 9 ++ [66] ++ (dgs x ++ [59])) = L ++ wd 119 9 ++ 66 :: dgs x ++ [59] by simp]
  exact q
theorem w_b8 {x : Int32} (h : WRX σ L) (hl : L.length + 20 ≤ 400) : PC (f_X6_writeBlock_s9_s7 x σ) (fun s => FR [93, 94] [] σ s ∧ WRX s (L ++ blS (wd 9 6) x (wd 7 1))) := by
  have dl := dgs_l x
  have wl : (wd 9 6).length = 6 := by decide +kernel
  unfold f_X6_writeBlock_s9_s7
  refine pc_cals (w_w9 h (by omega)) (fun s1 a1 => ?_)
  refine pc_cals (w_number a1.2 (by rw [List.length_append]; omega)) (fun s2 a2 => ?_)
  refine pc_cals (w_w7 a2.2 (by rw [List.length_append, List.length_append]; omega)) (fun s3 a3 => pc_ret ⟨FR.cal (FR.cal a1.1 a2.1 rfl rfl) a3.1 rfl rfl, ?_⟩)
  have q := a3.2
  rw [List.append_assoc, List.append_assoc] at q
  exact q
theorem v_b8 {x : Int32} (h : WRM σ L) (h9 : x.toInt ≤ 999) : PC (f_X12_spellsBlock_s120 x 59 σ) (fun s => FR [65, 66] [] σ s ∧ WRM s (L ++ blS (wd 9 6) x (wd 7 1))) := by
  have e1 : wd 9 6 = wd 120 5 ++ [66] := by decide +kernel
  have e2 : wd 7 1 = [59] := by decide +kernel
  unfold f_X12_spellsBlock_s120
  refine pc_cals (v_w120 h) (fun s1 a1 => ?_)
  refine pc_cals (v_name2 a1.2 h9) (fun s2 a2 => ?_)
  refine pc_cals (v_sign a2.2) (fun s3 a3 => pc_ret ⟨FR.cal (FR.cal a1.1 a2.1 rfl rfl) a3.1 rfl rfl, ?_⟩)
  have q := a3.2
  unfold blS
  rw [e1, e2]
  rw [show L ++ (wd 120 5 ++ [66] ++ (dgs x ++ [59])) = L ++ wd 120 5 ++ 66 :: dgs x ++ [59] by simp]
  exact q
theorem w_b10 {x : Int32} (h : WRX σ L) (hl : L.length + 20 ≤ 400) : PC (f_X6_writeBlock_s11_s7 x σ) (fun s => FR [93, 94] [] σ s ∧ WRX s (L ++ blS (wd 11 8) x (wd 7 1))) := by
  have dl := dgs_l x
  have wl : (wd 11 8).length = 8 := by decide +kernel
  unfold f_X6_writeBlock_s11_s7
  refine pc_cals (w_w11 h (by omega)) (fun s1 a1 => ?_)
  refine pc_cals (w_number a1.2 (by rw [List.length_append]; omega)) (fun s2 a2 => ?_)
  refine pc_cals (w_w7 a2.2 (by rw [List.length_append, List.length_append]; omega)) (fun s3 a3 => pc_ret ⟨FR.cal (FR.cal a1.1 a2.1 rfl rfl) a3.1 rfl rfl, ?_⟩)
  have q := a3.2
  rw [List.append_assoc, List.append_assoc] at q
  exact q
theorem v_b10 {x : Int32} (h : WRM σ L) (h9 : x.toInt ≤ 999) : PC (f_X12_spellsBlock_s122 x 59 σ) (fun s => FR [65, 66] [] σ s ∧ WRM s (L ++ blS (wd 11 8) x (wd 7 1))) := by
  have e1 : wd 11 8 = wd 122 7 ++ [66] := by decide +kernel
  have e2 : wd 7 1 = [59] := by decide +kernel
  unfold f_X12_spellsBlock_s122
  refine pc_cals (v_w122 h) (fun s1 a1 => ?_)
  refine pc_cals (v_name2 a1.2 h9) (fun s2 a2 => ?_)
  refine pc_cals (v_sign a2.2) (fun s3 a3 => pc_ret ⟨FR.cal (FR.cal a1.1 a2.1 rfl rfl) a3.1 rfl rfl, ?_⟩)
  have q := a3.2
  unfold blS
  rw [e1, e2]
  rw [show L ++ (wd 122 7 ++ [66] ++ (dgs x ++ [59])) = L ++ wd 122 7 ++ 66 :: dgs x ++ [59] by simp]
  exact q
theorem w_b11 {x : Int32} (h : WRX σ L) (hl : L.length + 20 ≤ 400) : PC (f_X6_writeBlock_s12_s13 x σ) (fun s => FR [93, 94] [] σ s ∧ WRX s (L ++ blS (wd 12 1) x (wd 13 1))) := by
  have dl := dgs_l x
  have wl : (wd 12 1).length = 1 := by decide +kernel
  unfold f_X6_writeBlock_s12_s13
  refine pc_cals (w_w12 h (by omega)) (fun s1 a1 => ?_)
  refine pc_cals (w_number a1.2 (by rw [List.length_append]; omega)) (fun s2 a2 => ?_)
  refine pc_cals (w_w13 a2.2 (by rw [List.length_append, List.length_append]; omega)) (fun s3 a3 => pc_ret ⟨FR.cal (FR.cal a1.1 a2.1 rfl rfl) a3.1 rfl rfl, ?_⟩)
  have q := a3.2
  rw [List.append_assoc, List.append_assoc] at q
  exact q
theorem v_b11 {x : Int32} (h : WRM σ L) (h9 : x.toInt ≤ 999) : PC (f_X12_spellsBlock_s123 x 58 σ) (fun s => FR [65, 66] [] σ s ∧ WRM s (L ++ blS (wd 12 1) x (wd 13 1))) := by
  have e1 : wd 12 1 = wd 123 0 ++ [66] := by decide +kernel
  have e2 : wd 13 1 = [58] := by decide +kernel
  unfold f_X12_spellsBlock_s123
  refine pc_cals (v_w123 h) (fun s1 a1 => ?_)
  refine pc_cals (v_name2 a1.2 h9) (fun s2 a2 => ?_)
  refine pc_cals (v_sign a2.2) (fun s3 a3 => pc_ret ⟨FR.cal (FR.cal a1.1 a2.1 rfl rfl) a3.1 rfl rfl, ?_⟩)
  have q := a3.2
  unfold blS
  rw [e1, e2]
  rw [show L ++ (wd 123 0 ++ [66] ++ (dgs x ++ [58])) = L ++ wd 123 0 ++ 66 :: dgs x ++ [58] by simp]
  exact q
end
/-- an expression, spelled, if there is one -/
def opS (o : Option Term) : List Int32 := match o with
  | none => []
  | some t => spl t
def ssH (k : Int) (w : Int32) : List Int32 := if k = 0 then (97 + w) :: wd 14 1 else if k = 1 then (116 :: dgs w) ++ wd 14 1 else if k = 2 then (120 :: dgs w) ++ wd 14 1 else if k = 3 then wd 15 4 else if k = 5 then wd 16 6 else if k = 6 then wd 17 6 else []
/-- a statement, spelled -/
def ssp (k : Int) (w : Int32) (o : Option Term) : List Int32 := ssH k w ++ (opS o ++ wd 7 1)
theorem ssH_l (k : Int) (w : Int32) : (ssH k w).length ≤ 10 := by
  have dl := dgs_l w
  have a14 : (wd 14 1).length = 1 := by decide +kernel
  have a15 : (wd 15 4).length = 4 := by decide +kernel
  have a16 : (wd 16 6).length = 6 := by decide +kernel
  have a17 : (wd 17 6).length = 6 := by decide +kernel
  unfold ssH
  by_cases k0 : k = 0
  · rw [if_pos k0, List.length_cons]; omega
  rw [if_neg k0]
  by_cases k1 : k = 1
  · rw [if_pos k1, List.length_append, List.length_cons]; omega
  rw [if_neg k1]
  by_cases k2 : k = 2
  · rw [if_pos k2, List.length_append, List.length_cons]; omega
  rw [if_neg k2]
  by_cases k3 : k = 3
  · rw [if_pos k3]; omega
  rw [if_neg k3]
  by_cases k5 : k = 5
  · rw [if_pos k5]; omega
  rw [if_neg k5]
  by_cases k6 : k = 6
  · rw [if_pos k6]; omega
  rw [if_neg k6]
  exact Nat.zero_le _
/-- a line, spelled: its kind, its block, what else it says -/
def lsp (k : Int) (b : Int32) (c : List Int32) : List Int32 := if k = 0 then c else if k = 1 then blS (wd 0 6) b (wd 1 1) else if k = 2 then blS (wd 2 7) b (wd 1 1) else if k = 3 then wd 3 3 ++ (c ++ wd 1 1) else if k = 4 then wd 4 5 else if k = 5 then wd 5 1 else if k = 6 then blS (wd 6 7) b (wd 7 1) else if k = 7 then blS (wd 8 10) b (wd 7 1) else if k = 8 then blS (wd 9 6) b (wd 7 1) else if k = 9 then wd 10 4 else if k = 10 then blS (wd 11 8) b (wd 7 1) else blS (wd 12 1) b (wd 13 1)
