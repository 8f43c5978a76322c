def loM (k : Nat) : Int := ([0, -128, 0, 0, 0, 0, 0, 0, 0, 0, 0, 0, 0, 0, 0, 0, 0, 0, 0, -1, -1, 0, 0, 0, -1, -1, 0, 0, 0, 0, 0, 0, 0, 0, -1, 0, -1, 0, 0, 0, 0, 0, 0, -1, -1, 0, -1, 0, 0, 0, 0, 0, 0, 0, 0, -2147483648, -2147483648, 0, 0, 0, -2147483648, -1, 0, -2147483648, 0, 0, 0, 0, 0, -2147483648, -2147483648, 0, -2147483648, 0, -1, -2147483648, -2147483648, 0, 0, -2147483648, -2147483648, 0, -2147483648, -2147483648] : List Int).getD k (-2147483648)
def hiM (k : Nat) : Int := ([1, 127, 240, 240, 255, 999, 40, 40, 3, 255, 999, 40, 255, 999, 40, 40, 3, 40, 3, 6, 6, 1, 39, 39, 39, 39, 40, 39, 39, 1, 1, 1, 120, 39, 39, 40, 3, 1, 255, 5999, 5999, 6000, 6, 399, 5999, 400, 5999, 400, 400, 5999, 8, 8, 1, 1, 1, 2147483647, 2147483647, 1, 11, 39, 2147483647, 399, 1400, 2147483647, 1, 400, 2000, 5999, 6000, 2147483647, 2147483647, 8000, 2147483647, 200, 2, 2147483647, 2147483647, 200, 1, 2147483647, 2147483647, 8, 2147483647, 2147483647] : List Int).getD k 2147483647
abbrev BM (σ : Sto) : Prop := BD loM hiM σ
theorem gM_0 {σ : Sto} (h : BM σ) (i : Nat) : 0 ≤ (σ.1 0 i).toInt ∧ (σ.1 0 i).toInt ≤ 1 := h 0 i
theorem pM_0 {σ : Sto} (h : BM σ) {i : Nat} {v : Int32} (hv : 0 ≤ v.toInt ∧ v.toInt ≤ 1) : BM (sti σ 0 i v) := BD.st h hv
theorem gM_1 {σ : Sto} (h : BM σ) (i : Nat) : (-128) ≤ (σ.1 1 i).toInt ∧ (σ.1 1 i).toInt ≤ 127 := h 1 i
theorem pM_1 {σ : Sto} (h : BM σ) {i : Nat} {v : Int32} (hv : (-128) ≤ v.toInt ∧ v.toInt ≤ 127) : BM (sti σ 1 i v) := BD.st h hv
theorem gM_2 {σ : Sto} (h : BM σ) (i : Nat) : 0 ≤ (σ.1 2 i).toInt ∧ (σ.1 2 i).toInt ≤ 240 := h 2 i
theorem pM_2 {σ : Sto} (h : BM σ) {i : Nat} {v : Int32} (hv : 0 ≤ v.toInt ∧ v.toInt ≤ 240) : BM (sti σ 2 i v) := BD.st h hv
theorem gM_3 {σ : Sto} (h : BM σ) (i : Nat) : 0 ≤ (σ.1 3 i).toInt ∧ (σ.1 3 i).toInt ≤ 240 := h 3 i
theorem pM_3 {σ : Sto} (h : BM σ) {i : Nat} {v : Int32} (hv : 0 ≤ v.toInt ∧ v.toInt ≤ 240) : BM (sti σ 3 i v) := BD.st h hv
theorem gM_4 {σ : Sto} (h : BM σ) (i : Nat) : 0 ≤ (σ.1 4 i).toInt ∧ (σ.1 4 i).toInt ≤ 255 := h 4 i
theorem pM_4 {σ : Sto} (h : BM σ) {i : Nat} {v : Int32} (hv : 0 ≤ v.toInt ∧ v.toInt ≤ 255) : BM (sti σ 4 i v) := BD.st h hv
theorem gM_5 {σ : Sto} (h : BM σ) (i : Nat) : 0 ≤ (σ.1 5 i).toInt ∧ (σ.1 5 i).toInt ≤ 999 := h 5 i
theorem pM_5 {σ : Sto} (h : BM σ) {i : Nat} {v : Int32} (hv : 0 ≤ v.toInt ∧ v.toInt ≤ 999) : BM (sti σ 5 i v) := BD.st h hv
theorem gM_6 {σ : Sto} (h : BM σ) (i : Nat) : 0 ≤ (σ.1 6 i).toInt ∧ (σ.1 6 i).toInt ≤ 40 := h 6 i
theorem pM_6 {σ : Sto} (h : BM σ) {i : Nat} {v : Int32} (hv : 0 ≤ v.toInt ∧ v.toInt ≤ 40) : BM (sti σ 6 i v) := BD.st h hv
theorem gM_7 {σ : Sto} (h : BM σ) (i : Nat) : 0 ≤ (σ.1 7 i).toInt ∧ (σ.1 7 i).toInt ≤ 40 := h 7 i
theorem pM_7 {σ : Sto} (h : BM σ) {i : Nat} {v : Int32} (hv : 0 ≤ v.toInt ∧ v.toInt ≤ 40) : BM (sti σ 7 i v) := BD.st h hv
theorem gM_8 {σ : Sto} (h : BM σ) (i : Nat) : 0 ≤ (σ.1 8 i).toInt ∧ (σ.1 8 i).toInt ≤ 3 := h 8 i
theorem pM_8 {σ : Sto} (h : BM σ) {i : Nat} {v : Int32} (hv : 0 ≤ v.toInt ∧ v.toInt ≤ 3) : BM (sti σ 8 i v) := BD.st h hv
theorem gM_9 {σ : Sto} (h : BM σ) (i : Nat) : 0 ≤ (σ.1 9 i).toInt ∧ (σ.1 9 i).toInt ≤ 255 := h 9 i
theorem pM_9 {σ : Sto} (h : BM σ) {i : Nat} {v : Int32} (hv : 0 ≤ v.toInt ∧ v.toInt ≤ 255) : BM (sti σ 9 i v) := BD.st h hv
theorem gM_10 {σ : Sto} (h : BM σ) (i : Nat) : 0 ≤ (σ.1 10 i).toInt ∧ (σ.1 10 i).toInt ≤ 999 := h 10 i
theorem pM_10 {σ : Sto} (h : BM σ) {i : Nat} {v : Int32} (hv : 0 ≤ v.toInt ∧ v.toInt ≤ 999) : BM (sti σ 10 i v) := BD.st h hv
theorem gM_11 {σ : Sto} (h : BM σ) (i : Nat) : 0 ≤ (σ.1 11 i).toInt ∧ (σ.1 11 i).toInt ≤ 40 := h 11 i
theorem pM_11 {σ : Sto} (h : BM σ) {i : Nat} {v : Int32} (hv : 0 ≤ v.toInt ∧ v.toInt ≤ 40) : BM (sti σ 11 i v) := BD.st h hv
theorem gM_12 {σ : Sto} (h : BM σ) (i : Nat) : 0 ≤ (σ.1 12 i).toInt ∧ (σ.1 12 i).toInt ≤ 255 := h 12 i
theorem pM_12 {σ : Sto} (h : BM σ) {i : Nat} {v : Int32} (hv : 0 ≤ v.toInt ∧ v.toInt ≤ 255) : BM (sti σ 12 i v) := BD.st h hv
theorem gM_13 {σ : Sto} (h : BM σ) (i : Nat) : 0 ≤ (σ.1 13 i).toInt ∧ (σ.1 13 i).toInt ≤ 999 := h 13 i
theorem pM_13 {σ : Sto} (h : BM σ) {i : Nat} {v : Int32} (hv : 0 ≤ v.toInt ∧ v.toInt ≤ 999) : BM (sti σ 13 i v) := BD.st h hv
theorem gM_14 {σ : Sto} (h : BM σ) (i : Nat) : 0 ≤ (σ.1 14 i).toInt ∧ (σ.1 14 i).toInt ≤ 40 := h 14 i
theorem pM_14 {σ : Sto} (h : BM σ) {i : Nat} {v : Int32} (hv : 0 ≤ v.toInt ∧ v.toInt ≤ 40) : BM (sti σ 14 i v) := BD.st h hv
theorem gM_15 {σ : Sto} (h : BM σ) (i : Nat) : 0 ≤ (σ.1 15 i).toInt ∧ (σ.1 15 i).toInt ≤ 40 := h 15 i
theorem pM_15 {σ : Sto} (h : BM σ) {i : Nat} {v : Int32} (hv : 0 ≤ v.toInt ∧ v.toInt ≤ 40) : BM (sti σ 15 i v) := BD.st h hv
theorem gM_16 {σ : Sto} (h : BM σ) (i : Nat) : 0 ≤ (σ.1 16 i).toInt ∧ (σ.1 16 i).toInt ≤ 3 := h 16 i
theorem pM_16 {σ : Sto} (h : BM σ) {i : Nat} {v : Int32} (hv : 0 ≤ v.toInt ∧ v.toInt ≤ 3) : BM (sti σ 16 i v) := BD.st h hv
theorem gM_17 {σ : Sto} (h : BM σ) (i : Nat) : 0 ≤ (σ.1 17 i).toInt ∧ (σ.1 17 i).toInt ≤ 40 := h 17 i
theorem pM_17 {σ : Sto} (h : BM σ) {i : Nat} {v : Int32} (hv : 0 ≤ v.toInt ∧ v.toInt ≤ 40) : BM (sti σ 17 i v) := BD.st h hv
theorem gM_18 {σ : Sto} (h : BM σ) (i : Nat) : 0 ≤ (σ.1 18 i).toInt ∧ (σ.1 18 i).toInt ≤ 3 := h 18 i
theorem pM_18 {σ : Sto} (h : BM σ) {i : Nat} {v : Int32} (hv : 0 ≤ v.toInt ∧ v.toInt ≤ 3) : BM (sti σ 18 i v) := BD.st h hv
theorem gM_19 {σ : Sto} (h : BM σ) (i : Nat) : (-1) ≤ (σ.1 19 i).toInt ∧ (σ.1 19 i).toInt ≤ 6 := h 19 i
theorem pM_19 {σ : Sto} (h : BM σ) {i : Nat} {v : Int32} (hv : (-1) ≤ v.toInt ∧ v.toInt ≤ 6) : BM (sti σ 19 i v) := BD.st h hv
theorem gM_20 {σ : Sto} (h : BM σ) (i : Nat) : (-1) ≤ (σ.1 20 i).toInt ∧ (σ.1 20 i).toInt ≤ 6 := h 20 i
theorem pM_20 {σ : Sto} (h : BM σ) {i : Nat} {v : Int32} (hv : (-1) ≤ v.toInt ∧ v.toInt ≤ 6) : BM (sti σ 20 i v) := BD.st h hv
theorem gM_21 {σ : Sto} (h : BM σ) (i : Nat) : 0 ≤ (σ.1 21 i).toInt ∧ (σ.1 21 i).toInt ≤ 1 := h 21 i
theorem pM_21 {σ : Sto} (h : BM σ) {i : Nat} {v : Int32} (hv : 0 ≤ v.toInt ∧ v.toInt ≤ 1) : BM (sti σ 21 i v) := BD.st h hv
theorem gM_22 {σ : Sto} (h : BM σ) (i : Nat) : 0 ≤ (σ.1 22 i).toInt ∧ (σ.1 22 i).toInt ≤ 39 := h 22 i
theorem pM_22 {σ : Sto} (h : BM σ) {i : Nat} {v : Int32} (hv : 0 ≤ v.toInt ∧ v.toInt ≤ 39) : BM (sti σ 22 i v) := BD.st h hv
theorem gM_23 {σ : Sto} (h : BM σ) (i : Nat) : 0 ≤ (σ.1 23 i).toInt ∧ (σ.1 23 i).toInt ≤ 39 := h 23 i
theorem pM_23 {σ : Sto} (h : BM σ) {i : Nat} {v : Int32} (hv : 0 ≤ v.toInt ∧ v.toInt ≤ 39) : BM (sti σ 23 i v) := BD.st h hv
theorem gM_24 {σ : Sto} (h : BM σ) (i : Nat) : (-1) ≤ (σ.1 24 i).toInt ∧ (σ.1 24 i).toInt ≤ 39 := h 24 i
theorem pM_24 {σ : Sto} (h : BM σ) {i : Nat} {v : Int32} (hv : (-1) ≤ v.toInt ∧ v.toInt ≤ 39) : BM (sti σ 24 i v) := BD.st h hv
theorem gM_25 {σ : Sto} (h : BM σ) (i : Nat) : (-1) ≤ (σ.1 25 i).toInt ∧ (σ.1 25 i).toInt ≤ 39 := h 25 i
theorem pM_25 {σ : Sto} (h : BM σ) {i : Nat} {v : Int32} (hv : (-1) ≤ v.toInt ∧ v.toInt ≤ 39) : BM (sti σ 25 i v) := BD.st h hv
theorem gM_26 {σ : Sto} (h : BM σ) (i : Nat) : 0 ≤ (σ.1 26 i).toInt ∧ (σ.1 26 i).toInt ≤ 40 := h 26 i
theorem pM_26 {σ : Sto} (h : BM σ) {i : Nat} {v : Int32} (hv : 0 ≤ v.toInt ∧ v.toInt ≤ 40) : BM (sti σ 26 i v) := BD.st h hv
theorem gM_27 {σ : Sto} (h : BM σ) (i : Nat) : 0 ≤ (σ.1 27 i).toInt ∧ (σ.1 27 i).toInt ≤ 39 := h 27 i
theorem pM_27 {σ : Sto} (h : BM σ) {i : Nat} {v : Int32} (hv : 0 ≤ v.toInt ∧ v.toInt ≤ 39) : BM (sti σ 27 i v) := BD.st h hv
theorem gM_28 {σ : Sto} (h : BM σ) (i : Nat) : 0 ≤ (σ.1 28 i).toInt ∧ (σ.1 28 i).toInt ≤ 39 := h 28 i
theorem pM_28 {σ : Sto} (h : BM σ) {i : Nat} {v : Int32} (hv : 0 ≤ v.toInt ∧ v.toInt ≤ 39) : BM (sti σ 28 i v) := BD.st h hv
theorem gM_29 {σ : Sto} (h : BM σ) (i : Nat) : 0 ≤ (σ.1 29 i).toInt ∧ (σ.1 29 i).toInt ≤ 1 := h 29 i
theorem pM_29 {σ : Sto} (h : BM σ) {i : Nat} {v : Int32} (hv : 0 ≤ v.toInt ∧ v.toInt ≤ 1) : BM (sti σ 29 i v) := BD.st h hv
theorem gM_30 {σ : Sto} (h : BM σ) (i : Nat) : 0 ≤ (σ.1 30 i).toInt ∧ (σ.1 30 i).toInt ≤ 1 := h 30 i
theorem pM_30 {σ : Sto} (h : BM σ) {i : Nat} {v : Int32} (hv : 0 ≤ v.toInt ∧ v.toInt ≤ 1) : BM (sti σ 30 i v) := BD.st h hv
theorem gM_31 {σ : Sto} (h : BM σ) (i : Nat) : 0 ≤ (σ.1 31 i).toInt ∧ (σ.1 31 i).toInt ≤ 1 := h 31 i
theorem pM_31 {σ : Sto} (h : BM σ) {i : Nat} {v : Int32} (hv : 0 ≤ v.toInt ∧ v.toInt ≤ 1) : BM (sti σ 31 i v) := BD.st h hv
theorem gM_32 {σ : Sto} (h : BM σ) (i : Nat) : 0 ≤ (σ.1 32 i).toInt ∧ (σ.1 32 i).toInt ≤ 120 := h 32 i
theorem pM_32 {σ : Sto} (h : BM σ) {i : Nat} {v : Int32} (hv : 0 ≤ v.toInt ∧ v.toInt ≤ 120) : BM (sti σ 32 i v) := BD.st h hv
theorem gM_33 {σ : Sto} (h : BM σ) (i : Nat) : 0 ≤ (σ.1 33 i).toInt ∧ (σ.1 33 i).toInt ≤ 39 := h 33 i
theorem pM_33 {σ : Sto} (h : BM σ) {i : Nat} {v : Int32} (hv : 0 ≤ v.toInt ∧ v.toInt ≤ 39) : BM (sti σ 33 i v) := BD.st h hv
theorem gM_34 {σ : Sto} (h : BM σ) (i : Nat) : (-1) ≤ (σ.1 34 i).toInt ∧ (σ.1 34 i).toInt ≤ 39 := h 34 i
theorem pM_34 {σ : Sto} (h : BM σ) {i : Nat} {v : Int32} (hv : (-1) ≤ v.toInt ∧ v.toInt ≤ 39) : BM (sti σ 34 i v) := BD.st h hv
theorem gM_35 {σ : Sto} (h : BM σ) (i : Nat) : 0 ≤ (σ.1 35 i).toInt ∧ (σ.1 35 i).toInt ≤ 40 := h 35 i
theorem pM_35 {σ : Sto} (h : BM σ) {i : Nat} {v : Int32} (hv : 0 ≤ v.toInt ∧ v.toInt ≤ 40) : BM (sti σ 35 i v) := BD.st h hv
theorem gM_36 {σ : Sto} (h : BM σ) (i : Nat) : (-1) ≤ (σ.1 36 i).toInt ∧ (σ.1 36 i).toInt ≤ 3 := h 36 i
theorem pM_36 {σ : Sto} (h : BM σ) {i : Nat} {v : Int32} (hv : (-1) ≤ v.toInt ∧ v.toInt ≤ 3) : BM (sti σ 36 i v) := BD.st h hv
theorem gM_37 {σ : Sto} (h : BM σ) (i : Nat) : 0 ≤ (σ.1 37 i).toInt ∧ (σ.1 37 i).toInt ≤ 1 := h 37 i
theorem pM_37 {σ : Sto} (h : BM σ) {i : Nat} {v : Int32} (hv : 0 ≤ v.toInt ∧ v.toInt ≤ 1) : BM (sti σ 37 i v) := BD.st h hv
theorem gM_38 {σ : Sto} (h : BM σ) (i : Nat) : 0 ≤ (σ.1 38 i).toInt ∧ (σ.1 38 i).toInt ≤ 255 := h 38 i
theorem pM_38 {σ : Sto} (h : BM σ) {i : Nat} {v : Int32} (hv : 0 ≤ v.toInt ∧ v.toInt ≤ 255) : BM (sti σ 38 i v) := BD.st h hv
theorem gM_39 {σ : Sto} (h : BM σ) (i : Nat) : 0 ≤ (σ.1 39 i).toInt ∧ (σ.1 39 i).toInt ≤ 5999 := h 39 i
theorem pM_39 {σ : Sto} (h : BM σ) {i : Nat} {v : Int32} (hv : 0 ≤ v.toInt ∧ v.toInt ≤ 5999) : BM (sti σ 39 i v) := BD.st h hv
theorem gM_40 {σ : Sto} (h : BM σ) (i : Nat) : 0 ≤ (σ.1 40 i).toInt ∧ (σ.1 40 i).toInt ≤ 5999 := h 40 i
theorem pM_40 {σ : Sto} (h : BM σ) {i : Nat} {v : Int32} (hv : 0 ≤ v.toInt ∧ v.toInt ≤ 5999) : BM (sti σ 40 i v) := BD.st h hv
theorem gM_41 {σ : Sto} (h : BM σ) (i : Nat) : 0 ≤ (σ.1 41 i).toInt ∧ (σ.1 41 i).toInt ≤ 6000 := h 41 i
theorem pM_41 {σ : Sto} (h : BM σ) {i : Nat} {v : Int32} (hv : 0 ≤ v.toInt ∧ v.toInt ≤ 6000) : BM (sti σ 41 i v) := BD.st h hv
theorem gM_42 {σ : Sto} (h : BM σ) (i : Nat) : 0 ≤ (σ.1 42 i).toInt ∧ (σ.1 42 i).toInt ≤ 6 := h 42 i
theorem pM_42 {σ : Sto} (h : BM σ) {i : Nat} {v : Int32} (hv : 0 ≤ v.toInt ∧ v.toInt ≤ 6) : BM (sti σ 42 i v) := BD.st h hv
theorem gM_43 {σ : Sto} (h : BM σ) (i : Nat) : (-1) ≤ (σ.1 43 i).toInt ∧ (σ.1 43 i).toInt ≤ 399 := h 43 i
theorem pM_43 {σ : Sto} (h : BM σ) {i : Nat} {v : Int32} (hv : (-1) ≤ v.toInt ∧ v.toInt ≤ 399) : BM (sti σ 43 i v) := BD.st h hv
theorem gM_44 {σ : Sto} (h : BM σ) (i : Nat) : (-1) ≤ (σ.1 44 i).toInt ∧ (σ.1 44 i).toInt ≤ 5999 := h 44 i
theorem pM_44 {σ : Sto} (h : BM σ) {i : Nat} {v : Int32} (hv : (-1) ≤ v.toInt ∧ v.toInt ≤ 5999) : BM (sti σ 44 i v) := BD.st h hv
theorem gM_45 {σ : Sto} (h : BM σ) (i : Nat) : 0 ≤ (σ.1 45 i).toInt ∧ (σ.1 45 i).toInt ≤ 400 := h 45 i
theorem pM_45 {σ : Sto} (h : BM σ) {i : Nat} {v : Int32} (hv : 0 ≤ v.toInt ∧ v.toInt ≤ 400) : BM (sti σ 45 i v) := BD.st h hv
theorem gM_46 {σ : Sto} (h : BM σ) (i : Nat) : (-1) ≤ (σ.1 46 i).toInt ∧ (σ.1 46 i).toInt ≤ 5999 := h 46 i
theorem pM_46 {σ : Sto} (h : BM σ) {i : Nat} {v : Int32} (hv : (-1) ≤ v.toInt ∧ v.toInt ≤ 5999) : BM (sti σ 46 i v) := BD.st h hv
theorem gM_47 {σ : Sto} (h : BM σ) (i : Nat) : 0 ≤ (σ.1 47 i).toInt ∧ (σ.1 47 i).toInt ≤ 400 := h 47 i
theorem pM_47 {σ : Sto} (h : BM σ) {i : Nat} {v : Int32} (hv : 0 ≤ v.toInt ∧ v.toInt ≤ 400) : BM (sti σ 47 i v) := BD.st h hv
theorem gM_48 {σ : Sto} (h : BM σ) (i : Nat) : 0 ≤ (σ.1 48 i).toInt ∧ (σ.1 48 i).toInt ≤ 400 := h 48 i
theorem pM_48 {σ : Sto} (h : BM σ) {i : Nat} {v : Int32} (hv : 0 ≤ v.toInt ∧ v.toInt ≤ 400) : BM (sti σ 48 i v) := BD.st h hv
theorem gM_49 {σ : Sto} (h : BM σ) (i : Nat) : 0 ≤ (σ.1 49 i).toInt ∧ (σ.1 49 i).toInt ≤ 5999 := h 49 i
theorem pM_49 {σ : Sto} (h : BM σ) {i : Nat} {v : Int32} (hv : 0 ≤ v.toInt ∧ v.toInt ≤ 5999) : BM (sti σ 49 i v) := BD.st h hv
theorem gM_50 {σ : Sto} (h : BM σ) (i : Nat) : 0 ≤ (σ.1 50 i).toInt ∧ (σ.1 50 i).toInt ≤ 8 := h 50 i
theorem pM_50 {σ : Sto} (h : BM σ) {i : Nat} {v : Int32} (hv : 0 ≤ v.toInt ∧ v.toInt ≤ 8) : BM (sti σ 50 i v) := BD.st h hv
theorem gM_51 {σ : Sto} (h : BM σ) (i : Nat) : 0 ≤ (σ.1 51 i).toInt ∧ (σ.1 51 i).toInt ≤ 8 := h 51 i
theorem pM_51 {σ : Sto} (h : BM σ) {i : Nat} {v : Int32} (hv : 0 ≤ v.toInt ∧ v.toInt ≤ 8) : BM (sti σ 51 i v) := BD.st h hv
theorem gM_52 {σ : Sto} (h : BM σ) (i : Nat) : 0 ≤ (σ.1 52 i).toInt ∧ (σ.1 52 i).toInt ≤ 1 := h 52 i
theorem pM_52 {σ : Sto} (h : BM σ) {i : Nat} {v : Int32} (hv : 0 ≤ v.toInt ∧ v.toInt ≤ 1) : BM (sti σ 52 i v) := BD.st h hv
theorem gM_53 {σ : Sto} (h : BM σ) (i : Nat) : 0 ≤ (σ.1 53 i).toInt ∧ (σ.1 53 i).toInt ≤ 1 := h 53 i
theorem pM_53 {σ : Sto} (h : BM σ) {i : Nat} {v : Int32} (hv : 0 ≤ v.toInt ∧ v.toInt ≤ 1) : BM (sti σ 53 i v) := BD.st h hv
theorem gM_54 {σ : Sto} (h : BM σ) (i : Nat) : 0 ≤ (σ.1 54 i).toInt ∧ (σ.1 54 i).toInt ≤ 1 := h 54 i
theorem pM_54 {σ : Sto} (h : BM σ) {i : Nat} {v : Int32} (hv : 0 ≤ v.toInt ∧ v.toInt ≤ 1) : BM (sti σ 54 i v) := BD.st h hv
theorem gM_55 {σ : Sto} (h : BM σ) (i : Nat) : (-2147483648) ≤ (σ.1 55 i).toInt ∧ (σ.1 55 i).toInt ≤ 2147483647 := h 55 i
theorem pM_55 {σ : Sto} (h : BM σ) {i : Nat} {v : Int32} (hv : (-2147483648) ≤ v.toInt ∧ v.toInt ≤ 2147483647) : BM (sti σ 55 i v) := BD.st h hv
theorem gM_56 {σ : Sto} (h : BM σ) (i : Nat) : (-2147483648) ≤ (σ.1 56 i).toInt ∧ (σ.1 56 i).toInt ≤ 2147483647 := h 56 i
theorem pM_56 {σ : Sto} (h : BM σ) {i : Nat} {v : Int32} (hv : (-2147483648) ≤ v.toInt ∧ v.toInt ≤ 2147483647) : BM (sti σ 56 i v) := BD.st h hv
theorem gM_57 {σ : Sto} (h : BM σ) (i : Nat) : 0 ≤ (σ.1 57 i).toInt ∧ (σ.1 57 i).toInt ≤ 1 := h 57 i
theorem pM_57 {σ : Sto} (h : BM σ) {i : Nat} {v : Int32} (hv : 0 ≤ v.toInt ∧ v.toInt ≤ 1) : BM (sti σ 57 i v) := BD.st h hv
theorem gM_58 {σ : Sto} (h : BM σ) (i : Nat) : 0 ≤ (σ.1 58 i).toInt ∧ (σ.1 58 i).toInt ≤ 11 := h 58 i
theorem pM_58 {σ : Sto} (h : BM σ) {i : Nat} {v : Int32} (hv : 0 ≤ v.toInt ∧ v.toInt ≤ 11) : BM (sti σ 58 i v) := BD.st h hv
theorem gM_59 {σ : Sto} (h : BM σ) (i : Nat) : 0 ≤ (σ.1 59 i).toInt ∧ (σ.1 59 i).toInt ≤ 39 := h 59 i
theorem pM_59 {σ : Sto} (h : BM σ) {i : Nat} {v : Int32} (hv : 0 ≤ v.toInt ∧ v.toInt ≤ 39) : BM (sti σ 59 i v) := BD.st h hv
theorem gM_60 {σ : Sto} (h : BM σ) (i : Nat) : (-2147483648) ≤ (σ.1 60 i).toInt ∧ (σ.1 60 i).toInt ≤ 2147483647 := h 60 i
theorem pM_60 {σ : Sto} (h : BM σ) {i : Nat} {v : Int32} (hv : (-2147483648) ≤ v.toInt ∧ v.toInt ≤ 2147483647) : BM (sti σ 60 i v) := BD.st h hv
theorem gM_61 {σ : Sto} (h : BM σ) (i : Nat) : (-1) ≤ (σ.1 61 i).toInt ∧ (σ.1 61 i).toInt ≤ 399 := h 61 i
theorem pM_61 {σ : Sto} (h : BM σ) {i : Nat} {v : Int32} (hv : (-1) ≤ v.toInt ∧ v.toInt ≤ 399) : BM (sti σ 61 i v) := BD.st h hv
theorem gM_62 {σ : Sto} (h : BM σ) (i : Nat) : 0 ≤ (σ.1 62 i).toInt ∧ (σ.1 62 i).toInt ≤ 1400 := h 62 i
theorem pM_62 {σ : Sto} (h : BM σ) {i : Nat} {v : Int32} (hv : 0 ≤ v.toInt ∧ v.toInt ≤ 1400) : BM (sti σ 62 i v) := BD.st h hv
theorem gM_63 {σ : Sto} (h : BM σ) (i : Nat) : (-2147483648) ≤ (σ.1 63 i).toInt ∧ (σ.1 63 i).toInt ≤ 2147483647 := h 63 i
theorem pM_63 {σ : Sto} (h : BM σ) {i : Nat} {v : Int32} (hv : (-2147483648) ≤ v.toInt ∧ v.toInt ≤ 2147483647) : BM (sti σ 63 i v) := BD.st h hv
theorem gM_64 {σ : Sto} (h : BM σ) (i : Nat) : 0 ≤ (σ.1 64 i).toInt ∧ (σ.1 64 i).toInt ≤ 1 := h 64 i
theorem pM_64 {σ : Sto} (h : BM σ) {i : Nat} {v : Int32} (hv : 0 ≤ v.toInt ∧ v.toInt ≤ 1) : BM (sti σ 64 i v) := BD.st h hv
theorem gM_65 {σ : Sto} (h : BM σ) (i : Nat) : 0 ≤ (σ.1 65 i).toInt ∧ (σ.1 65 i).toInt ≤ 400 := h 65 i
theorem pM_65 {σ : Sto} (h : BM σ) {i : Nat} {v : Int32} (hv : 0 ≤ v.toInt ∧ v.toInt ≤ 400) : BM (sti σ 65 i v) := BD.st h hv
theorem gM_66 {σ : Sto} (h : BM σ) (i : Nat) : 0 ≤ (σ.1 66 i).toInt ∧ (σ.1 66 i).toInt ≤ 2000 := h 66 i
theorem pM_66 {σ : Sto} (h : BM σ) {i : Nat} {v : Int32} (hv : 0 ≤ v.toInt ∧ v.toInt ≤ 2000) : BM (sti σ 66 i v) := BD.st h hv
theorem gM_67 {σ : Sto} (h : BM σ) (i : Nat) : 0 ≤ (σ.1 67 i).toInt ∧ (σ.1 67 i).toInt ≤ 5999 := h 67 i
theorem pM_67 {σ : Sto} (h : BM σ) {i : Nat} {v : Int32} (hv : 0 ≤ v.toInt ∧ v.toInt ≤ 5999) : BM (sti σ 67 i v) := BD.st h hv
theorem gM_68 {σ : Sto} (h : BM σ) (i : Nat) : 0 ≤ (σ.1 68 i).toInt ∧ (σ.1 68 i).toInt ≤ 6000 := h 68 i
theorem pM_68 {σ : Sto} (h : BM σ) {i : Nat} {v : Int32} (hv : 0 ≤ v.toInt ∧ v.toInt ≤ 6000) : BM (sti σ 68 i v) := BD.st h hv
theorem gM_69 {σ : Sto} (h : BM σ) (i : Nat) : (-2147483648) ≤ (σ.1 69 i).toInt ∧ (σ.1 69 i).toInt ≤ 2147483647 := h 69 i
theorem pM_69 {σ : Sto} (h : BM σ) {i : Nat} {v : Int32} (hv : (-2147483648) ≤ v.toInt ∧ v.toInt ≤ 2147483647) : BM (sti σ 69 i v) := BD.st h hv
theorem gM_70 {σ : Sto} (h : BM σ) (i : Nat) : (-2147483648) ≤ (σ.1 70 i).toInt ∧ (σ.1 70 i).toInt ≤ 2147483647 := h 70 i
theorem pM_70 {σ : Sto} (h : BM σ) {i : Nat} {v : Int32} (hv : (-2147483648) ≤ v.toInt ∧ v.toInt ≤ 2147483647) : BM (sti σ 70 i v) := BD.st h hv
theorem gM_71 {σ : Sto} (h : BM σ) (i : Nat) : 0 ≤ (σ.1 71 i).toInt ∧ (σ.1 71 i).toInt ≤ 8000 := h 71 i
theorem pM_71 {σ : Sto} (h : BM σ) {i : Nat} {v : Int32} (hv : 0 ≤ v.toInt ∧ v.toInt ≤ 8000) : BM (sti σ 71 i v) := BD.st h hv
theorem gM_72 {σ : Sto} (h : BM σ) (i : Nat) : (-2147483648) ≤ (σ.1 72 i).toInt ∧ (σ.1 72 i).toInt ≤ 2147483647 := h 72 i
theorem pM_72 {σ : Sto} (h : BM σ) {i : Nat} {v : Int32} (hv : (-2147483648) ≤ v.toInt ∧ v.toInt ≤ 2147483647) : BM (sti σ 72 i v) := BD.st h hv
theorem gM_73 {σ : Sto} (h : BM σ) (i : Nat) : 0 ≤ (σ.1 73 i).toInt ∧ (σ.1 73 i).toInt ≤ 200 := h 73 i
theorem pM_73 {σ : Sto} (h : BM σ) {i : Nat} {v : Int32} (hv : 0 ≤ v.toInt ∧ v.toInt ≤ 200) : BM (sti σ 73 i v) := BD.st h hv
theorem gM_74 {σ : Sto} (h : BM σ) (i : Nat) : (-1) ≤ (σ.1 74 i).toInt ∧ (σ.1 74 i).toInt ≤ 2 := h 74 i
theorem pM_74 {σ : Sto} (h : BM σ) {i : Nat} {v : Int32} (hv : (-1) ≤ v.toInt ∧ v.toInt ≤ 2) : BM (sti σ 74 i v) := BD.st h hv
theorem gM_75 {σ : Sto} (h : BM σ) (i : Nat) : (-2147483648) ≤ (σ.1 75 i).toInt ∧ (σ.1 75 i).toInt ≤ 2147483647 := h 75 i
theorem pM_75 {σ : Sto} (h : BM σ) {i : Nat} {v : Int32} (hv : (-2147483648) ≤ v.toInt ∧ v.toInt ≤ 2147483647) : BM (sti σ 75 i v) := BD.st h hv
theorem gM_76 {σ : Sto} (h : BM σ) (i : Nat) : (-2147483648) ≤ (σ.1 76 i).toInt ∧ (σ.1 76 i).toInt ≤ 2147483647 := h 76 i
theorem pM_76 {σ : Sto} (h : BM σ) {i : Nat} {v : Int32} (hv : (-2147483648) ≤ v.toInt ∧ v.toInt ≤ 2147483647) : BM (sti σ 76 i v) := BD.st h hv
theorem gM_77 {σ : Sto} (h : BM σ) (i : Nat) : 0 ≤ (σ.1 77 i).toInt ∧ (σ.1 77 i).toInt ≤ 200 := h 77 i
theorem pM_77 {σ : Sto} (h : BM σ) {i : Nat} {v : Int32} (hv : 0 ≤ v.toInt ∧ v.toInt ≤ 200) : BM (sti σ 77 i v) := BD.st h hv
theorem gM_78 {σ : Sto} (h : BM σ) (i : Nat) : 0 ≤ (σ.1 78 i).toInt ∧ (σ.1 78 i).toInt ≤ 1 := h 78 i
theorem pM_78 {σ : Sto} (h : BM σ) {i : Nat} {v : Int32} (hv : 0 ≤ v.toInt ∧ v.toInt ≤ 1) : BM (sti σ 78 i v) := BD.st h hv
theorem gM_79 {σ : Sto} (h : BM σ) (i : Nat) : (-2147483648) ≤ (σ.1 79 i).toInt ∧ (σ.1 79 i).toInt ≤ 2147483647 := h 79 i
theorem pM_79 {σ : Sto} (h : BM σ) {i : Nat} {v : Int32} (hv : (-2147483648) ≤ v.toInt ∧ v.toInt ≤ 2147483647) : BM (sti σ 79 i v) := BD.st h hv
theorem gM_80 {σ : Sto} (h : BM σ) (i : Nat) : (-2147483648) ≤ (σ.1 80 i).toInt ∧ (σ.1 80 i).toInt ≤ 2147483647 := h 80 i
theorem pM_80 {σ : Sto} (h : BM σ) {i : Nat} {v : Int32} (hv : (-2147483648) ≤ v.toInt ∧ v.toInt ≤ 2147483647) : BM (sti σ 80 i v) := BD.st h hv
theorem gM_81 {σ : Sto} (h : BM σ) (i : Nat) : 0 ≤ (σ.1 81 i).toInt ∧ (σ.1 81 i).toInt ≤ 8 := h 81 i
theorem pM_81 {σ : Sto} (h : BM σ) {i : Nat} {v : Int32} (hv : 0 ≤ v.toInt ∧ v.toInt ≤ 8) : BM (sti σ 81 i v) := BD.st h hv
theorem gM_82 {σ : Sto} (h : BM σ) (i : Nat) : (-2147483648) ≤ (σ.1 82 i).toInt ∧ (σ.1 82 i).toInt ≤ 2147483647 := h 82 i
theorem pM_82 {σ : Sto} (h : BM σ) {i : Nat} {v : Int32} (hv : (-2147483648) ≤ v.toInt ∧ v.toInt ≤ 2147483647) : BM (sti σ 82 i v) := BD.st h hv
theorem gM_83 {σ : Sto} (h : BM σ) (i : Nat) : (-2147483648) ≤ (σ.1 83 i).toInt ∧ (σ.1 83 i).toInt ≤ 2147483647 := h 83 i
theorem pM_83 {σ : Sto} (h : BM σ) {i : Nat} {v : Int32} (hv : (-2147483648) ≤ v.toInt ∧ v.toInt ≤ 2147483647) : BM (sti σ 83 i v) := BD.st h hv
theorem ch_100 : ∀ j, j < 16 → ((chS 100 (nI j)).toInt = 43 ∨ (chS 100 (nI j)).toInt = 45 ∨ (chS 100 (nI j)).toInt = 42 ∨ (chS 100 (nI j)).toInt = 47 ∨ (chS 100 (nI j)).toInt = 37 ∨ (chS 100 (nI j)).toInt = 60 ∨ (chS 100 (nI j)).toInt = 61 ∨ (chS 100 (nI j)).toInt = 33 ∨ (chS 100 (nI j)).toInt = 110 ∨ (chS 100 (nI j)).toInt = 100 ∨ (chS 100 (nI j)).toInt = 112 ∨ (chS 100 (nI j)).toInt = 119 ∨ (chS 100 (nI j)).toInt = 105 ∨ (chS 100 (nI j)).toInt = 111 ∨ (chS 100 (nI j)).toInt = 116 ∨ (chS 100 (nI j)).toInt = 114) := by decide +kernel
theorem ch_100_0 : (chS 100 (nI 0)).toInt = 43 := by decide +kernel
theorem ch_100_1 : (chS 100 (nI 1)).toInt = 45 := by decide +kernel
theorem ch_100_2 : (chS 100 (nI 2)).toInt = 42 := by decide +kernel
theorem ch_100_3 : (chS 100 (nI 3)).toInt = 47 := by decide +kernel
theorem ch_100_4 : (chS 100 (nI 4)).toInt = 37 := by decide +kernel
theorem ch_100_5 : (chS 100 (nI 5)).toInt = 60 := by decide +kernel
theorem ch_100_6 : (chS 100 (nI 6)).toInt = 61 := by decide +kernel
theorem ch_100_7 : (chS 100 (nI 7)).toInt = 33 := by decide +kernel
theorem ch_100_8 : (chS 100 (nI 8)).toInt = 110 := by decide +kernel
theorem ch_100_9 : (chS 100 (nI 9)).toInt = 100 := by decide +kernel
theorem ch_100_10 : (chS 100 (nI 10)).toInt = 112 := by decide +kernel
theorem ch_100_11 : (chS 100 (nI 11)).toInt = 119 := by decide +kernel
theorem ch_100_12 : (chS 100 (nI 12)).toInt = 105 := by decide +kernel
theorem ch_100_13 : (chS 100 (nI 13)).toInt = 111 := by decide +kernel
theorem ch_100_14 : (chS 100 (nI 14)).toInt = 116 := by decide +kernel
theorem ch_100_15 : (chS 100 (nI 15)).toInt = 114 := by decide +kernel

theorem ch_101 : ∀ j, j < 5 → ((chS 101 (nI j)).toInt = 107 ∨ (chS 101 (nI j)).toInt = 108 ∨ (chS 101 (nI j)).toInt = 115 ∨ (chS 101 (nI j)).toInt = 103 ∨ (chS 101 (nI j)).toInt = 122) := by decide +kernel
theorem ch_101_0 : (chS 101 (nI 0)).toInt = 107 := by decide +kernel
theorem ch_101_1 : (chS 101 (nI 1)).toInt = 108 := by decide +kernel
theorem ch_101_2 : (chS 101 (nI 2)).toInt = 115 := by decide +kernel
theorem ch_101_3 : (chS 101 (nI 3)).toInt = 103 := by decide +kernel
theorem ch_101_4 : (chS 101 (nI 4)).toInt = 122 := by decide +kernel

theorem ch_102 : ∀ j, j < 8 → ((chS 102 (nI j)).toInt = 43 ∨ (chS 102 (nI j)).toInt = 45 ∨ (chS 102 (nI j)).toInt = 42 ∨ (chS 102 (nI j)).toInt = 47 ∨ (chS 102 (nI j)).toInt = 37 ∨ (chS 102 (nI j)).toInt = 60 ∨ (chS 102 (nI j)).toInt = 61 ∨ (chS 102 (nI j)).toInt = 119) := by decide +kernel
theorem ch_102_0 : (chS 102 (nI 0)).toInt = 43 := by decide +kernel
theorem ch_102_1 : (chS 102 (nI 1)).toInt = 45 := by decide +kernel
theorem ch_102_2 : (chS 102 (nI 2)).toInt = 42 := by decide +kernel
theorem ch_102_3 : (chS 102 (nI 3)).toInt = 47 := by decide +kernel
theorem ch_102_4 : (chS 102 (nI 4)).toInt = 37 := by decide +kernel
theorem ch_102_5 : (chS 102 (nI 5)).toInt = 60 := by decide +kernel
theorem ch_102_6 : (chS 102 (nI 6)).toInt = 61 := by decide +kernel
theorem ch_102_7 : (chS 102 (nI 7)).toInt = 119 := by decide +kernel

theorem ch_103 : ∀ j, j < 8 → ((chS 103 (nI j)).toInt = 33 ∨ (chS 103 (nI j)).toInt = 110 ∨ (chS 103 (nI j)).toInt = 100 ∨ (chS 103 (nI j)).toInt = 112 ∨ (chS 103 (nI j)).toInt = 115 ∨ (chS 103 (nI j)).toInt = 122 ∨ (chS 103 (nI j)).toInt = 111 ∨ (chS 103 (nI j)).toInt = 116) := by decide +kernel
theorem ch_103_0 : (chS 103 (nI 0)).toInt = 33 := by decide +kernel
theorem ch_103_1 : (chS 103 (nI 1)).toInt = 110 := by decide +kernel
theorem ch_103_2 : (chS 103 (nI 2)).toInt = 100 := by decide +kernel
theorem ch_103_3 : (chS 103 (nI 3)).toInt = 112 := by decide +kernel
theorem ch_103_4 : (chS 103 (nI 4)).toInt = 115 := by decide +kernel
theorem ch_103_5 : (chS 103 (nI 5)).toInt = 122 := by decide +kernel
theorem ch_103_6 : (chS 103 (nI 6)).toInt = 111 := by decide +kernel
theorem ch_103_7 : (chS 103 (nI 7)).toInt = 116 := by decide +kernel

theorem ch_104 : ∀ j, j < 12 → ((chS 104 (nI j)).toInt = 107 ∨ (chS 104 (nI j)).toInt = 108 ∨ (chS 104 (nI j)).toInt = 43 ∨ (chS 104 (nI j)).toInt = 45 ∨ (chS 104 (nI j)).toInt = 42 ∨ (chS 104 (nI j)).toInt = 47 ∨ (chS 104 (nI j)).toInt = 37 ∨ (chS 104 (nI j)).toInt = 60 ∨ (chS 104 (nI j)).toInt = 61 ∨ (chS 104 (nI j)).toInt = 33 ∨ (chS 104 (nI j)).toInt = 110 ∨ (chS 104 (nI j)).toInt = 105) := by decide +kernel
theorem ch_104_0 : (chS 104 (nI 0)).toInt = 107 := by decide +kernel
theorem ch_104_1 : (chS 104 (nI 1)).toInt = 108 := by decide +kernel
theorem ch_104_2 : (chS 104 (nI 2)).toInt = 43 := by decide +kernel
theorem ch_104_3 : (chS 104 (nI 3)).toInt = 45 := by decide +kernel
theorem ch_104_4 : (chS 104 (nI 4)).toInt = 42 := by decide +kernel
theorem ch_104_5 : (chS 104 (nI 5)).toInt = 47 := by decide +kernel
theorem ch_104_6 : (chS 104 (nI 6)).toInt = 37 := by decide +kernel
theorem ch_104_7 : (chS 104 (nI 7)).toInt = 60 := by decide +kernel
theorem ch_104_8 : (chS 104 (nI 8)).toInt = 61 := by decide +kernel
theorem ch_104_9 : (chS 104 (nI 9)).toInt = 33 := by decide +kernel
theorem ch_104_10 : (chS 104 (nI 10)).toInt = 110 := by decide +kernel
theorem ch_104_11 : (chS 104 (nI 11)).toInt = 105 := by decide +kernel

theorem ch_105 : ∀ j, j < 3 → ((chS 105 (nI j)).toInt = 47 ∨ (chS 105 (nI j)).toInt = 37 ∨ (chS 105 (nI j)).toInt = 116) := by decide +kernel
theorem ch_105_0 : (chS 105 (nI 0)).toInt = 47 := by decide +kernel
theorem ch_105_1 : (chS 105 (nI 1)).toInt = 37 := by decide +kernel
theorem ch_105_2 : (chS 105 (nI 2)).toInt = 116 := by decide +kernel

theorem ch_106 : ∀ j, j < 3 → ((chS 106 (nI j)).toInt = 103 ∨ (chS 106 (nI j)).toInt = 116 ∨ (chS 106 (nI j)).toInt = 114) := by decide +kernel
theorem ch_106_0 : (chS 106 (nI 0)).toInt = 103 := by decide +kernel
theorem ch_106_1 : (chS 106 (nI 1)).toInt = 116 := by decide +kernel
theorem ch_106_2 : (chS 106 (nI 2)).toInt = 114 := by decide +kernel

theorem ch_107 : ∀ j, j < 4 → ((chS 107 (nI j)).toInt = 103 ∨ (chS 107 (nI j)).toInt = 122 ∨ (chS 107 (nI j)).toInt = 116 ∨ (chS 107 (nI j)).toInt = 114) := by decide +kernel
theorem ch_107_0 : (chS 107 (nI 0)).toInt = 103 := by decide +kernel
theorem ch_107_1 : (chS 107 (nI 1)).toInt = 122 := by decide +kernel
theorem ch_107_2 : (chS 107 (nI 2)).toInt = 116 := by decide +kernel
theorem ch_107_3 : (chS 107 (nI 3)).toInt = 114 := by decide +kernel

theorem ch_108 : ∀ j, j < 7 → ((chS 108 (nI j)).toInt = 43 ∨ (chS 108 (nI j)).toInt = 45 ∨ (chS 108 (nI j)).toInt = 42 ∨ (chS 108 (nI j)).toInt = 47 ∨ (chS 108 (nI j)).toInt = 37 ∨ (chS 108 (nI j)).toInt = 60 ∨ (chS 108 (nI j)).toInt = 61) := by decide +kernel
theorem ch_108_0 : (chS 108 (nI 0)).toInt = 43 := by decide +kernel
theorem ch_108_1 : (chS 108 (nI 1)).toInt = 45 := by decide +kernel
theorem ch_108_2 : (chS 108 (nI 2)).toInt = 42 := by decide +kernel
theorem ch_108_3 : (chS 108 (nI 3)).toInt = 47 := by decide +kernel
theorem ch_108_4 : (chS 108 (nI 4)).toInt = 37 := by decide +kernel
theorem ch_108_5 : (chS 108 (nI 5)).toInt = 60 := by decide +kernel
theorem ch_108_6 : (chS 108 (nI 6)).toInt = 61 := by decide +kernel

theorem ch_109 : ∀ j, j < 2 → ((chS 109 (nI j)).toInt = 116 ∨ (chS 109 (nI j)).toInt = 114) := by decide +kernel
theorem ch_109_0 : (chS 109 (nI 0)).toInt = 116 := by decide +kernel
theorem ch_109_1 : (chS 109 (nI 1)).toInt = 114 := by decide +kernel

/-- how many bytes of a number are not 0 -/
def nzB (w : Int32) (j : Nat) : Int := if ((w >>> (((8 : Int32) * nI j) &&& 31)) &&& 255).toInt = 0 then 0 else 1
def cB (w : Int32) (n : Nat) : Int := fb_si (nzB w) n
theorem cB_s (w : Int32) (n : Nat) : cB w (n + 1) = cB w n + nzB w n := rfl
theorem nz_01 (w : Int32) (j : Nat) : 0 ≤ nzB w j ∧ nzB w j ≤ 1 := by unfold nzB; split <;> omega
theorem cB_le (w : Int32) (n : Nat) : 0 ≤ cB w n ∧ cB w n ≤ n := by
  induction n with
  | zero => exact ⟨Int.le_refl _, Int.le_refl _⟩
  | succ n ih => rw [cB_s]; have := nz_01 w n; omega
theorem sh_24 : (24 : Int32) = (8 : Int32) * nI 3 := by decide +kernel
theorem sh_16 : (16 : Int32) = (8 : Int32) * nI 2 := by decide +kernel
theorem sh_8 : (8 : Int32) = (8 : Int32) * nI 1 := by decide +kernel
theorem sh_0 : (0 : Int32) = (8 : Int32) * nI 0 := by decide +kernel
theorem nI_id {x : Int32} (h : 0 ≤ x.toInt) : x = nI x.toNatClampNeg := by
  refine Int32.toInt_inj.mp ?_
  have := clamp_I h
  have r := tI_rng x
  rw [nI_toInt (n := x.toNatClampNeg) (by omega)]; omega
theorem br_sh {x : Int32} {j : Nat} (h : x.toInt = 8 * (j : Int)) (hj : j < 4) : x = (8 : Int32) * nI j := by
  refine Int32.toInt_inj.mp ?_
  have : j = 0 ∨ j = 1 ∨ j = 2 ∨ j = 3 := by omega
  rcases this with q | q | q | q <;> subst q <;> rw [h] <;> decide +kernel

def h3 (r : Nat → Int32) (j : Nat) : Nat → Int32 := fun h => r (3 * h + j)
/-- how far a handler has been read -/
def HLq (n : Nat) (c : Nat → Int) (a : Nat) (k : Int) (t : Nat) (p q r : Int) : Prop := (k = 0 ∧ t = a + 1) ∨ (k = 1 ∧ p ≠ -1 ∧ (p, t) = rdN n c 40 a) ∨ (k = 2 ∧ ∃ b, p ≠ -1 ∧ (p, b) = rdN n c 40 a ∧ isC n c (skP n c b) ∧ q ≠ -1 ∧ (q, t) = rdN n c 40 (skP n c b)) ∨ (k = 3 ∧ (1, t, p, q, r) = haP n c a)
def HJq (n : Nat) (c : Nat → Int) (a : Nat) (k : Int) (t u : Nat) : Prop := (k = 0 ∧ u = a + 1) ∨ (1 ≤ k ∧ u = skP n c t + 1 ∧ isC n c (skP n c t))
theorem HLq.com {n a t : Nat} {c : Nat → Int} {k p q r : Int} (h : HLq n c a k t p q r) (hk : 1 ≤ k) (hk2 : k ≤ 2) (hc : ¬ isC n c (skP n c t)) : (0, skP n c t, 0, 0, 0) = haP n c a := by
  rcases h with ⟨e, -⟩ | ⟨e, h1, h2⟩ | ⟨e, b, h1, h2, h3, h4, h5⟩ | ⟨e, -⟩
  · omega
  · exact ha_2 h2 h1 rfl hc
  · exact ha_4 h2 h1 rfl h3 h5 h4 rfl hc
  · omega
theorem HLq.bad {n a t u b2 : Nat} {c : Nat → Int} {k p q r : Int} (h : HLq n c a k t p q r) (hj : HJq n c a k t u) (hk2 : k ≤ 2) (hv : (-1, b2) = nuQ n c 40 (-1) (skP n c u)) : (0, b2, 0, 0, 0) = haP n c a := by
  rcases h with ⟨e, -⟩ | ⟨e, h1, h2⟩ | ⟨e, b, h1, h2, h3, h4, h5⟩ | ⟨e, -⟩
  · rcases hj with ⟨-, e2⟩ | ⟨e2, -⟩
    · subst e2; exact ha_1 hv
    · omega
  · rcases hj with ⟨e2, -⟩ | ⟨-, e2, e3⟩
    · omega
    · subst e2; exact ha_3 h2 h1 rfl e3 hv
  · rcases hj with ⟨e2, -⟩ | ⟨-, e2, e3⟩
    · omega
    · subst e2; exact ha_5 h2 h1 rfl h3 h5 h4 rfl e3 hv
  · omega
theorem HLq.nx {n a t u b2 : Nat} {c : Nat → Int} {k p q r v p2 q2 r2 : Int} (h : HLq n c a k t p q r) (hj : HJq n c a k t u) (hk2 : k ≤ 2) (hv : (v, b2) = nuQ n c 40 (-1) (skP n c u)) (hv1 : v ≠ -1) (hp : k = 0 → p2 = v) (hp1 : k ≠ 0 → p2 = p) (hq : k = 1 → q2 = v) (hq1 : k = 2 → q2 = q) (hr : k = 2 → r2 = v) : HLq n c a (k + 1) b2 p2 q2 r2 := by
  rcases h with ⟨e, -⟩ | ⟨e, h1, h2⟩ | ⟨e, b, h1, h2, h3, h4, h5⟩ | ⟨e, -⟩
  · rcases hj with ⟨-, e2⟩ | ⟨e2, -⟩
    · subst e2; rw [hp e]; exact Or.inr (Or.inl ⟨by omega, hv1, hv⟩)
    · omega
  · rcases hj with ⟨e2, -⟩ | ⟨-, e2, e3⟩
    · omega
    · subst e2; rw [hp1 (by omega), hq e]; exact Or.inr (Or.inr (Or.inl ⟨by omega, t, h1, h2, e3, hv1, hv⟩))
  · rcases hj with ⟨e2, -⟩ | ⟨-, e2, e3⟩
    · omega
    · subst e2; rw [hp1 (by omega), hq1 e, hr e]; exact Or.inr (Or.inr (Or.inr ⟨by omega, ha_6 h2 h1 rfl h3 h5 h4 rfl e3 hv hv1⟩))
  · omega

theorem mk0_h3 {n j : Nat} {r s : Nat → Int32} {v : Int} (hj : j < 3) (h : ∀ i, i < 3 * n → s i = r i) (hv : (s (3 * n + j)).toInt = v) : mk0 (n + 1) (h3 s j) = upI (mk0 n (h3 r j)) n v := by
  funext i
  unfold mk0 upI h3
  (try dsimp only)
  by_cases q : i = n
  · subst q; rw [if_pos (by omega), if_pos rfl]; exact hv
  · rw [if_neg q]
    by_cases q2 : i < n
    · rw [if_pos (by omega), if_pos q2, h _ (by omega)]
    · rw [if_neg (by omega), if_neg q2]

def VG (g m : Int) : Prop := (g = 108 ∨ g = 115 → m ≤ 5) ∧ (g = 103 ∨ g = 122 → m ≤ 39) ∧ (bareI g ∨ g = 107 ∨ g = 108 ∨ g = 115 ∨ g = 103 ∨ g = 122)
def J1q (n : Nat) (c : Nat → Int) (a : Nat) (g v : Int) (t : Nat) : Prop := (g = 107 → (v, t) = rdN n c 999 a) ∧ (g ≠ 107 → v = 0 ∧ t = a + 1)
def J2q (n : Nat) (c : Nat → Int) (a : Nat) (g v : Int) (t : Nat) : Prop := (g = 107 → (v, t) = rdN n c 999 a) ∧ (g = 108 ∨ g = 115 → (v, t) = rdL n c a ∧ v ≤ 5) ∧ (g ≠ 107 → g ≠ 108 → g ≠ 115 → v = 0 ∧ t = a + 1)
theorem J2q.a {n a t : Nat} {c : Nat → Int} {g v : Int} (h : J1q n c a g v t) (h1 : g ≠ 108) (h2 : g ≠ 115) : J2q n c a g v t := ⟨h.1, fun q => by omega, fun q _ _ => h.2 q⟩
theorem J2q.b {n a t : Nat} {c : Nat → Int} {g v : Int} (h : (v, t) = rdL n c a) (h5 : v ≤ 5) (hg : g = 108 ∨ g = 115) : J2q n c a g v t := ⟨fun q => by omega, fun _ => ⟨h, h5⟩, fun _ q1 q2 => by omega⟩
theorem J2q.in_ {n a t : Nat} {c : Nat → Int} {g v : Int} (h : J2q n c a g v t) (hg : g = c a) (h1 : g ≠ 103) (h2 : g ≠ 122) (hk : bareI g ∨ g = 107 ∨ g = 108 ∨ g = 115 ∨ g = 103 ∨ g = 122) : (v, t) = inP n c a := by
  by_cases q1 : g = 107
  · rw [h.1 q1]; exact in_k (by omega) (by omega)
  · by_cases q2 : g = 108 ∨ g = 115
    · rw [(h.2.1 q2).1]; exact in_l (by omega) (by omega)
    · have q := h.2.2 q1 (by omega) (by omega)
      rw [q.1, q.2]; exact in_b (by omega)
theorem J2q.vg {n a t : Nat} {c : Nat → Int} {g v : Int} (h : J2q n c a g v t) (h1 : g ≠ 103) (h2 : g ≠ 122) (hk : bareI g ∨ g = 107 ∨ g = 108 ∨ g = 115 ∨ g = 103 ∨ g = 122) : VG g v := ⟨fun q => (h.2.1 q).2, fun q => by omega, hk⟩
def DRr (r4 : Nat → Int32) (r5 : Nat → Int32) (r7 : Nat → Int32)  : Prop := ∀ i : Nat, (i : Int) < (r7 0).toInt → VG (r4 i).toInt (r5 i).toInt
def DR (σ : Sto) : Prop := DRr (σ.1 4) (σ.1 5) (σ.1 7)
theorem DR.st1 {σ : Sto} {k i : Nat} {v : Int32} (hk : k ∉ ([4, 5, 7] : List Nat)) (h : DR σ) : DR (sti σ k i v) := by
  unfold DR at h ⊢
  have e4 : (sti σ k i v).1 4 = σ.1 4 := if_neg (fun e => hk (by rw [← e]; decide))
  have e5 : (sti σ k i v).1 5 = σ.1 5 := if_neg (fun e => hk (by rw [← e]; decide))
  have e7 : (sti σ k i v).1 7 = σ.1 7 := if_neg (fun e => hk (by rw [← e]; decide))
  rw [e4, e5, e7]
  exact h
theorem DR.st3 {σ : Sto} {k : Nat} {f : Nat → Int32} (hk : k ∉ ([4, 5, 7] : List Nat)) (h : DR σ) : DR (stc σ k f) := by
  unfold DR at h ⊢
  have e4 : (stc σ k f).1 4 = σ.1 4 := if_neg (fun e => hk (by rw [← e]; decide))
  have e5 : (stc σ k f).1 5 = σ.1 5 := if_neg (fun e => hk (by rw [← e]; decide))
  have e7 : (stc σ k f).1 7 = σ.1 7 := if_neg (fun e => hk (by rw [← e]; decide))
  rw [e4, e5, e7]
  exact h
theorem DR.st2 {σ : Sto} {k i : Nat} {v : Int64} (hk : k ∉ ([] : List Nat)) (h : DR σ) : DR (stl σ k i v) := by
  unfold DR at h ⊢
  exact h
theorem DR.fr {ms ml : List Nat} {σ s : Sto} (hG : FR ms ml σ s) (hd : ([4, 5, 7] : List Nat).all (fun k => !ms.contains k) && ([] : List Nat).all (fun k => !ml.contains k) = true) (h : DR σ) : DR s := by
  unfold DR at h ⊢
  simp only [Bool.and_eq_true, List.all_eq_true, decide_eq_true_eq] at hd
  have e4 : s.1 4 = σ.1 4 := hG.1 4 (fun z => by have := hd.1 4 (by decide); simp [z] at this)
  have e5 : s.1 5 = σ.1 5 := hG.1 5 (fun z => by have := hd.1 5 (by decide); simp [z] at this)
  have e7 : s.1 7 = σ.1 7 := hG.1 7 (fun z => by have := hd.1 7 (by decide); simp [z] at this)
  rw [e4, e5, e7]
  exact h

theorem hsL_tp : ∀ k, k < 64 → (((nI k).toInt64 &&& 63 : Int64).toBitVec.smod 64#64) = BitVec.ofNat 64 k := by decide +kernel
theorem hsL {x : Int64} {v : Int32} (h0 : 0 ≤ v.toInt) (h1 : v.toInt < 64) : ((x >>> (v.toInt64 &&& 63)) &&& 1) = 1 ↔ bL x v.toNatClampNeg = true := by
  have k0 : (0 : Int32).toInt = 0 := by decide
  obtain ⟨a, ha, rfl⟩ := nI_of (x := v) (by rw [fa_lt]; omega)
  have e : (nI a).toNatClampNeg = a := by have := clamp_I h0; rw [nI_toInt ha] at this; omega
  rw [nI_toInt ha] at h1
  rw [e]
  have e2 : (x >>> ((nI a).toInt64 &&& 63)).toBitVec = x.toBitVec.sshiftRight a := by
    rw [Int64.toBitVec_shiftRight]
    show x.toBitVec.sshiftRight (((nI a).toInt64 &&& 63 : Int64).toBitVec.smod 64#64).toNat = _
    rw [hsL_tp a (by omega), BitVec.toNat_ofNat, Nat.mod_eq_of_lt (by omega)]
  rw [← Int64.toBitVec_inj, Int64.toBitVec_and, e2]
  show x.toBitVec.sshiftRight a &&& 1#64 = 1#64 ↔ x.toBitVec.getLsbD a = true
  have z : (x.toBitVec.sshiftRight a).getLsbD 0 = x.toBitVec.getLsbD a := by
    rw [BitVec.getLsbD_sshiftRight, if_pos (by omega), Nat.add_zero]
    simp
  constructor
  · intro h
    have t := congrArg (fun x => x.getLsbD 0) h
    simp only [BitVec.getLsbD_and, z] at t
    simpa using t
  · intro h
    apply BitVec.eq_of_getLsbD_eq
    intro i hi
    rw [BitVec.getLsbD_and]
    by_cases q : i = 0
    · subst q; rw [z, h]; rfl
    · have q1 : (1#64).getLsbD i = false := by rw [BitVec.getLsbD_one]; simp [q]
      rw [q1, Bool.and_false]
theorem has_t {x : Int64} {v : Int32} (c : ((x >>> (v.toInt64 &&& 63)) &&& 1) = 1) : 0 ≤ v.toInt → v.toInt < 64 → ((1 : Int) = 1 ↔ bL x v.toNatClampNeg = true) := fun h0 h1 => by rw [(hsL h0 h1).mp c]; simp
theorem has_f {x : Int64} {v : Int32} (c : ¬ ((x >>> (v.toInt64 &&& 63)) &&& 1) = 1) : 0 ≤ v.toInt → v.toInt < 64 → ((0 : Int) = 1 ↔ bL x v.toNatClampNeg = true) := fun h0 h1 => by
  have : bL x v.toNatClampNeg = false := by
    cases h : bL x v.toNatClampNeg
    · rfl
    · exact absurd ((hsL h0 h1).mpr h) c
  simp [this]

