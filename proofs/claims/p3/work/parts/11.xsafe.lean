def loX (k : Nat) : Int := ([0, -128, 0, 0, 0, 0, 0, 0, -1, 0, 0, 0, 0, 0, 0, 0, -1, 0, 0, 0, 0, 0, 0, -1, -1, -1, -1, 0, 0, 0, 0, 0, 0, 0, 0, 0, 0, 0, 0, 0, 0, -1, 0, 0, 0, 0, 0, 0, 0, 0, -2147483648, -2147483648, 0, 0, -1, -1, 0, -1, 0, 0, 0, 0, 0, 0, 0, 0, -2147483648, -2147483648, 0, 0, 0, -2147483648, -1, 0, 0, 0, 0, -2147483648, -2147483648, -2147483648, -2147483648, 0, -2147483648, -2147483648, 0, -2147483648, 0, -2147483648, -2147483648, -2147483648, -2147483648, -2147483648, -2147483648, 0, -2147483648] : List Int).getD k (-2147483648)
def hiX (k : Nat) : Int := ([1, 127, 240, 240, 40, 3, 255, 999, 6, 40, 40, 40, 40, 3, 255, 999, 6, 40, 40, 40, 40, 39, 39, 39, 39, 39, 39, 120, 120, 39, 39, 1, 6, 1, 1, 1, 2, 1, 1, 39, 39, 39, 39, 120, 119, 120, 512, 255, 999, 511, 2147483647, 2147483647, 320, 6, 160, 511, 320, 511, 160, 512, 511, 8, 1, 1, 1, 1, 2147483647, 2147483647, 800, 12, 39, 2147483647, 799, 799, 799, 799, 799, 2147483647, 2147483647, 2147483647, 2147483647, 8, 2147483647, 2147483647, 1, 2147483647, 2, 2147483647, 2147483647, 2147483647, 2147483647, 2147483647, 2147483647, 1399, 2147483647] : List Int).getD k 2147483647
abbrev BX (σ : Sto) : Prop := BD loX hiX σ
theorem gX_0 {σ : Sto} (h : BX σ) (i : Nat) : 0 ≤ (σ.1 0 i).toInt ∧ (σ.1 0 i).toInt ≤ 1 := h 0 i
theorem pX_0 {σ : Sto} (h : BX σ) {i : Nat} {v : Int32} (hv : 0 ≤ v.toInt ∧ v.toInt ≤ 1) : BX (sti σ 0 i v) := BD.st h hv
theorem gX_1 {σ : Sto} (h : BX σ) (i : Nat) : (-128) ≤ (σ.1 1 i).toInt ∧ (σ.1 1 i).toInt ≤ 127 := h 1 i
theorem pX_1 {σ : Sto} (h : BX σ) {i : Nat} {v : Int32} (hv : (-128) ≤ v.toInt ∧ v.toInt ≤ 127) : BX (sti σ 1 i v) := BD.st h hv
theorem gX_2 {σ : Sto} (h : BX σ) (i : Nat) : 0 ≤ (σ.1 2 i).toInt ∧ (σ.1 2 i).toInt ≤ 240 := h 2 i
theorem pX_2 {σ : Sto} (h : BX σ) {i : Nat} {v : Int32} (hv : 0 ≤ v.toInt ∧ v.toInt ≤ 240) : BX (sti σ 2 i v) := BD.st h hv
theorem gX_3 {σ : Sto} (h : BX σ) (i : Nat) : 0 ≤ (σ.1 3 i).toInt ∧ (σ.1 3 i).toInt ≤ 240 := h 3 i
theorem pX_3 {σ : Sto} (h : BX σ) {i : Nat} {v : Int32} (hv : 0 ≤ v.toInt ∧ v.toInt ≤ 240) : BX (sti σ 3 i v) := BD.st h hv
theorem gX_4 {σ : Sto} (h : BX σ) (i : Nat) : 0 ≤ (σ.1 4 i).toInt ∧ (σ.1 4 i).toInt ≤ 40 := h 4 i
theorem pX_4 {σ : Sto} (h : BX σ) {i : Nat} {v : Int32} (hv : 0 ≤ v.toInt ∧ v.toInt ≤ 40) : BX (sti σ 4 i v) := BD.st h hv
theorem gX_5 {σ : Sto} (h : BX σ) (i : Nat) : 0 ≤ (σ.1 5 i).toInt ∧ (σ.1 5 i).toInt ≤ 3 := h 5 i
theorem pX_5 {σ : Sto} (h : BX σ) {i : Nat} {v : Int32} (hv : 0 ≤ v.toInt ∧ v.toInt ≤ 3) : BX (sti σ 5 i v) := BD.st h hv
theorem gX_6 {σ : Sto} (h : BX σ) (i : Nat) : 0 ≤ (σ.1 6 i).toInt ∧ (σ.1 6 i).toInt ≤ 255 := h 6 i
theorem pX_6 {σ : Sto} (h : BX σ) {i : Nat} {v : Int32} (hv : 0 ≤ v.toInt ∧ v.toInt ≤ 255) : BX (sti σ 6 i v) := BD.st h hv
theorem gX_7 {σ : Sto} (h : BX σ) (i : Nat) : 0 ≤ (σ.1 7 i).toInt ∧ (σ.1 7 i).toInt ≤ 999 := h 7 i
theorem pX_7 {σ : Sto} (h : BX σ) {i : Nat} {v : Int32} (hv : 0 ≤ v.toInt ∧ v.toInt ≤ 999) : BX (sti σ 7 i v) := BD.st h hv
theorem gX_8 {σ : Sto} (h : BX σ) (i : Nat) : (-1) ≤ (σ.1 8 i).toInt ∧ (σ.1 8 i).toInt ≤ 6 := h 8 i
theorem pX_8 {σ : Sto} (h : BX σ) {i : Nat} {v : Int32} (hv : (-1) ≤ v.toInt ∧ v.toInt ≤ 6) : BX (sti σ 8 i v) := BD.st h hv
theorem gX_9 {σ : Sto} (h : BX σ) (i : Nat) : 0 ≤ (σ.1 9 i).toInt ∧ (σ.1 9 i).toInt ≤ 40 := h 9 i
theorem pX_9 {σ : Sto} (h : BX σ) {i : Nat} {v : Int32} (hv : 0 ≤ v.toInt ∧ v.toInt ≤ 40) : BX (sti σ 9 i v) := BD.st h hv
theorem gX_10 {σ : Sto} (h : BX σ) (i : Nat) : 0 ≤ (σ.1 10 i).toInt ∧ (σ.1 10 i).toInt ≤ 40 := h 10 i
theorem pX_10 {σ : Sto} (h : BX σ) {i : Nat} {v : Int32} (hv : 0 ≤ v.toInt ∧ v.toInt ≤ 40) : BX (sti σ 10 i v) := BD.st h hv
theorem gX_11 {σ : Sto} (h : BX σ) (i : Nat) : 0 ≤ (σ.1 11 i).toInt ∧ (σ.1 11 i).toInt ≤ 40 := h 11 i
theorem pX_11 {σ : Sto} (h : BX σ) {i : Nat} {v : Int32} (hv : 0 ≤ v.toInt ∧ v.toInt ≤ 40) : BX (sti σ 11 i v) := BD.st h hv
theorem gX_12 {σ : Sto} (h : BX σ) (i : Nat) : 0 ≤ (σ.1 12 i).toInt ∧ (σ.1 12 i).toInt ≤ 40 := h 12 i
theorem pX_12 {σ : Sto} (h : BX σ) {i : Nat} {v : Int32} (hv : 0 ≤ v.toInt ∧ v.toInt ≤ 40) : BX (sti σ 12 i v) := BD.st h hv
theorem gX_13 {σ : Sto} (h : BX σ) (i : Nat) : 0 ≤ (σ.1 13 i).toInt ∧ (σ.1 13 i).toInt ≤ 3 := h 13 i
theorem pX_13 {σ : Sto} (h : BX σ) {i : Nat} {v : Int32} (hv : 0 ≤ v.toInt ∧ v.toInt ≤ 3) : BX (sti σ 13 i v) := BD.st h hv
theorem gX_14 {σ : Sto} (h : BX σ) (i : Nat) : 0 ≤ (σ.1 14 i).toInt ∧ (σ.1 14 i).toInt ≤ 255 := h 14 i
theorem pX_14 {σ : Sto} (h : BX σ) {i : Nat} {v : Int32} (hv : 0 ≤ v.toInt ∧ v.toInt ≤ 255) : BX (sti σ 14 i v) := BD.st h hv
theorem gX_15 {σ : Sto} (h : BX σ) (i : Nat) : 0 ≤ (σ.1 15 i).toInt ∧ (σ.1 15 i).toInt ≤ 999 := h 15 i
theorem pX_15 {σ : Sto} (h : BX σ) {i : Nat} {v : Int32} (hv : 0 ≤ v.toInt ∧ v.toInt ≤ 999) : BX (sti σ 15 i v) := BD.st h hv
theorem gX_16 {σ : Sto} (h : BX σ) (i : Nat) : (-1) ≤ (σ.1 16 i).toInt ∧ (σ.1 16 i).toInt ≤ 6 := h 16 i
theorem pX_16 {σ : Sto} (h : BX σ) {i : Nat} {v : Int32} (hv : (-1) ≤ v.toInt ∧ v.toInt ≤ 6) : BX (sti σ 16 i v) := BD.st h hv
theorem gX_17 {σ : Sto} (h : BX σ) (i : Nat) : 0 ≤ (σ.1 17 i).toInt ∧ (σ.1 17 i).toInt ≤ 40 := h 17 i
theorem pX_17 {σ : Sto} (h : BX σ) {i : Nat} {v : Int32} (hv : 0 ≤ v.toInt ∧ v.toInt ≤ 40) : BX (sti σ 17 i v) := BD.st h hv
theorem gX_18 {σ : Sto} (h : BX σ) (i : Nat) : 0 ≤ (σ.1 18 i).toInt ∧ (σ.1 18 i).toInt ≤ 40 := h 18 i
theorem pX_18 {σ : Sto} (h : BX σ) {i : Nat} {v : Int32} (hv : 0 ≤ v.toInt ∧ v.toInt ≤ 40) : BX (sti σ 18 i v) := BD.st h hv
theorem gX_19 {σ : Sto} (h : BX σ) (i : Nat) : 0 ≤ (σ.1 19 i).toInt ∧ (σ.1 19 i).toInt ≤ 40 := h 19 i
theorem pX_19 {σ : Sto} (h : BX σ) {i : Nat} {v : Int32} (hv : 0 ≤ v.toInt ∧ v.toInt ≤ 40) : BX (sti σ 19 i v) := BD.st h hv
theorem gX_20 {σ : Sto} (h : BX σ) (i : Nat) : 0 ≤ (σ.1 20 i).toInt ∧ (σ.1 20 i).toInt ≤ 40 := h 20 i
theorem pX_20 {σ : Sto} (h : BX σ) {i : Nat} {v : Int32} (hv : 0 ≤ v.toInt ∧ v.toInt ≤ 40) : BX (sti σ 20 i v) := BD.st h hv
theorem gX_21 {σ : Sto} (h : BX σ) (i : Nat) : 0 ≤ (σ.1 21 i).toInt ∧ (σ.1 21 i).toInt ≤ 39 := h 21 i
theorem pX_21 {σ : Sto} (h : BX σ) {i : Nat} {v : Int32} (hv : 0 ≤ v.toInt ∧ v.toInt ≤ 39) : BX (sti σ 21 i v) := BD.st h hv
theorem gX_22 {σ : Sto} (h : BX σ) (i : Nat) : 0 ≤ (σ.1 22 i).toInt ∧ (σ.1 22 i).toInt ≤ 39 := h 22 i
theorem pX_22 {σ : Sto} (h : BX σ) {i : Nat} {v : Int32} (hv : 0 ≤ v.toInt ∧ v.toInt ≤ 39) : BX (sti σ 22 i v) := BD.st h hv
theorem gX_23 {σ : Sto} (h : BX σ) (i : Nat) : (-1) ≤ (σ.1 23 i).toInt ∧ (σ.1 23 i).toInt ≤ 39 := h 23 i
theorem pX_23 {σ : Sto} (h : BX σ) {i : Nat} {v : Int32} (hv : (-1) ≤ v.toInt ∧ v.toInt ≤ 39) : BX (sti σ 23 i v) := BD.st h hv
theorem gX_24 {σ : Sto} (h : BX σ) (i : Nat) : (-1) ≤ (σ.1 24 i).toInt ∧ (σ.1 24 i).toInt ≤ 39 := h 24 i
theorem pX_24 {σ : Sto} (h : BX σ) {i : Nat} {v : Int32} (hv : (-1) ≤ v.toInt ∧ v.toInt ≤ 39) : BX (sti σ 24 i v) := BD.st h hv
theorem gX_25 {σ : Sto} (h : BX σ) (i : Nat) : (-1) ≤ (σ.1 25 i).toInt ∧ (σ.1 25 i).toInt ≤ 39 := h 25 i
theorem pX_25 {σ : Sto} (h : BX σ) {i : Nat} {v : Int32} (hv : (-1) ≤ v.toInt ∧ v.toInt ≤ 39) : BX (sti σ 25 i v) := BD.st h hv
theorem gX_26 {σ : Sto} (h : BX σ) (i : Nat) : (-1) ≤ (σ.1 26 i).toInt ∧ (σ.1 26 i).toInt ≤ 39 := h 26 i
theorem pX_26 {σ : Sto} (h : BX σ) {i : Nat} {v : Int32} (hv : (-1) ≤ v.toInt ∧ v.toInt ≤ 39) : BX (sti σ 26 i v) := BD.st h hv
theorem gX_27 {σ : Sto} (h : BX σ) (i : Nat) : 0 ≤ (σ.1 27 i).toInt ∧ (σ.1 27 i).toInt ≤ 120 := h 27 i
theorem pX_27 {σ : Sto} (h : BX σ) {i : Nat} {v : Int32} (hv : 0 ≤ v.toInt ∧ v.toInt ≤ 120) : BX (sti σ 27 i v) := BD.st h hv
theorem gX_28 {σ : Sto} (h : BX σ) (i : Nat) : 0 ≤ (σ.1 28 i).toInt ∧ (σ.1 28 i).toInt ≤ 120 := h 28 i
theorem pX_28 {σ : Sto} (h : BX σ) {i : Nat} {v : Int32} (hv : 0 ≤ v.toInt ∧ v.toInt ≤ 120) : BX (sti σ 28 i v) := BD.st h hv
theorem gX_29 {σ : Sto} (h : BX σ) (i : Nat) : 0 ≤ (σ.1 29 i).toInt ∧ (σ.1 29 i).toInt ≤ 39 := h 29 i
theorem pX_29 {σ : Sto} (h : BX σ) {i : Nat} {v : Int32} (hv : 0 ≤ v.toInt ∧ v.toInt ≤ 39) : BX (sti σ 29 i v) := BD.st h hv
theorem gX_30 {σ : Sto} (h : BX σ) (i : Nat) : 0 ≤ (σ.1 30 i).toInt ∧ (σ.1 30 i).toInt ≤ 39 := h 30 i
theorem pX_30 {σ : Sto} (h : BX σ) {i : Nat} {v : Int32} (hv : 0 ≤ v.toInt ∧ v.toInt ≤ 39) : BX (sti σ 30 i v) := BD.st h hv
theorem gX_31 {σ : Sto} (h : BX σ) (i : Nat) : 0 ≤ (σ.1 31 i).toInt ∧ (σ.1 31 i).toInt ≤ 1 := h 31 i
theorem pX_31 {σ : Sto} (h : BX σ) {i : Nat} {v : Int32} (hv : 0 ≤ v.toInt ∧ v.toInt ≤ 1) : BX (sti σ 31 i v) := BD.st h hv
theorem gX_32 {σ : Sto} (h : BX σ) (i : Nat) : 0 ≤ (σ.1 32 i).toInt ∧ (σ.1 32 i).toInt ≤ 6 := h 32 i
theorem pX_32 {σ : Sto} (h : BX σ) {i : Nat} {v : Int32} (hv : 0 ≤ v.toInt ∧ v.toInt ≤ 6) : BX (sti σ 32 i v) := BD.st h hv
theorem gX_33 {σ : Sto} (h : BX σ) (i : Nat) : 0 ≤ (σ.1 33 i).toInt ∧ (σ.1 33 i).toInt ≤ 1 := h 33 i
theorem pX_33 {σ : Sto} (h : BX σ) {i : Nat} {v : Int32} (hv : 0 ≤ v.toInt ∧ v.toInt ≤ 1) : BX (sti σ 33 i v) := BD.st h hv
theorem gX_34 {σ : Sto} (h : BX σ) (i : Nat) : 0 ≤ (σ.1 34 i).toInt ∧ (σ.1 34 i).toInt ≤ 1 := h 34 i
theorem pX_34 {σ : Sto} (h : BX σ) {i : Nat} {v : Int32} (hv : 0 ≤ v.toInt ∧ v.toInt ≤ 1) : BX (sti σ 34 i v) := BD.st h hv
theorem gX_35 {σ : Sto} (h : BX σ) (i : Nat) : 0 ≤ (σ.1 35 i).toInt ∧ (σ.1 35 i).toInt ≤ 1 := h 35 i
theorem pX_35 {σ : Sto} (h : BX σ) {i : Nat} {v : Int32} (hv : 0 ≤ v.toInt ∧ v.toInt ≤ 1) : BX (sti σ 35 i v) := BD.st h hv
theorem gX_36 {σ : Sto} (h : BX σ) (i : Nat) : 0 ≤ (σ.1 36 i).toInt ∧ (σ.1 36 i).toInt ≤ 2 := h 36 i
theorem pX_36 {σ : Sto} (h : BX σ) {i : Nat} {v : Int32} (hv : 0 ≤ v.toInt ∧ v.toInt ≤ 2) : BX (sti σ 36 i v) := BD.st h hv
theorem gX_37 {σ : Sto} (h : BX σ) (i : Nat) : 0 ≤ (σ.1 37 i).toInt ∧ (σ.1 37 i).toInt ≤ 1 := h 37 i
theorem pX_37 {σ : Sto} (h : BX σ) {i : Nat} {v : Int32} (hv : 0 ≤ v.toInt ∧ v.toInt ≤ 1) : BX (sti σ 37 i v) := BD.st h hv
theorem gX_38 {σ : Sto} (h : BX σ) (i : Nat) : 0 ≤ (σ.1 38 i).toInt ∧ (σ.1 38 i).toInt ≤ 1 := h 38 i
theorem pX_38 {σ : Sto} (h : BX σ) {i : Nat} {v : Int32} (hv : 0 ≤ v.toInt ∧ v.toInt ≤ 1) : BX (sti σ 38 i v) := BD.st h hv
theorem gX_39 {σ : Sto} (h : BX σ) (i : Nat) : 0 ≤ (σ.1 39 i).toInt ∧ (σ.1 39 i).toInt ≤ 39 := h 39 i
theorem pX_39 {σ : Sto} (h : BX σ) {i : Nat} {v : Int32} (hv : 0 ≤ v.toInt ∧ v.toInt ≤ 39) : BX (sti σ 39 i v) := BD.st h hv
theorem gX_40 {σ : Sto} (h : BX σ) (i : Nat) : 0 ≤ (σ.1 40 i).toInt ∧ (σ.1 40 i).toInt ≤ 39 := h 40 i
theorem pX_40 {σ : Sto} (h : BX σ) {i : Nat} {v : Int32} (hv : 0 ≤ v.toInt ∧ v.toInt ≤ 39) : BX (sti σ 40 i v) := BD.st h hv
theorem gX_41 {σ : Sto} (h : BX σ) (i : Nat) : (-1) ≤ (σ.1 41 i).toInt ∧ (σ.1 41 i).toInt ≤ 39 := h 41 i
theorem pX_41 {σ : Sto} (h : BX σ) {i : Nat} {v : Int32} (hv : (-1) ≤ v.toInt ∧ v.toInt ≤ 39) : BX (sti σ 41 i v) := BD.st h hv
theorem gX_42 {σ : Sto} (h : BX σ) (i : Nat) : 0 ≤ (σ.1 42 i).toInt ∧ (σ.1 42 i).toInt ≤ 39 := h 42 i
theorem pX_42 {σ : Sto} (h : BX σ) {i : Nat} {v : Int32} (hv : 0 ≤ v.toInt ∧ v.toInt ≤ 39) : BX (sti σ 42 i v) := BD.st h hv
theorem gX_43 {σ : Sto} (h : BX σ) (i : Nat) : 0 ≤ (σ.1 43 i).toInt ∧ (σ.1 43 i).toInt ≤ 120 := h 43 i
theorem pX_43 {σ : Sto} (h : BX σ) {i : Nat} {v : Int32} (hv : 0 ≤ v.toInt ∧ v.toInt ≤ 120) : BX (sti σ 43 i v) := BD.st h hv
theorem gX_44 {σ : Sto} (h : BX σ) (i : Nat) : 0 ≤ (σ.1 44 i).toInt ∧ (σ.1 44 i).toInt ≤ 119 := h 44 i
theorem pX_44 {σ : Sto} (h : BX σ) {i : Nat} {v : Int32} (hv : 0 ≤ v.toInt ∧ v.toInt ≤ 119) : BX (sti σ 44 i v) := BD.st h hv
theorem gX_45 {σ : Sto} (h : BX σ) (i : Nat) : 0 ≤ (σ.1 45 i).toInt ∧ (σ.1 45 i).toInt ≤ 120 := h 45 i
theorem pX_45 {σ : Sto} (h : BX σ) {i : Nat} {v : Int32} (hv : 0 ≤ v.toInt ∧ v.toInt ≤ 120) : BX (sti σ 45 i v) := BD.st h hv
theorem gX_46 {σ : Sto} (h : BX σ) (i : Nat) : 0 ≤ (σ.1 46 i).toInt ∧ (σ.1 46 i).toInt ≤ 512 := h 46 i
theorem pX_46 {σ : Sto} (h : BX σ) {i : Nat} {v : Int32} (hv : 0 ≤ v.toInt ∧ v.toInt ≤ 512) : BX (sti σ 46 i v) := BD.st h hv
theorem gX_47 {σ : Sto} (h : BX σ) (i : Nat) : 0 ≤ (σ.1 47 i).toInt ∧ (σ.1 47 i).toInt ≤ 255 := h 47 i
theorem pX_47 {σ : Sto} (h : BX σ) {i : Nat} {v : Int32} (hv : 0 ≤ v.toInt ∧ v.toInt ≤ 255) : BX (sti σ 47 i v) := BD.st h hv
theorem gX_48 {σ : Sto} (h : BX σ) (i : Nat) : 0 ≤ (σ.1 48 i).toInt ∧ (σ.1 48 i).toInt ≤ 999 := h 48 i
theorem pX_48 {σ : Sto} (h : BX σ) {i : Nat} {v : Int32} (hv : 0 ≤ v.toInt ∧ v.toInt ≤ 999) : BX (sti σ 48 i v) := BD.st h hv
theorem gX_49 {σ : Sto} (h : BX σ) (i : Nat) : 0 ≤ (σ.1 49 i).toInt ∧ (σ.1 49 i).toInt ≤ 511 := h 49 i
theorem pX_49 {σ : Sto} (h : BX σ) {i : Nat} {v : Int32} (hv : 0 ≤ v.toInt ∧ v.toInt ≤ 511) : BX (sti σ 49 i v) := BD.st h hv
theorem gX_50 {σ : Sto} (h : BX σ) (i : Nat) : (-2147483648) ≤ (σ.1 50 i).toInt ∧ (σ.1 50 i).toInt ≤ 2147483647 := h 50 i
theorem pX_50 {σ : Sto} (h : BX σ) {i : Nat} {v : Int32} (hv : (-2147483648) ≤ v.toInt ∧ v.toInt ≤ 2147483647) : BX (sti σ 50 i v) := BD.st h hv
theorem gX_51 {σ : Sto} (h : BX σ) (i : Nat) : (-2147483648) ≤ (σ.1 51 i).toInt ∧ (σ.1 51 i).toInt ≤ 2147483647 := h 51 i
theorem pX_51 {σ : Sto} (h : BX σ) {i : Nat} {v : Int32} (hv : (-2147483648) ≤ v.toInt ∧ v.toInt ≤ 2147483647) : BX (sti σ 51 i v) := BD.st h hv
theorem gX_52 {σ : Sto} (h : BX σ) (i : Nat) : 0 ≤ (σ.1 52 i).toInt ∧ (σ.1 52 i).toInt ≤ 320 := h 52 i
theorem pX_52 {σ : Sto} (h : BX σ) {i : Nat} {v : Int32} (hv : 0 ≤ v.toInt ∧ v.toInt ≤ 320) : BX (sti σ 52 i v) := BD.st h hv
theorem gX_53 {σ : Sto} (h : BX σ) (i : Nat) : 0 ≤ (σ.1 53 i).toInt ∧ (σ.1 53 i).toInt ≤ 6 := h 53 i
theorem pX_53 {σ : Sto} (h : BX σ) {i : Nat} {v : Int32} (hv : 0 ≤ v.toInt ∧ v.toInt ≤ 6) : BX (sti σ 53 i v) := BD.st h hv
theorem gX_54 {σ : Sto} (h : BX σ) (i : Nat) : (-1) ≤ (σ.1 54 i).toInt ∧ (σ.1 54 i).toInt ≤ 160 := h 54 i
theorem pX_54 {σ : Sto} (h : BX σ) {i : Nat} {v : Int32} (hv : (-1) ≤ v.toInt ∧ v.toInt ≤ 160) : BX (sti σ 54 i v) := BD.st h hv
theorem gX_55 {σ : Sto} (h : BX σ) (i : Nat) : (-1) ≤ (σ.1 55 i).toInt ∧ (σ.1 55 i).toInt ≤ 511 := h 55 i
theorem pX_55 {σ : Sto} (h : BX σ) {i : Nat} {v : Int32} (hv : (-1) ≤ v.toInt ∧ v.toInt ≤ 511) : BX (sti σ 55 i v) := BD.st h hv
theorem gX_56 {σ : Sto} (h : BX σ) (i : Nat) : 0 ≤ (σ.1 56 i).toInt ∧ (σ.1 56 i).toInt ≤ 320 := h 56 i
theorem pX_56 {σ : Sto} (h : BX σ) {i : Nat} {v : Int32} (hv : 0 ≤ v.toInt ∧ v.toInt ≤ 320) : BX (sti σ 56 i v) := BD.st h hv
theorem gX_57 {σ : Sto} (h : BX σ) (i : Nat) : (-1) ≤ (σ.1 57 i).toInt ∧ (σ.1 57 i).toInt ≤ 511 := h 57 i
theorem pX_57 {σ : Sto} (h : BX σ) {i : Nat} {v : Int32} (hv : (-1) ≤ v.toInt ∧ v.toInt ≤ 511) : BX (sti σ 57 i v) := BD.st h hv
theorem gX_58 {σ : Sto} (h : BX σ) (i : Nat) : 0 ≤ (σ.1 58 i).toInt ∧ (σ.1 58 i).toInt ≤ 160 := h 58 i
theorem pX_58 {σ : Sto} (h : BX σ) {i : Nat} {v : Int32} (hv : 0 ≤ v.toInt ∧ v.toInt ≤ 160) : BX (sti σ 58 i v) := BD.st h hv
theorem gX_59 {σ : Sto} (h : BX σ) (i : Nat) : 0 ≤ (σ.1 59 i).toInt ∧ (σ.1 59 i).toInt ≤ 512 := h 59 i
theorem pX_59 {σ : Sto} (h : BX σ) {i : Nat} {v : Int32} (hv : 0 ≤ v.toInt ∧ v.toInt ≤ 512) : BX (sti σ 59 i v) := BD.st h hv
theorem gX_60 {σ : Sto} (h : BX σ) (i : Nat) : 0 ≤ (σ.1 60 i).toInt ∧ (σ.1 60 i).toInt ≤ 511 := h 60 i
theorem pX_60 {σ : Sto} (h : BX σ) {i : Nat} {v : Int32} (hv : 0 ≤ v.toInt ∧ v.toInt ≤ 511) : BX (sti σ 60 i v) := BD.st h hv
theorem gX_61 {σ : Sto} (h : BX σ) (i : Nat) : 0 ≤ (σ.1 61 i).toInt ∧ (σ.1 61 i).toInt ≤ 8 := h 61 i
theorem pX_61 {σ : Sto} (h : BX σ) {i : Nat} {v : Int32} (hv : 0 ≤ v.toInt ∧ v.toInt ≤ 8) : BX (sti σ 61 i v) := BD.st h hv
theorem gX_62 {σ : Sto} (h : BX σ) (i : Nat) : 0 ≤ (σ.1 62 i).toInt ∧ (σ.1 62 i).toInt ≤ 1 := h 62 i
theorem pX_62 {σ : Sto} (h : BX σ) {i : Nat} {v : Int32} (hv : 0 ≤ v.toInt ∧ v.toInt ≤ 1) : BX (sti σ 62 i v) := BD.st h hv
theorem gX_63 {σ : Sto} (h : BX σ) (i : Nat) : 0 ≤ (σ.1 63 i).toInt ∧ (σ.1 63 i).toInt ≤ 1 := h 63 i
theorem pX_63 {σ : Sto} (h : BX σ) {i : Nat} {v : Int32} (hv : 0 ≤ v.toInt ∧ v.toInt ≤ 1) : BX (sti σ 63 i v) := BD.st h hv
theorem gX_64 {σ : Sto} (h : BX σ) (i : Nat) : 0 ≤ (σ.1 64 i).toInt ∧ (σ.1 64 i).toInt ≤ 1 := h 64 i
theorem pX_64 {σ : Sto} (h : BX σ) {i : Nat} {v : Int32} (hv : 0 ≤ v.toInt ∧ v.toInt ≤ 1) : BX (sti σ 64 i v) := BD.st h hv
theorem gX_65 {σ : Sto} (h : BX σ) (i : Nat) : 0 ≤ (σ.1 65 i).toInt ∧ (σ.1 65 i).toInt ≤ 1 := h 65 i
theorem pX_65 {σ : Sto} (h : BX σ) {i : Nat} {v : Int32} (hv : 0 ≤ v.toInt ∧ v.toInt ≤ 1) : BX (sti σ 65 i v) := BD.st h hv
theorem gX_66 {σ : Sto} (h : BX σ) (i : Nat) : (-2147483648) ≤ (σ.1 66 i).toInt ∧ (σ.1 66 i).toInt ≤ 2147483647 := h 66 i
theorem pX_66 {σ : Sto} (h : BX σ) {i : Nat} {v : Int32} (hv : (-2147483648) ≤ v.toInt ∧ v.toInt ≤ 2147483647) : BX (sti σ 66 i v) := BD.st h hv
theorem gX_67 {σ : Sto} (h : BX σ) (i : Nat) : (-2147483648) ≤ (σ.1 67 i).toInt ∧ (σ.1 67 i).toInt ≤ 2147483647 := h 67 i
theorem pX_67 {σ : Sto} (h : BX σ) {i : Nat} {v : Int32} (hv : (-2147483648) ≤ v.toInt ∧ v.toInt ≤ 2147483647) : BX (sti σ 67 i v) := BD.st h hv
theorem gX_68 {σ : Sto} (h : BX σ) (i : Nat) : 0 ≤ (σ.1 68 i).toInt ∧ (σ.1 68 i).toInt ≤ 800 := h 68 i
theorem pX_68 {σ : Sto} (h : BX σ) {i : Nat} {v : Int32} (hv : 0 ≤ v.toInt ∧ v.toInt ≤ 800) : BX (sti σ 68 i v) := BD.st h hv
theorem gX_69 {σ : Sto} (h : BX σ) (i : Nat) : 0 ≤ (σ.1 69 i).toInt ∧ (σ.1 69 i).toInt ≤ 12 := h 69 i
theorem pX_69 {σ : Sto} (h : BX σ) {i : Nat} {v : Int32} (hv : 0 ≤ v.toInt ∧ v.toInt ≤ 12) : BX (sti σ 69 i v) := BD.st h hv
theorem gX_70 {σ : Sto} (h : BX σ) (i : Nat) : 0 ≤ (σ.1 70 i).toInt ∧ (σ.1 70 i).toInt ≤ 39 := h 70 i
theorem pX_70 {σ : Sto} (h : BX σ) {i : Nat} {v : Int32} (hv : 0 ≤ v.toInt ∧ v.toInt ≤ 39) : BX (sti σ 70 i v) := BD.st h hv
theorem gX_71 {σ : Sto} (h : BX σ) (i : Nat) : (-2147483648) ≤ (σ.1 71 i).toInt ∧ (σ.1 71 i).toInt ≤ 2147483647 := h 71 i
theorem pX_71 {σ : Sto} (h : BX σ) {i : Nat} {v : Int32} (hv : (-2147483648) ≤ v.toInt ∧ v.toInt ≤ 2147483647) : BX (sti σ 71 i v) := BD.st h hv
theorem gX_72 {σ : Sto} (h : BX σ) (i : Nat) : (-1) ≤ (σ.1 72 i).toInt ∧ (σ.1 72 i).toInt ≤ 799 := h 72 i
theorem pX_72 {σ : Sto} (h : BX σ) {i : Nat} {v : Int32} (hv : (-1) ≤ v.toInt ∧ v.toInt ≤ 799) : BX (sti σ 72 i v) := BD.st h hv
theorem gX_73 {σ : Sto} (h : BX σ) (i : Nat) : 0 ≤ (σ.1 73 i).toInt ∧ (σ.1 73 i).toInt ≤ 799 := h 73 i
theorem pX_73 {σ : Sto} (h : BX σ) {i : Nat} {v : Int32} (hv : 0 ≤ v.toInt ∧ v.toInt ≤ 799) : BX (sti σ 73 i v) := BD.st h hv
theorem gX_74 {σ : Sto} (h : BX σ) (i : Nat) : 0 ≤ (σ.1 74 i).toInt ∧ (σ.1 74 i).toInt ≤ 799 := h 74 i
theorem pX_74 {σ : Sto} (h : BX σ) {i : Nat} {v : Int32} (hv : 0 ≤ v.toInt ∧ v.toInt ≤ 799) : BX (sti σ 74 i v) := BD.st h hv
theorem gX_75 {σ : Sto} (h : BX σ) (i : Nat) : 0 ≤ (σ.1 75 i).toInt ∧ (σ.1 75 i).toInt ≤ 799 := h 75 i
theorem pX_75 {σ : Sto} (h : BX σ) {i : Nat} {v : Int32} (hv : 0 ≤ v.toInt ∧ v.toInt ≤ 799) : BX (sti σ 75 i v) := BD.st h hv
theorem gX_76 {σ : Sto} (h : BX σ) (i : Nat) : 0 ≤ (σ.1 76 i).toInt ∧ (σ.1 76 i).toInt ≤ 799 := h 76 i
theorem pX_76 {σ : Sto} (h : BX σ) {i : Nat} {v : Int32} (hv : 0 ≤ v.toInt ∧ v.toInt ≤ 799) : BX (sti σ 76 i v) := BD.st h hv
theorem gX_77 {σ : Sto} (h : BX σ) (i : Nat) : (-2147483648) ≤ (σ.1 77 i).toInt ∧ (σ.1 77 i).toInt ≤ 2147483647 := h 77 i
theorem pX_77 {σ : Sto} (h : BX σ) {i : Nat} {v : Int32} (hv : (-2147483648) ≤ v.toInt ∧ v.toInt ≤ 2147483647) : BX (sti σ 77 i v) := BD.st h hv
theorem gX_78 {σ : Sto} (h : BX σ) (i : Nat) : (-2147483648) ≤ (σ.1 78 i).toInt ∧ (σ.1 78 i).toInt ≤ 2147483647 := h 78 i
theorem pX_78 {σ : Sto} (h : BX σ) {i : Nat} {v : Int32} (hv : (-2147483648) ≤ v.toInt ∧ v.toInt ≤ 2147483647) : BX (sti σ 78 i v) := BD.st h hv
theorem gX_79 {σ : Sto} (h : BX σ) (i : Nat) : (-2147483648) ≤ (σ.1 79 i).toInt ∧ (σ.1 79 i).toInt ≤ 2147483647 := h 79 i
theorem pX_79 {σ : Sto} (h : BX σ) {i : Nat} {v : Int32} (hv : (-2147483648) ≤ v.toInt ∧ v.toInt ≤ 2147483647) : BX (sti σ 79 i v) := BD.st h hv
theorem gX_80 {σ : Sto} (h : BX σ) (i : Nat) : (-2147483648) ≤ (σ.1 80 i).toInt ∧ (σ.1 80 i).toInt ≤ 2147483647 := h 80 i
theorem pX_80 {σ : Sto} (h : BX σ) {i : Nat} {v : Int32} (hv : (-2147483648) ≤ v.toInt ∧ v.toInt ≤ 2147483647) : BX (sti σ 80 i v) := BD.st h hv
theorem gX_81 {σ : Sto} (h : BX σ) (i : Nat) : 0 ≤ (σ.1 81 i).toInt ∧ (σ.1 81 i).toInt ≤ 8 := h 81 i
theorem pX_81 {σ : Sto} (h : BX σ) {i : Nat} {v : Int32} (hv : 0 ≤ v.toInt ∧ v.toInt ≤ 8) : BX (sti σ 81 i v) := BD.st h hv
theorem gX_82 {σ : Sto} (h : BX σ) (i : Nat) : (-2147483648) ≤ (σ.1 82 i).toInt ∧ (σ.1 82 i).toInt ≤ 2147483647 := h 82 i
theorem pX_82 {σ : Sto} (h : BX σ) {i : Nat} {v : Int32} (hv : (-2147483648) ≤ v.toInt ∧ v.toInt ≤ 2147483647) : BX (sti σ 82 i v) := BD.st h hv
theorem gX_83 {σ : Sto} (h : BX σ) (i : Nat) : (-2147483648) ≤ (σ.1 83 i).toInt ∧ (σ.1 83 i).toInt ≤ 2147483647 := h 83 i
theorem pX_83 {σ : Sto} (h : BX σ) {i : Nat} {v : Int32} (hv : (-2147483648) ≤ v.toInt ∧ v.toInt ≤ 2147483647) : BX (sti σ 83 i v) := BD.st h hv
theorem gX_84 {σ : Sto} (h : BX σ) (i : Nat) : 0 ≤ (σ.1 84 i).toInt ∧ (σ.1 84 i).toInt ≤ 1 := h 84 i
theorem pX_84 {σ : Sto} (h : BX σ) {i : Nat} {v : Int32} (hv : 0 ≤ v.toInt ∧ v.toInt ≤ 1) : BX (sti σ 84 i v) := BD.st h hv
theorem gX_85 {σ : Sto} (h : BX σ) (i : Nat) : (-2147483648) ≤ (σ.1 85 i).toInt ∧ (σ.1 85 i).toInt ≤ 2147483647 := h 85 i
theorem pX_85 {σ : Sto} (h : BX σ) {i : Nat} {v : Int32} (hv : (-2147483648) ≤ v.toInt ∧ v.toInt ≤ 2147483647) : BX (sti σ 85 i v) := BD.st h hv
theorem gX_86 {σ : Sto} (h : BX σ) (i : Nat) : 0 ≤ (σ.1 86 i).toInt ∧ (σ.1 86 i).toInt ≤ 2 := h 86 i
theorem pX_86 {σ : Sto} (h : BX σ) {i : Nat} {v : Int32} (hv : 0 ≤ v.toInt ∧ v.toInt ≤ 2) : BX (sti σ 86 i v) := BD.st h hv
theorem gX_87 {σ : Sto} (h : BX σ) (i : Nat) : (-2147483648) ≤ (σ.1 87 i).toInt ∧ (σ.1 87 i).toInt ≤ 2147483647 := h 87 i
theorem pX_87 {σ : Sto} (h : BX σ) {i : Nat} {v : Int32} (hv : (-2147483648) ≤ v.toInt ∧ v.toInt ≤ 2147483647) : BX (sti σ 87 i v) := BD.st h hv
theorem gX_88 {σ : Sto} (h : BX σ) (i : Nat) : (-2147483648) ≤ (σ.1 88 i).toInt ∧ (σ.1 88 i).toInt ≤ 2147483647 := h 88 i
theorem pX_88 {σ : Sto} (h : BX σ) {i : Nat} {v : Int32} (hv : (-2147483648) ≤ v.toInt ∧ v.toInt ≤ 2147483647) : BX (sti σ 88 i v) := BD.st h hv
theorem gX_89 {σ : Sto} (h : BX σ) (i : Nat) : (-2147483648) ≤ (σ.1 89 i).toInt ∧ (σ.1 89 i).toInt ≤ 2147483647 := h 89 i
theorem pX_89 {σ : Sto} (h : BX σ) {i : Nat} {v : Int32} (hv : (-2147483648) ≤ v.toInt ∧ v.toInt ≤ 2147483647) : BX (sti σ 89 i v) := BD.st h hv
theorem gX_90 {σ : Sto} (h : BX σ) (i : Nat) : (-2147483648) ≤ (σ.1 90 i).toInt ∧ (σ.1 90 i).toInt ≤ 2147483647 := h 90 i
theorem pX_90 {σ : Sto} (h : BX σ) {i : Nat} {v : Int32} (hv : (-2147483648) ≤ v.toInt ∧ v.toInt ≤ 2147483647) : BX (sti σ 90 i v) := BD.st h hv
theorem gX_91 {σ : Sto} (h : BX σ) (i : Nat) : (-2147483648) ≤ (σ.1 91 i).toInt ∧ (σ.1 91 i).toInt ≤ 2147483647 := h 91 i
theorem pX_91 {σ : Sto} (h : BX σ) {i : Nat} {v : Int32} (hv : (-2147483648) ≤ v.toInt ∧ v.toInt ≤ 2147483647) : BX (sti σ 91 i v) := BD.st h hv
theorem gX_92 {σ : Sto} (h : BX σ) (i : Nat) : (-2147483648) ≤ (σ.1 92 i).toInt ∧ (σ.1 92 i).toInt ≤ 2147483647 := h 92 i
theorem pX_92 {σ : Sto} (h : BX σ) {i : Nat} {v : Int32} (hv : (-2147483648) ≤ v.toInt ∧ v.toInt ≤ 2147483647) : BX (sti σ 92 i v) := BD.st h hv
theorem gX_93 {σ : Sto} (h : BX σ) (i : Nat) : 0 ≤ (σ.1 93 i).toInt ∧ (σ.1 93 i).toInt ≤ 1399 := h 93 i
theorem pX_93 {σ : Sto} (h : BX σ) {i : Nat} {v : Int32} (hv : 0 ≤ v.toInt ∧ v.toInt ≤ 1399) : BX (sti σ 93 i v) := BD.st h hv
theorem gX_94 {σ : Sto} (h : BX σ) (i : Nat) : (-2147483648) ≤ (σ.1 94 i).toInt ∧ (σ.1 94 i).toInt ≤ 2147483647 := h 94 i
theorem pX_94 {σ : Sto} (h : BX σ) {i : Nat} {v : Int32} (hv : (-2147483648) ≤ v.toInt ∧ v.toInt ≤ 2147483647) : BX (sti σ 94 i v) := BD.st h hv
def opU (g : Int32) : Prop := g.toInt = 33 ∨ g.toInt = 110
def opB (g : Int32) : Prop := g.toInt = 43 ∨ g.toInt = 45 ∨ g.toInt = 42 ∨ g.toInt = 47 ∨ g.toInt = 37 ∨ g.toInt = 60 ∨ g.toInt = 61
def T1 (e : Int) (g l r : Int32) : Prop := (g.toInt ≠ 107 → l.toInt ≤ 511) ∧ (g.toInt = 108 → l.toInt ≤ 5) ∧ (g.toInt = 84 → l.toInt ≤ 5) ∧ (g.toInt = 88 → l.toInt ≤ 160) ∧ (opU g ∨ opB g → l.toInt < e) ∧ (opB g → r.toInt < e)
theorem t1_num {e : Int} {g l r : Int32} (h : g.toInt = 107) : T1 e g l r := ⟨fun q => absurd h q, fun q => by omega, fun q => by omega, fun q => by omega, fun q => by unfold opU opB at q; omega, fun q => by unfold opB at q; omega⟩
theorem t1_var {e : Int} {g l r : Int32} (h : g.toInt = 108) (hl : l.toInt ≤ 5) : T1 e g l r := ⟨fun q => by omega, fun q => by omega, fun q => by omega, fun q => by omega, fun q => by unfold opU opB at q; omega, fun q => by unfold opB at q; omega⟩
theorem t1_T {e : Int} {g l r : Int32} (h : g.toInt = 84) (hl : l.toInt ≤ 5) : T1 e g l r := ⟨fun q => by omega, fun q => by omega, fun q => by omega, fun q => by omega, fun q => by unfold opU opB at q; omega, fun q => by unfold opB at q; omega⟩
theorem t1_X {e : Int} {g l r : Int32} (h : g.toInt = 88) (hl : l.toInt ≤ 160) : T1 e g l r := ⟨fun q => by omega, fun q => by omega, fun q => by omega, fun q => by omega, fun q => by unfold opU opB at q; omega, fun q => by unfold opB at q; omega⟩
theorem t1_in {e : Int} {g l r : Int32} (h : g.toInt = 105) (hl : l.toInt ≤ 511) : T1 e g l r := ⟨fun q => by omega, fun q => by omega, fun q => by omega, fun q => by omega, fun q => by unfold opU opB at q; omega, fun q => by unfold opB at q; omega⟩
theorem t1_op {e : Int} {g l r : Int32} (h : opU g ∨ opB g) (hl : l.toInt < e) (he : e ≤ 512) (hr : opB g → r.toInt < e) : T1 e g l r := ⟨fun q => by omega, fun q => by unfold opU opB at h; omega, fun q => by unfold opU opB at h; omega, fun q => by unfold opU opB at h; omega, fun _ => hl, hr⟩
def PIr (r47 : Nat → Int32) (r48 : Nat → Int32) (r49 : Nat → Int32)  : Prop := ∀ e : Nat, T1 e (r47 e) (r48 e) (r49 e)
def PI (σ : Sto) : Prop := PIr (σ.1 47) (σ.1 48) (σ.1 49)
theorem PI.st1 {σ : Sto} {k i : Nat} {v : Int32} (hk : k ∉ ([47, 48, 49] : List Nat)) (h : PI σ) : PI (sti σ k i v) := by
  unfold PI at h ⊢
  have e47 : (sti σ k i v).1 47 = σ.1 47 := if_neg (fun e => hk (by rw [← e]; decide))
  have e48 : (sti σ k i v).1 48 = σ.1 48 := if_neg (fun e => hk (by rw [← e]; decide))
  have e49 : (sti σ k i v).1 49 = σ.1 49 := if_neg (fun e => hk (by rw [← e]; decide))
  rw [e47, e48, e49]
  exact h
theorem PI.st3 {σ : Sto} {k : Nat} {f : Nat → Int32} (hk : k ∉ ([47, 48, 49] : List Nat)) (h : PI σ) : PI (stc σ k f) := by
  unfold PI at h ⊢
  have e47 : (stc σ k f).1 47 = σ.1 47 := if_neg (fun e => hk (by rw [← e]; decide))
  have e48 : (stc σ k f).1 48 = σ.1 48 := if_neg (fun e => hk (by rw [← e]; decide))
  have e49 : (stc σ k f).1 49 = σ.1 49 := if_neg (fun e => hk (by rw [← e]; decide))
  rw [e47, e48, e49]
  exact h
theorem PI.st2 {σ : Sto} {k i : Nat} {v : Int64} (hk : k ∉ ([] : List Nat)) (h : PI σ) : PI (stl σ k i v) := by
  unfold PI at h ⊢
  exact h
theorem PI.fr {ms ml : List Nat} {σ s : Sto} (hG : FR ms ml σ s) (hd : ([47, 48, 49] : List Nat).all (fun k => !ms.contains k) && ([] : List Nat).all (fun k => !ml.contains k) = true) (h : PI σ) : PI s := by
  unfold PI at h ⊢
  simp only [Bool.and_eq_true, List.all_eq_true] at hd
  have e47 : s.1 47 = σ.1 47 := hG.1 47 (fun z => by have := hd.1 47 (by decide); simp [z] at this)
  have e48 : s.1 48 = σ.1 48 := hG.1 48 (fun z => by have := hd.1 48 (by decide); simp [z] at this)
  have e49 : s.1 49 = σ.1 49 := hG.1 49 (fun z => by have := hd.1 49 (by decide); simp [z] at this)
  rw [e47, e48, e49]
  exact h
theorem sti_if (σ : Sto) (k i : Nat) (v : Int32) (j : Nat) : (sti σ k i v).1 k j = if j = i then v else σ.1 k j := by
  rw [sti_at]
  by_cases q : j = i
  · rw [if_pos ⟨rfl, q⟩, if_pos q]
  · rw [if_neg (fun z => q z.2), if_neg q]
theorem PI.three {σ s t u : Sto} {n m o : Nat} {g l r : Int32} (h : PI σ) (e1 : s = sti σ 47 n g) (e2 : t = sti s 48 m l) (e3 : u = sti t 49 o r) (e4 : m = n) (e5 : o = n) (hT : T1 n g l r) : PI u := by
  subst e1; subst e2; subst e3; subst e4; subst e5
  intro e
  have a : (sti (sti (sti σ 47 o g) 48 o l) 49 o r).1 47 = (sti σ 47 o g).1 47 := (sti_o (by decide)).trans (sti_o (by decide))
  have b : (sti (sti (sti σ 47 o g) 48 o l) 49 o r).1 48 = (sti (sti σ 47 o g) 48 o l).1 48 := sti_o (by decide)
  have b2 : (sti σ 47 o g).1 48 = σ.1 48 := sti_o (by decide)
  have c2 : (sti (sti σ 47 o g) 48 o l).1 49 = σ.1 49 := (sti_o (by decide)).trans (sti_o (by decide))
  rw [a, b, sti_if, sti_if, sti_if, b2, c2]
  by_cases q : e = o
  · rw [if_pos q, if_pos q, if_pos q, q]; exact hT
  · rw [if_neg q, if_neg q, if_neg q]; exact h e

def T2 (k w x : Int32) : Prop := (k.toInt = 0 → 0 ≤ w.toInt ∧ w.toInt ≤ 5) ∧ (k.toInt = 1 → 0 ≤ w.toInt ∧ w.toInt ≤ 5) ∧ (k.toInt = 2 → 0 ≤ w.toInt) ∧ (k.toInt ≤ 2 → 0 ≤ x.toInt)
def SIr (r53 : Nat → Int32) (r54 : Nat → Int32) (r55 : Nat → Int32)  : Prop := ∀ e : Nat, T2 (r53 e) (r54 e) (r55 e)
def SI (σ : Sto) : Prop := SIr (σ.1 53) (σ.1 54) (σ.1 55)
theorem SI.st1 {σ : Sto} {k i : Nat} {v : Int32} (hk : k ∉ ([53, 54, 55] : List Nat)) (h : SI σ) : SI (sti σ k i v) := by
  unfold SI at h ⊢
  have e53 : (sti σ k i v).1 53 = σ.1 53 := if_neg (fun e => hk (by rw [← e]; decide))
  have e54 : (sti σ k i v).1 54 = σ.1 54 := if_neg (fun e => hk (by rw [← e]; decide))
  have e55 : (sti σ k i v).1 55 = σ.1 55 := if_neg (fun e => hk (by rw [← e]; decide))
  rw [e53, e54, e55]
  exact h
theorem SI.st3 {σ : Sto} {k : Nat} {f : Nat → Int32} (hk : k ∉ ([53, 54, 55] : List Nat)) (h : SI σ) : SI (stc σ k f) := by
  unfold SI at h ⊢
  have e53 : (stc σ k f).1 53 = σ.1 53 := if_neg (fun e => hk (by rw [← e]; decide))
  have e54 : (stc σ k f).1 54 = σ.1 54 := if_neg (fun e => hk (by rw [← e]; decide))
  have e55 : (stc σ k f).1 55 = σ.1 55 := if_neg (fun e => hk (by rw [← e]; decide))
  rw [e53, e54, e55]
  exact h
theorem SI.st2 {σ : Sto} {k i : Nat} {v : Int64} (hk : k ∉ ([] : List Nat)) (h : SI σ) : SI (stl σ k i v) := by
  unfold SI at h ⊢
  exact h
theorem SI.fr {ms ml : List Nat} {σ s : Sto} (hG : FR ms ml σ s) (hd : ([53, 54, 55] : List Nat).all (fun k => !ms.contains k) && ([] : List Nat).all (fun k => !ml.contains k) = true) (h : SI σ) : SI s := by
  unfold SI at h ⊢
  simp only [Bool.and_eq_true, List.all_eq_true] at hd
  have e53 : s.1 53 = σ.1 53 := hG.1 53 (fun z => by have := hd.1 53 (by decide); simp [z] at this)
  have e54 : s.1 54 = σ.1 54 := hG.1 54 (fun z => by have := hd.1 54 (by decide); simp [z] at this)
  have e55 : s.1 55 = σ.1 55 := hG.1 55 (fun z => by have := hd.1 55 (by decide); simp [z] at this)
  rw [e53, e54, e55]
  exact h
theorem SI.three {σ s t u : Sto} {n m o : Nat} {g l r : Int32} (h : SI σ) (e1 : s = sti σ 53 n g) (e2 : t = sti s 54 m l) (e3 : u = sti t 55 o r) (e4 : m = n) (e5 : o = n) (hT : T2 g l r) : SI u := by
  subst e1; subst e2; subst e3; subst e4; subst e5
  intro e
  have a : (sti (sti (sti σ 53 o g) 54 o l) 55 o r).1 53 = (sti σ 53 o g).1 53 := (sti_o (by decide)).trans (sti_o (by decide))
  have b : (sti (sti (sti σ 53 o g) 54 o l) 55 o r).1 54 = (sti (sti σ 53 o g) 54 o l).1 54 := sti_o (by decide)
  have b2 : (sti σ 53 o g).1 54 = σ.1 54 := sti_o (by decide)
  have c2 : (sti (sti σ 53 o g) 54 o l).1 55 = σ.1 55 := (sti_o (by decide)).trans (sti_o (by decide))
  rw [a, b, sti_if, sti_if, sti_if, b2, c2]
  by_cases q : e = o
  · rw [if_pos q, if_pos q, if_pos q]; exact hT
  · rw [if_neg q, if_neg q, if_neg q]; exact h e

def T3 (k l : Int32) : Prop := k.toInt = 0 → 0 ≤ l.toInt ∧ l.toInt ≤ 319
def LIr (r69 : Nat → Int32) (r72 : Nat → Int32)  : Prop := ∀ e : Nat, T3 (r69 e) (r72 e)
def LI (σ : Sto) : Prop := LIr (σ.1 69) (σ.1 72)
theorem LI.st1 {σ : Sto} {k i : Nat} {v : Int32} (hk : k ∉ ([69, 72] : List Nat)) (h : LI σ) : LI (sti σ k i v) := by
  unfold LI at h ⊢
  have e69 : (sti σ k i v).1 69 = σ.1 69 := if_neg (fun e => hk (by rw [← e]; decide))
  have e72 : (sti σ k i v).1 72 = σ.1 72 := if_neg (fun e => hk (by rw [← e]; decide))
  rw [e69, e72]
  exact h
theorem LI.st3 {σ : Sto} {k : Nat} {f : Nat → Int32} (hk : k ∉ ([69, 72] : List Nat)) (h : LI σ) : LI (stc σ k f) := by
  unfold LI at h ⊢
  have e69 : (stc σ k f).1 69 = σ.1 69 := if_neg (fun e => hk (by rw [← e]; decide))
  have e72 : (stc σ k f).1 72 = σ.1 72 := if_neg (fun e => hk (by rw [← e]; decide))
  rw [e69, e72]
  exact h
theorem LI.st2 {σ : Sto} {k i : Nat} {v : Int64} (hk : k ∉ ([] : List Nat)) (h : LI σ) : LI (stl σ k i v) := by
  unfold LI at h ⊢
  exact h
theorem LI.fr {ms ml : List Nat} {σ s : Sto} (hG : FR ms ml σ s) (hd : ([69, 72] : List Nat).all (fun k => !ms.contains k) && ([] : List Nat).all (fun k => !ml.contains k) = true) (h : LI σ) : LI s := by
  unfold LI at h ⊢
  simp only [Bool.and_eq_true, List.all_eq_true] at hd
  have e69 : s.1 69 = σ.1 69 := hG.1 69 (fun z => by have := hd.1 69 (by decide); simp [z] at this)
  have e72 : s.1 72 = σ.1 72 := hG.1 72 (fun z => by have := hd.1 72 (by decide); simp [z] at this)
  rw [e69, e72]
  exact h
theorem LI.two {σ s t u : Sto} {n m : Nat} {k l : Int32} (h : LI σ) (e1 : s = sti σ 69 n k) (e2 : t.1 69 = s.1 69) (e3 : t.1 72 = σ.1 72) (e4 : u = sti t 72 m l) (e5 : m = n) (hT : T3 k l) : LI u := by
  subst e1; subst e4; subst e5
  intro e
  have a : (sti t 72 m l).1 69 = t.1 69 := sti_o (by decide)
  rw [a, e2, sti_if, sti_if, e3]
  by_cases q : e = m
  · rw [if_pos q, if_pos q]; exact hT
  · rw [if_neg q, if_neg q]; exact h e

def KIr (r46 : Nat → Int32) (r60 : Nat → Int32) (r61 : Nat → Int32)  : Prop := ∀ k : Nat, (k : Int) < (r61 0).toInt → (r60 k).toInt < (r46 0).toInt
def KI (σ : Sto) : Prop := KIr (σ.1 46) (σ.1 60) (σ.1 61)
theorem KI.st1 {σ : Sto} {k i : Nat} {v : Int32} (hk : k ∉ ([46, 60, 61] : List Nat)) (h : KI σ) : KI (sti σ k i v) := by
  unfold KI at h ⊢
  have e46 : (sti σ k i v).1 46 = σ.1 46 := if_neg (fun e => hk (by rw [← e]; decide))
  have e60 : (sti σ k i v).1 60 = σ.1 60 := if_neg (fun e => hk (by rw [← e]; decide))
  have e61 : (sti σ k i v).1 61 = σ.1 61 := if_neg (fun e => hk (by rw [← e]; decide))
  rw [e46, e60, e61]
  exact h
theorem KI.st3 {σ : Sto} {k : Nat} {f : Nat → Int32} (hk : k ∉ ([46, 60, 61] : List Nat)) (h : KI σ) : KI (stc σ k f) := by
  unfold KI at h ⊢
  have e46 : (stc σ k f).1 46 = σ.1 46 := if_neg (fun e => hk (by rw [← e]; decide))
  have e60 : (stc σ k f).1 60 = σ.1 60 := if_neg (fun e => hk (by rw [← e]; decide))
  have e61 : (stc σ k f).1 61 = σ.1 61 := if_neg (fun e => hk (by rw [← e]; decide))
  rw [e46, e60, e61]
  exact h
theorem KI.st2 {σ : Sto} {k i : Nat} {v : Int64} (hk : k ∉ ([] : List Nat)) (h : KI σ) : KI (stl σ k i v) := by
  unfold KI at h ⊢
  exact h
theorem KI.fr {ms ml : List Nat} {σ s : Sto} (hG : FR ms ml σ s) (hd : ([46, 60, 61] : List Nat).all (fun k => !ms.contains k) && ([] : List Nat).all (fun k => !ml.contains k) = true) (h : KI σ) : KI s := by
  unfold KI at h ⊢
  simp only [Bool.and_eq_true, List.all_eq_true] at hd
  have e46 : s.1 46 = σ.1 46 := hG.1 46 (fun z => by have := hd.1 46 (by decide); simp [z] at this)
  have e60 : s.1 60 = σ.1 60 := hG.1 60 (fun z => by have := hd.1 60 (by decide); simp [z] at this)
  have e61 : s.1 61 = σ.1 61 := hG.1 61 (fun z => by have := hd.1 61 (by decide); simp [z] at this)
  rw [e46, e60, e61]
  exact h
theorem KI.up {σ s : Sto} (h : KI σ) (h60 : s.1 60 = σ.1 60) (h61 : s.1 61 = σ.1 61) (hm : (σ.1 46 0).toInt ≤ (s.1 46 0).toInt) : KI s := by
  intro k hk
  rw [h61] at hk
  rw [h60]
  have := h k hk
  omega
theorem KI.low {σ s : Sto} {v : Int32} (h : KI σ) (e : s = sti σ 61 0 v) (hv : (s.1 61 0).toInt ≤ (σ.1 61 0).toInt) : KI s := by
  subst e
  intro k hk
  have a : (sti σ 61 0 v).1 60 = σ.1 60 := sti_o (by decide)
  have b : (sti σ 61 0 v).1 46 = σ.1 46 := sti_o (by decide)
  rw [a, b]
  exact h k (by omega)
theorem KI.put {σ s : Sto} {n : Nat} {v : Int32} (h : KI σ) (e : s = sti σ 60 n v) (hv : v.toInt < (σ.1 46 0).toInt) : KI s := by
  subst e
  intro k hk
  have a : (sti σ 60 n v).1 61 = σ.1 61 := sti_o (by decide)
  have b : (sti σ 60 n v).1 46 = σ.1 46 := sti_o (by decide)
  rw [a] at hk
  rw [b, sti_if]
  by_cases q : k = n
  · rw [if_pos q]; exact hv
  · rw [if_neg q]; exact h k hk
theorem KI.push {σ s t : Sto} {n : Nat} {v w : Int32} (h : KI σ) (e1 : s = sti σ 60 n v) (e2 : t = sti s 61 0 w) (hn : (n : Int) = (σ.1 61 0).toInt) (hw : (t.1 61 0).toInt = (σ.1 61 0).toInt + 1) (hv : v.toInt < (σ.1 46 0).toInt) : KI t := by
  subst e1
  intro k hk
  rw [hw] at hk
  have a : t.1 60 = (sti σ 60 n v).1 60 := by rw [e2]; exact sti_o (by decide)
  have b : t.1 46 = σ.1 46 := by rw [e2]; exact (sti_o (by decide)).trans (sti_o (by decide))
  rw [a, b, sti_if]
  by_cases q : k = n
  · rw [if_pos q]; exact hv
  · rw [if_neg q]; exact h k (by omega)
theorem t2_X {k w x : Int32} (hk : k.toInt = 2) (hw : 0 ≤ w.toInt) (hx : 0 ≤ x.toInt) : T2 k w x := ⟨fun h => by omega, fun h => by omega, fun _ => hw, fun _ => hx⟩
theorem t2_T {k w x : Int32} (hk : k.toInt ≤ 1) (hk0 : 0 ≤ k.toInt) (hw : 0 ≤ w.toInt ∧ w.toInt ≤ 5) (hx : 0 ≤ x.toInt) : T2 k w x := ⟨fun _ => hw, fun _ => hw, fun h => by omega, fun _ => hx⟩
theorem t2_o {k w x : Int32} (hk : 3 ≤ k.toInt) : T2 k w x := ⟨fun h => by omega, fun h => by omega, fun h => by omega, fun h => by omega⟩

def VS (g n : Int32) : Prop := (g.toInt = 108 ∨ g.toInt = 115 → n.toInt ≤ 5) ∧ (g.toInt = 105 → n.toInt = 0) ∧ (g.toInt = 103 ∨ g.toInt = 122 → n.toInt ≤ 39) ∧ (g.toInt = 100 ∨ g.toInt = 103 ∨ g.toInt = 105 ∨ g.toInt = 107 ∨ g.toInt = 108 ∨ g.toInt = 111 ∨ g.toInt = 112 ∨ g.toInt = 114 ∨ g.toInt = 115 ∨ g.toInt = 116 ∨ g.toInt = 119 ∨ g.toInt = 122 ∨ opU g ∨ opB g)
theorem vs_T1 {g n : Int32} {e : Int} (h : VS g n) (q : g.toInt = 105 ∨ g.toInt = 107 ∨ g.toInt = 108) : T1 e g n 0 := by
  obtain ⟨a, b, _, _⟩ := h
  rcases q with q | q | q
  · exact t1_in q (by have := b q; omega)
  · exact t1_num q
  · exact t1_var q (a (Or.inl q))
theorem vs_op {g n : Int32} (h : VS g n) (q : ¬ g.toInt = 100 ∧ ¬ g.toInt = 103 ∧ ¬ (g.toInt = 105 ∨ g.toInt = 107 ∨ g.toInt = 108) ∧ ¬ g.toInt = 111 ∧ ¬ g.toInt = 112 ∧ ¬ g.toInt = 114 ∧ ¬ g.toInt = 115 ∧ ¬ g.toInt = 116 ∧ ¬ g.toInt = 119 ∧ ¬ g.toInt = 122) : opU g ∨ opB g := by
  obtain ⟨_, _, _, d⟩ := h
  rcases d with d | d | d | d | d | d | d | d | d | d | d | d | d | d
  any_goals omega
  · exact Or.inl d
  · exact Or.inr d
def ndI (g : Int) : Int := if g = 119 ∨ g = 43 ∨ g = 45 ∨ g = 42 ∨ g = 47 ∨ g = 37 ∨ g = 60 ∨ g = 61 then 2 else if g = 115 ∨ g = 33 ∨ g = 110 ∨ g = 100 ∨ g = 112 ∨ g = 111 ∨ g = 122 ∨ g = 116 then 1 else 0
def gvI (g : Int) : Int := if g = 100 ∨ g = 119 then 2 else if g = 107 ∨ g = 108 ∨ g = 105 ∨ g = 33 ∨ g = 110 ∨ g = 43 ∨ g = 45 ∨ g = 42 ∨ g = 47 ∨ g = 37 ∨ g = 60 ∨ g = 61 then 1 else 0
def ND (g h : Int) : Prop := ndI g ≤ h ∧ h - ndI g + gvI g ≤ 6
def HD (g h k : Int) : Prop := k = h - ndI g + gvI g
theorem nd_1 {g h : Int} (a : ND g h) (q : g = 111 ∨ g = 112 ∨ g = 115 ∨ g = 116 ∨ g = 122) : 1 ≤ h := by
  unfold ND at a; rcases q with q | q | q | q | q <;> (subst q; have := a.1; simp [ndI] at this; omega)
theorem nd_100 {g h : Int} (a : ND g h) (q : g = 100) : 1 ≤ h ∧ h ≤ 5 := by
  unfold ND at a; subst q; simp [ndI, gvI] at a; omega
theorem nd_119 {g h : Int} (a : ND g h) (q : g = 119) : 2 ≤ h ∧ h ≤ 6 := by
  unfold ND at a; subst q; simp [ndI, gvI] at a; omega
theorem nd_in {g h : Int} (a : ND g h) (q : g = 105 ∨ g = 107 ∨ g = 108) : h ≤ 5 := by
  unfold ND at a; rcases q with q | q | q <;> (subst q; simp [ndI, gvI] at a; omega)
theorem nd_B {g : Int32} {h : Int} (a : ND g.toInt h) (q : opB g) : 2 ≤ h := by
  unfold ND at a; unfold opB at q
  generalize g.toInt = x at a q
  rcases q with q | q | q | q | q | q | q <;> (subst q; simp [ndI, gvI] at a; omega)
theorem nd_o {g : Int32} {h : Int} (a : ND g.toInt h) (q : opU g ∨ opB g) : 1 ≤ h := by
  rcases q with q | q
  · unfold ND at a; unfold opU at q
    generalize g.toInt = x at a q
    rcases q with q | q <;> (subst q; simp [ndI, gvI] at a; omega)
  · have := nd_B a q; omega
theorem hd_1 {g h k : Int} (q : ((g = 100 ∨ g = 105 ∨ g = 107 ∨ g = 108) ∧ k = h + 1) ∨ ((g = 103 ∨ g = 114 ∨ g = 119) ∧ k = h) ∨ ((g = 111 ∨ g = 112 ∨ g = 115 ∨ g = 116 ∨ g = 122) ∧ k = h - 1)) : HD g h k := by
  unfold HD
  rcases q with ⟨q, r⟩ | ⟨q, r⟩ | ⟨q, r⟩
  · rcases q with q | q | q | q <;> (subst q; simp [ndI, gvI]; omega)
  · rcases q with q | q | q <;> (subst q; simp [ndI, gvI]; omega)
  · rcases q with q | q | q | q | q <;> (subst q; simp [ndI, gvI]; omega)
theorem hd_o {g : Int32} {h k : Int} (q : opU g ∨ opB g) (a : opB g → k = h - 1) (b : ¬ opB g → k = h) : HD g.toInt h k := by
  unfold HD
  rcases q with q | q
  · have r : k = h := b (fun z => by unfold opU at q; unfold opB at z; omega)
    unfold opU at q
    generalize g.toInt = x at q
    rcases q with q | q <;> (subst q; simp [ndI, gvI]; omega)
  · have r := a q
    unfold opB at q
    generalize g.toInt = x at q
    rcases q with q | q | q | q | q | q | q <;> (subst q; simp [ndI, gvI]; omega)

def GB1 (sg nm dp : Nat → Int32) (f l : Int32) : Prop := 0 ≤ f.toInt ∧ f.toInt ≤ l.toInt ∧ l.toInt ≤ 39 ∧ 0 ≤ (dp f.toNatClampNeg).toInt ∧ (dp f.toNatClampNeg).toInt ≤ 6 ∧ ∀ i : Nat, f.toInt ≤ i → i ≤ l.toInt → VS (sg i) (nm i) ∧ ND (sg i).toInt (dp i).toInt ∧ ((i : Int) < l.toInt → HD (sg i).toInt (dp i).toInt (dp (i + 1)).toInt)
theorem hd_fun {g h k m : Int} (a : HD g h k) (b : HD g h m) : k = m := a.trans b.symm
theorem nd_6 {g h k : Int} (a : ND g h) (b : HD g h k) : k ≤ 6 := by unfold ND at a; unfold HD at b; omega
def GBr (r6 : Nat → Int32) (r7 : Nat → Int32) (r8 : Nat → Int32) (r20 : Nat → Int32) (r21 : Nat → Int32) (r22 : Nat → Int32)  : Prop := ∀ b : Nat, (b : Int) < (r20 0).toInt → GB1 r6 r7 r8 (r21 b) (r22 b)
def GB (σ : Sto) : Prop := GBr (σ.1 6) (σ.1 7) (σ.1 8) (σ.1 20) (σ.1 21) (σ.1 22)
theorem GB.st1 {σ : Sto} {k i : Nat} {v : Int32} (hk : k ∉ ([6, 7, 8, 20, 21, 22] : List Nat)) (h : GB σ) : GB (sti σ k i v) := by
  unfold GB at h ⊢
  have e6 : (sti σ k i v).1 6 = σ.1 6 := if_neg (fun e => hk (by rw [← e]; decide))
  have e7 : (sti σ k i v).1 7 = σ.1 7 := if_neg (fun e => hk (by rw [← e]; decide))
  have e8 : (sti σ k i v).1 8 = σ.1 8 := if_neg (fun e => hk (by rw [← e]; decide))
  have e20 : (sti σ k i v).1 20 = σ.1 20 := if_neg (fun e => hk (by rw [← e]; decide))
  have e21 : (sti σ k i v).1 21 = σ.1 21 := if_neg (fun e => hk (by rw [← e]; decide))
  have e22 : (sti σ k i v).1 22 = σ.1 22 := if_neg (fun e => hk (by rw [← e]; decide))
  rw [e6, e7, e8, e20, e21, e22]
  exact h
theorem GB.st3 {σ : Sto} {k : Nat} {f : Nat → Int32} (hk : k ∉ ([6, 7, 8, 20, 21, 22] : List Nat)) (h : GB σ) : GB (stc σ k f) := by
  unfold GB at h ⊢
  have e6 : (stc σ k f).1 6 = σ.1 6 := if_neg (fun e => hk (by rw [← e]; decide))
  have e7 : (stc σ k f).1 7 = σ.1 7 := if_neg (fun e => hk (by rw [← e]; decide))
  have e8 : (stc σ k f).1 8 = σ.1 8 := if_neg (fun e => hk (by rw [← e]; decide))
  have e20 : (stc σ k f).1 20 = σ.1 20 := if_neg (fun e => hk (by rw [← e]; decide))
  have e21 : (stc σ k f).1 21 = σ.1 21 := if_neg (fun e => hk (by rw [← e]; decide))
  have e22 : (stc σ k f).1 22 = σ.1 22 := if_neg (fun e => hk (by rw [← e]; decide))
  rw [e6, e7, e8, e20, e21, e22]
  exact h
theorem GB.st2 {σ : Sto} {k i : Nat} {v : Int64} (hk : k ∉ ([] : List Nat)) (h : GB σ) : GB (stl σ k i v) := by
  unfold GB at h ⊢
  exact h
theorem GB.fr {ms ml : List Nat} {σ s : Sto} (hG : FR ms ml σ s) (hd : ([6, 7, 8, 20, 21, 22] : List Nat).all (fun k => !ms.contains k) && ([] : List Nat).all (fun k => !ml.contains k) = true) (h : GB σ) : GB s := by
  unfold GB at h ⊢
  simp only [Bool.and_eq_true, List.all_eq_true] at hd
  have e6 : s.1 6 = σ.1 6 := hG.1 6 (fun z => by have := hd.1 6 (by decide); simp [z] at this)
  have e7 : s.1 7 = σ.1 7 := hG.1 7 (fun z => by have := hd.1 7 (by decide); simp [z] at this)
  have e8 : s.1 8 = σ.1 8 := hG.1 8 (fun z => by have := hd.1 8 (by decide); simp [z] at this)
  have e20 : s.1 20 = σ.1 20 := hG.1 20 (fun z => by have := hd.1 20 (by decide); simp [z] at this)
  have e21 : s.1 21 = σ.1 21 := hG.1 21 (fun z => by have := hd.1 21 (by decide); simp [z] at this)
  have e22 : s.1 22 = σ.1 22 := hG.1 22 (fun z => by have := hd.1 22 (by decide); simp [z] at this)
  rw [e6, e7, e8, e20, e21, e22]
  exact h

def BR (g : Int32) : Prop := (g.toInt = 33 ∨ g.toInt = 100 ∨ g.toInt = 105 ∨ g.toInt = 110 ∨ g.toInt = 111 ∨ g.toInt = 112 ∨ g.toInt = 114 ∨ g.toInt = 116 ∨ g.toInt = 119) ∨ opB g
def VI (g n : Int32) : Prop := VS g n ∧ 0 ≤ g.toInt ∧ g.toInt ≤ 255 ∧ 0 ≤ n.toInt ∧ n.toInt ≤ 999
theorem vi_j {g n : Int32} (q : g.toInt = 103 ∨ g.toInt = 122) (a : 0 ≤ n.toInt) (b : n.toInt < 40) : VI g n := by
  refine ⟨⟨fun z => by omega, fun z => by omega, fun z => by omega, ?_⟩, by omega, by omega, by omega, by omega⟩
  rcases q with q | q
  · exact Or.inr (Or.inl q)
  · exact Or.inr (Or.inr (Or.inr (Or.inr (Or.inr (Or.inr (Or.inr (Or.inr (Or.inr (Or.inr (Or.inr (Or.inl q)))))))))))
theorem vi_k {g n : Int32} (q : g.toInt = 107) (a : 0 ≤ n.toInt) (b : n.toInt ≤ 999) : VI g n :=
  ⟨⟨fun z => by omega, fun z => by omega, fun z => by omega, Or.inr (Or.inr (Or.inr (Or.inl q)))⟩, by omega, by omega, by omega, by omega⟩
theorem vi_v {g n : Int32} (q : g.toInt = 108 ∨ g.toInt = 115) (a : 0 ≤ n.toInt) (b : n.toInt < 6) : VI g n := by
  refine ⟨⟨fun z => by omega, fun z => by omega, fun z => by omega, ?_⟩, by omega, by omega, by omega, by omega⟩
  rcases q with q | q
  · exact Or.inr (Or.inr (Or.inr (Or.inr (Or.inl q))))
  · exact Or.inr (Or.inr (Or.inr (Or.inr (Or.inr (Or.inr (Or.inr (Or.inr (Or.inl q))))))))
theorem vi_b {g n : Int32} (q : BR g) (a : n.toInt = 0) : VI g n := by
  have r : 0 ≤ g.toInt ∧ g.toInt ≤ 255 ∧ g.toInt ≠ 103 ∧ g.toInt ≠ 122 := by unfold BR opB at q; omega
  refine ⟨⟨fun z => by omega, fun z => by omega, fun z => by omega, ?_⟩, by omega, by omega, by omega, by omega⟩
  unfold BR at q
  rcases q with (q | q | q | q | q | q | q | q | q) | q
  · exact Or.inr (Or.inr (Or.inr (Or.inr (Or.inr (Or.inr (Or.inr (Or.inr (Or.inr (Or.inr (Or.inr (Or.inr (Or.inl (Or.inl q)))))))))))))
  · exact Or.inl q
  · exact Or.inr (Or.inr (Or.inl q))
  · exact Or.inr (Or.inr (Or.inr (Or.inr (Or.inr (Or.inr (Or.inr (Or.inr (Or.inr (Or.inr (Or.inr (Or.inr (Or.inl (Or.inr q)))))))))))))
  · exact Or.inr (Or.inr (Or.inr (Or.inr (Or.inr (Or.inl q)))))
  · exact Or.inr (Or.inr (Or.inr (Or.inr (Or.inr (Or.inr (Or.inl q))))))
  · exact Or.inr (Or.inr (Or.inr (Or.inr (Or.inr (Or.inr (Or.inr (Or.inl q)))))))
  · exact Or.inr (Or.inr (Or.inr (Or.inr (Or.inr (Or.inr (Or.inr (Or.inr (Or.inr (Or.inl q)))))))))
  · exact Or.inr (Or.inr (Or.inr (Or.inr (Or.inr (Or.inr (Or.inr (Or.inr (Or.inr (Or.inr (Or.inl q))))))))))
  · exact Or.inr (Or.inr (Or.inr (Or.inr (Or.inr (Or.inr (Or.inr (Or.inr (Or.inr (Or.inr (Or.inr (Or.inr (Or.inr q))))))))))))

def gOn (g : Int32) : Prop := g.toInt ≠ 103 ∧ g.toInt ≠ 116 ∧ g.toInt ≠ 114
def gEl (g : Int32) : Prop := g.toInt = 103 ∨ g.toInt = 122
def JR (sz hs : Int) (sg nm dp fr up go : Nat → Int32) : Prop := (∀ i : Nat, (i : Int) < sz → VS (sg i) (nm i) ∧ (gEl (sg i) → (nm i).toInt < sz) ∧ ((dp i).toInt ≠ -1 → ND (sg i).toInt (dp i).toInt ∧ (gOn (sg i) → (i : Int) + 1 < sz ∧ HD (sg i).toInt (dp i).toInt (dp (i + 1)).toInt) ∧ (gEl (sg i) → (nm i).toInt < sz ∧ HD (sg i).toInt (dp i).toInt (dp (nm i).toNatClampNeg).toInt))) ∧ (∀ h : Nat, (h : Int) < hs → (fr h).toInt < (up h).toInt ∧ (up h).toInt ≤ sz ∧ (go h).toInt < sz)
def LVr (r4 : Nat → Int32) (r5 : Nat → Int32) (r6 : Nat → Int32) (r7 : Nat → Int32) (r8 : Nat → Int32) (r9 : Nat → Int32) (r10 : Nat → Int32) (r11 : Nat → Int32)  : Prop := JR (r4 0).toInt (r5 0).toInt r6 r7 r8 r9 r10 r11
def LV (σ : Sto) : Prop := LVr (σ.1 4) (σ.1 5) (σ.1 6) (σ.1 7) (σ.1 8) (σ.1 9) (σ.1 10) (σ.1 11)
theorem LV.st1 {σ : Sto} {k i : Nat} {v : Int32} (hk : k ∉ ([4, 5, 6, 7, 8, 9, 10, 11] : List Nat)) (h : LV σ) : LV (sti σ k i v) := by
  unfold LV at h ⊢
  have e4 : (sti σ k i v).1 4 = σ.1 4 := if_neg (fun e => hk (by rw [← e]; decide))
  have e5 : (sti σ k i v).1 5 = σ.1 5 := if_neg (fun e => hk (by rw [← e]; decide))
  have e6 : (sti σ k i v).1 6 = σ.1 6 := if_neg (fun e => hk (by rw [← e]; decide))
  have e7 : (sti σ k i v).1 7 = σ.1 7 := if_neg (fun e => hk (by rw [← e]; decide))
  have e8 : (sti σ k i v).1 8 = σ.1 8 := if_neg (fun e => hk (by rw [← e]; decide))
  have e9 : (sti σ k i v).1 9 = σ.1 9 := if_neg (fun e => hk (by rw [← e]; decide))
  have e10 : (sti σ k i v).1 10 = σ.1 10 := if_neg (fun e => hk (by rw [← e]; decide))
  have e11 : (sti σ k i v).1 11 = σ.1 11 := if_neg (fun e => hk (by rw [← e]; decide))
  rw [e4, e5, e6, e7, e8, e9, e10, e11]
  exact h
theorem LV.st3 {σ : Sto} {k : Nat} {f : Nat → Int32} (hk : k ∉ ([4, 5, 6, 7, 8, 9, 10, 11] : List Nat)) (h : LV σ) : LV (stc σ k f) := by
  unfold LV at h ⊢
  have e4 : (stc σ k f).1 4 = σ.1 4 := if_neg (fun e => hk (by rw [← e]; decide))
  have e5 : (stc σ k f).1 5 = σ.1 5 := if_neg (fun e => hk (by rw [← e]; decide))
  have e6 : (stc σ k f).1 6 = σ.1 6 := if_neg (fun e => hk (by rw [← e]; decide))
  have e7 : (stc σ k f).1 7 = σ.1 7 := if_neg (fun e => hk (by rw [← e]; decide))
  have e8 : (stc σ k f).1 8 = σ.1 8 := if_neg (fun e => hk (by rw [← e]; decide))
  have e9 : (stc σ k f).1 9 = σ.1 9 := if_neg (fun e => hk (by rw [← e]; decide))
  have e10 : (stc σ k f).1 10 = σ.1 10 := if_neg (fun e => hk (by rw [← e]; decide))
  have e11 : (stc σ k f).1 11 = σ.1 11 := if_neg (fun e => hk (by rw [← e]; decide))
  rw [e4, e5, e6, e7, e8, e9, e10, e11]
  exact h
theorem LV.st2 {σ : Sto} {k i : Nat} {v : Int64} (hk : k ∉ ([] : List Nat)) (h : LV σ) : LV (stl σ k i v) := by
  unfold LV at h ⊢
  exact h
theorem LV.fr {ms ml : List Nat} {σ s : Sto} (hG : FR ms ml σ s) (hd : ([4, 5, 6, 7, 8, 9, 10, 11] : List Nat).all (fun k => !ms.contains k) && ([] : List Nat).all (fun k => !ml.contains k) = true) (h : LV σ) : LV s := by
  unfold LV at h ⊢
  simp only [Bool.and_eq_true, List.all_eq_true] at hd
  have e4 : s.1 4 = σ.1 4 := hG.1 4 (fun z => by have := hd.1 4 (by decide); simp [z] at this)
  have e5 : s.1 5 = σ.1 5 := hG.1 5 (fun z => by have := hd.1 5 (by decide); simp [z] at this)
  have e6 : s.1 6 = σ.1 6 := hG.1 6 (fun z => by have := hd.1 6 (by decide); simp [z] at this)
  have e7 : s.1 7 = σ.1 7 := hG.1 7 (fun z => by have := hd.1 7 (by decide); simp [z] at this)
  have e8 : s.1 8 = σ.1 8 := hG.1 8 (fun z => by have := hd.1 8 (by decide); simp [z] at this)
  have e9 : s.1 9 = σ.1 9 := hG.1 9 (fun z => by have := hd.1 9 (by decide); simp [z] at this)
  have e10 : s.1 10 = σ.1 10 := hG.1 10 (fun z => by have := hd.1 10 (by decide); simp [z] at this)
  have e11 : s.1 11 = σ.1 11 := hG.1 11 (fun z => by have := hd.1 11 (by decide); simp [z] at this)
  rw [e4, e5, e6, e7, e8, e9, e10, e11]
  exact h

def QVr (r0 : Nat → Int32) (r4 : Nat → Int32) (r5 : Nat → Int32) (r6 : Nat → Int32) (r7 : Nat → Int32) (r8 : Nat → Int32) (r9 : Nat → Int32) (r10 : Nat → Int32) (r11 : Nat → Int32)  : Prop := (r0 0).toInt ≠ 0 → 1 ≤ (r4 0).toInt ∧ JR (r4 0).toInt (r5 0).toInt r6 r7 r8 r9 r10 r11
def QV (σ : Sto) : Prop := QVr (σ.1 0) (σ.1 4) (σ.1 5) (σ.1 6) (σ.1 7) (σ.1 8) (σ.1 9) (σ.1 10) (σ.1 11)
theorem QV.st1 {σ : Sto} {k i : Nat} {v : Int32} (hk : k ∉ ([0, 4, 5, 6, 7, 8, 9, 10, 11] : List Nat)) (h : QV σ) : QV (sti σ k i v) := by
  unfold QV at h ⊢
  have e0 : (sti σ k i v).1 0 = σ.1 0 := if_neg (fun e => hk (by rw [← e]; decide))
  have e4 : (sti σ k i v).1 4 = σ.1 4 := if_neg (fun e => hk (by rw [← e]; decide))
  have e5 : (sti σ k i v).1 5 = σ.1 5 := if_neg (fun e => hk (by rw [← e]; decide))
  have e6 : (sti σ k i v).1 6 = σ.1 6 := if_neg (fun e => hk (by rw [← e]; decide))
  have e7 : (sti σ k i v).1 7 = σ.1 7 := if_neg (fun e => hk (by rw [← e]; decide))
  have e8 : (sti σ k i v).1 8 = σ.1 8 := if_neg (fun e => hk (by rw [← e]; decide))
  have e9 : (sti σ k i v).1 9 = σ.1 9 := if_neg (fun e => hk (by rw [← e]; decide))
  have e10 : (sti σ k i v).1 10 = σ.1 10 := if_neg (fun e => hk (by rw [← e]; decide))
  have e11 : (sti σ k i v).1 11 = σ.1 11 := if_neg (fun e => hk (by rw [← e]; decide))
  rw [e0, e4, e5, e6, e7, e8, e9, e10, e11]
  exact h
theorem QV.st3 {σ : Sto} {k : Nat} {f : Nat → Int32} (hk : k ∉ ([0, 4, 5, 6, 7, 8, 9, 10, 11] : List Nat)) (h : QV σ) : QV (stc σ k f) := by
  unfold QV at h ⊢
  have e0 : (stc σ k f).1 0 = σ.1 0 := if_neg (fun e => hk (by rw [← e]; decide))
  have e4 : (stc σ k f).1 4 = σ.1 4 := if_neg (fun e => hk (by rw [← e]; decide))
  have e5 : (stc σ k f).1 5 = σ.1 5 := if_neg (fun e => hk (by rw [← e]; decide))
  have e6 : (stc σ k f).1 6 = σ.1 6 := if_neg (fun e => hk (by rw [← e]; decide))
  have e7 : (stc σ k f).1 7 = σ.1 7 := if_neg (fun e => hk (by rw [← e]; decide))
  have e8 : (stc σ k f).1 8 = σ.1 8 := if_neg (fun e => hk (by rw [← e]; decide))
  have e9 : (stc σ k f).1 9 = σ.1 9 := if_neg (fun e => hk (by rw [← e]; decide))
  have e10 : (stc σ k f).1 10 = σ.1 10 := if_neg (fun e => hk (by rw [← e]; decide))
  have e11 : (stc σ k f).1 11 = σ.1 11 := if_neg (fun e => hk (by rw [← e]; decide))
  rw [e0, e4, e5, e6, e7, e8, e9, e10, e11]
  exact h
theorem QV.st2 {σ : Sto} {k i : Nat} {v : Int64} (hk : k ∉ ([] : List Nat)) (h : QV σ) : QV (stl σ k i v) := by
  unfold QV at h ⊢
  exact h
theorem QV.fr {ms ml : List Nat} {σ s : Sto} (hG : FR ms ml σ s) (hd : ([0, 4, 5, 6, 7, 8, 9, 10, 11] : List Nat).all (fun k => !ms.contains k) && ([] : List Nat).all (fun k => !ml.contains k) = true) (h : QV σ) : QV s := by
  unfold QV at h ⊢
  simp only [Bool.and_eq_true, List.all_eq_true] at hd
  have e0 : s.1 0 = σ.1 0 := hG.1 0 (fun z => by have := hd.1 0 (by decide); simp [z] at this)
  have e4 : s.1 4 = σ.1 4 := hG.1 4 (fun z => by have := hd.1 4 (by decide); simp [z] at this)
  have e5 : s.1 5 = σ.1 5 := hG.1 5 (fun z => by have := hd.1 5 (by decide); simp [z] at this)
  have e6 : s.1 6 = σ.1 6 := hG.1 6 (fun z => by have := hd.1 6 (by decide); simp [z] at this)
  have e7 : s.1 7 = σ.1 7 := hG.1 7 (fun z => by have := hd.1 7 (by decide); simp [z] at this)
  have e8 : s.1 8 = σ.1 8 := hG.1 8 (fun z => by have := hd.1 8 (by decide); simp [z] at this)
  have e9 : s.1 9 = σ.1 9 := hG.1 9 (fun z => by have := hd.1 9 (by decide); simp [z] at this)
  have e10 : s.1 10 = σ.1 10 := hG.1 10 (fun z => by have := hd.1 10 (by decide); simp [z] at this)
  have e11 : s.1 11 = σ.1 11 := hG.1 11 (fun z => by have := hd.1 11 (by decide); simp [z] at this)
  rw [e0, e4, e5, e6, e7, e8, e9, e10, e11]
  exact h

def LD1 (n sz : Int) (sg nm : Nat → Int32) : Prop := ∀ i : Nat, (i : Int) < n → gEl (sg i) → (nm i).toInt < sz
def LD2 (n sz : Int) (fr up go : Nat → Int32) : Prop := ∀ h : Nat, (h : Int) < n → (fr h).toInt < (up h).toInt ∧ (up h).toInt ≤ sz ∧ (go h).toInt < sz
theorem LD1.s {n m sz : Int} {sg nm : Nat → Int32} (h : LD1 n sz sg nm) (k : Nat) (hk : (k : Int) = n) (hm : m = n + 1) (hg : gEl (sg k) → (nm k).toInt < sz) : LD1 m sz sg nm := fun i hi g => by
  by_cases q : i = k
  · subst q; exact hg g
  · exact h i (by omega) g
theorem LD2.s {n m sz : Int} {fr up go : Nat → Int32} (h : LD2 n sz fr up go) (k : Nat) (hk : (k : Int) = n) (hm : m = n + 1) (hg : (fr k).toInt < (up k).toInt ∧ (up k).toInt ≤ sz ∧ (go k).toInt < sz) : LD2 m sz fr up go := fun i hi => by
  by_cases q : i = k
  · subst q; exact hg
  · exact h i (by omega)

theorem gv_0 (g : Int) : 0 ≤ gvI g := by unfold gvI; (repeat split) <;> omega

def cur (σ : Sto) : Int32 := if (σ.1 2 0).toInt ≤ (σ.1 3 0).toInt then 0 else (σ.1 1 (σ.1 3 0).toNatClampNeg) &&& 255
set_option maxHeartbeats 4000000 in
theorem s_X3_handlerOf {x1 : Int32} {σ : Sto} (hB : BX σ) (p_x1 : 0 ≤ x1.toInt ∧ x1.toInt ≤ 39) : OK (f_X3_handlerOf x1 σ) (fun v => ((-1) ≤ v.toInt ∧ v.toInt ≤ 2) ∧ ((v.toInt ≠ -1 → v.toInt < (σ.1 5 0).toInt))) := by
  unfold f_X3_handlerOf
  have hF : FR [] [] σ σ := FR.rf
  have k_m1 : ((-1) : Int32).toInt = -1 := by decide +kernel
  have k_0 : (0 : Int32).toInt = 0 := by decide +kernel
  have k_1 : (1 : Int32).toInt = 1 := by decide +kernel
  refine ok_itr1 (fun (n : Nat) (x2_1 : Int32) => n = (4 - x2_1.toInt).toNat ∧ (0 ≤ x2_1.toInt ∧ x2_1.toInt ≤ 3)) ?_ (n := _) ⟨rfl, (by omega)⟩ (show _ < 10000000 by omega)
  intro a_2 n x2_1 hI ih_a_2
  obtain ⟨hn_a_2, b_x2_1⟩ := hI
  have g_2 := gX_5 hB 0
  refine ok_ite (fun c_1 => ?_) (fun c_1 => ?_)
  · rw [fa_le] at c_1
    exact ok_ret ⟨(by (try dsimp only); omega), (fun h => by (try dsimp only at h); (try dsimp only); omega)⟩
  · rw [fa_le] at c_1
    refine ok_ix ⟨by omega, by omega⟩ ?_
    have g_3 := gX_9 hB (x2_1.toNatClampNeg)
    refine ok_lt fun v_3 e_v_3 => ?_
    have b_v_3 : 0 ≤ v_3.toInt ∧ v_3.toInt ≤ 40 := by rw [e_v_3]; exact gX_9 hB _
    refine ok_jn ?_
    refine ok_ite (fun c_4 => ?_) (fun c_4 => ?_)
    · rw [fa_lt] at c_4
      obtain ⟨t_5, ht_5, g_5⟩ : ∃ t : Int, (x2_1 + 1).toInt = t ∧ t = x2_1.toInt + (1 : Int32).toInt := ⟨_, rfl, by have h9 := fb_addI (x := x2_1) (y := (1 : Int32)) (by omega) (by omega); exact h9⟩
      refine ok_lt fun x2_5 e_x2_5 => ?_
      have q_x2_5 : x2_5.toInt = t_5 := by rw [e_x2_5]; exact ht_5
      exact ih_a_2 _ x2_5 (by rw [hn_a_2]; omega) ⟨rfl, (by omega)⟩
    · rw [fa_lt] at c_4
      refine ok_ix ⟨by omega, by omega⟩ ?_
      have g_6 := gX_10 hB (x2_1.toNatClampNeg)
      refine ok_lt fun v_7 e_v_7 => ?_
      have b_v_7 : 0 ≤ v_7.toInt ∧ v_7.toInt ≤ 40 := by rw [e_v_7]; exact gX_10 hB _
      refine ok_ite (fun c_7 => ?_) (fun c_7 => ?_)
      · rw [fa_le] at c_7
        obtain ⟨t_8, ht_8, g_8⟩ : ∃ t : Int, (x2_1 + 1).toInt = t ∧ t = x2_1.toInt + (1 : Int32).toInt := ⟨_, rfl, by have h9 := fb_addI (x := x2_1) (y := (1 : Int32)) (by omega) (by omega); exact h9⟩
        refine ok_lt fun x2_5 e_x2_5 => ?_
        have q_x2_5 : x2_5.toInt = t_8 := by rw [e_x2_5]; exact ht_8
        exact ih_a_2 _ x2_5 (by rw [hn_a_2]; omega) ⟨rfl, (by omega)⟩
      · rw [fa_le] at c_7
        exact ok_ret ⟨(by (try dsimp only); omega), (fun h => by (try dsimp only at h); (try dsimp only); omega)⟩

set_option maxHeartbeats 4000000 in
theorem s_X11_isIn {x1 : Int64} {x2 : Int32} : OK (f_X11_isIn x1 x2) (fun v => (0 ≤ v.toInt ∧ v.toInt ≤ 1)) := by
  unfold f_X11_isIn
  have k_0 : (0 : Int32).toInt = 0 := by decide +kernel
  have k_1 : (1 : Int32).toInt = 1 := by decide +kernel
  obtain ⟨t_2, ht_2, g_2⟩ : ∃ t : Int, (lg_cmp ((x1.toUInt64 >>> ((x2.toInt64).toUInt64 &&& (63 : Int64).toUInt64)).toInt64 &&& 1) (0 : Int64)).toInt = t ∧ -2147483648 ≤ t ∧ t ≤ 2147483647 := ⟨_, rfl, tI_rng _⟩
  refine ok_ite (fun c_1 => ?_) (fun c_1 => ?_)
  · rw [lg_cmp_eq] at c_1
    exact ok_ret (by (try dsimp only); omega)
  · rw [lg_cmp_eq] at c_1
    exact ok_ret (by (try dsimp only); omega)

set_option maxHeartbeats 4000000 in
theorem s_X11_isBlock {x1 : Int32} {σ : Sto} (hB : BX σ) : OK (f_X11_isBlock x1 σ) (fun v => (0 ≤ v.toInt ∧ v.toInt ≤ 1) ∧ ((v.toInt = 1 → 0 ≤ x1.toInt ∧ x1.toInt < (σ.1 20 0).toInt))) := by
  unfold f_X11_isBlock
  have hF : FR [] [] σ σ := FR.rf
  have k_0 : (0 : Int32).toInt = 0 := by decide +kernel
  have k_1 : (1 : Int32).toInt = 1 := by decide +kernel
  have g9 := gX_20 hB 0
  refine ok_jn ?_
  have g_2 := gX_0 hB 0
  refine ok_ite (fun c_1 => ?_) (fun c_1 => ?_)
  · rw [fa_eq] at c_1
    exact ok_ret ⟨(by (try dsimp only); omega), (by (try dsimp only); omega)⟩
  · rw [fa_eq] at c_1
    refine ok_ite (fun c_3 => ?_) (fun c_3 => ?_)
    · rw [fa_lt] at c_3
      exact ok_ret ⟨(by (try dsimp only); omega), (by (try dsimp only); omega)⟩
    · rw [fa_lt] at c_3
      have g_5 := gX_20 hB 0
      refine ok_ite (fun c_4 => ?_) (fun c_4 => ?_)
      · rw [fa_le] at c_4
        exact ok_ret ⟨(by (try dsimp only); omega), (by (try dsimp only); omega)⟩
      · rw [fa_le] at c_4
        exact ok_ret ⟨(by (try dsimp only); omega), (by (try dsimp only); omega)⟩

set_option maxHeartbeats 4000000 in
theorem s_J13_bitCount_95d88 {x1 : Int64} : OK (f_J13_bitCount_95d88 x1) (fun v => (0 ≤ v.toInt ∧ v.toInt ≤ 127)) := by
  unfold f_J13_bitCount_95d88
  refine ok_lt fun x0_1 e_x0_1 => ?_
  refine ok_lt fun x0_2 e_x0_2 => ?_
  refine ok_lt fun x0_3 e_x0_3 => ?_
  refine ok_lt fun x0_4 e_x0_4 => ?_
  refine ok_lt fun x0_5 e_x0_5 => ?_
  refine ok_lt fun x0_6 e_x0_6 => ?_
  obtain ⟨t_1, ht_1, g_1⟩ : ∃ t : Int, (x0_6.toInt32 &&& 127).toInt = t ∧ 0 ≤ t ∧ t ≤ 127 := ⟨_, rfl, and_rng (x := x0_6.toInt32) 127 rfl (by decide)⟩
  exact ok_ret (by (try dsimp only); rw [ht_1]; omega)

set_option maxHeartbeats 4000000 in
theorem s_X8_innermost {x1 : Int32} {σ : Sto} (hB : BX σ) : OK (f_X8_innermost x1 σ) (fun v => ((-1) ≤ v.toInt ∧ v.toInt ≤ 39)) := by
  unfold f_X8_innermost
  have hF : FR [] [] σ σ := FR.rf
  have k_m1 : ((-1) : Int32).toInt = -1 := by decide +kernel
  have k_0 : (0 : Int32).toInt = 0 := by decide +kernel
  have k_1 : (1 : Int32).toInt = 1 := by decide +kernel
  refine ok_itr2 (fun (n : Nat) (x2_1 : Int32) (x3_1 : Int32) => n = (41 - x3_1.toInt).toNat ∧ ((-1) ≤ x2_1.toInt ∧ x2_1.toInt ≤ 39) ∧ (0 ≤ x3_1.toInt ∧ x3_1.toInt ≤ 40)) ?_ (n := _) ⟨rfl, (by omega), (by omega)⟩ (show _ < 10000000 by omega)
  intro a_4 n x2_1 x3_1 hI ih_a_4
  obtain ⟨hn_a_4, b_x2_1, b_x3_1⟩ := hI
  have g_2 := gX_20 hB 0
  refine ok_ite (fun c_1 => ?_) (fun c_1 => ?_)
  · rw [fa_le] at c_1
    exact ok_ret (by (try dsimp only); omega)
  · rw [fa_le] at c_1
    refine ok_ix ⟨by omega, by omega⟩ ?_
    refine ok_lt fun v_3 e_v_3 => ?_
    refine ok_calp (s_X11_isIn (x1 := v_3) (x2 := x1) ) (fun v_4 h_3 => ?_)
    have b_v_4 := h_3
    (try dsimp only at b_v_4)
    refine ok_jn ?_
    refine ok_ite (fun c_4 => ?_) (fun c_4 => ?_)
    · rw [fa_eq] at c_4
      obtain ⟨t_5, ht_5, g_5⟩ : ∃ t : Int, (x3_1 + 1).toInt = t ∧ t = x3_1.toInt + (1 : Int32).toInt := ⟨_, rfl, by have h9 := fb_addI (x := x3_1) (y := (1 : Int32)) (by omega) (by omega); exact h9⟩
      refine ok_lt fun x3_6 e_x3_6 => ?_
      have q_x3_6 : x3_6.toInt = t_5 := by rw [e_x3_6]; exact ht_5
      exact ih_a_4 _ x2_1 x3_6 (by rw [hn_a_4]; omega) ⟨rfl, (by omega), (by omega)⟩
    · rw [fa_eq] at c_4
      refine ok_jn ?_
      refine ok_ite (fun c_6 => ?_) (fun c_6 => ?_)
      · rw [fa_eq] at c_6
        obtain ⟨t_7, ht_7, g_7⟩ : ∃ t : Int, (x3_1 + 1).toInt = t ∧ t = x3_1.toInt + (1 : Int32).toInt := ⟨_, rfl, by have h9 := fb_addI (x := x3_1) (y := (1 : Int32)) (by omega) (by omega); exact h9⟩
        refine ok_lt fun x3_6 e_x3_6 => ?_
        have q_x3_6 : x3_6.toInt = t_7 := by rw [e_x3_6]; exact ht_7
        exact ih_a_4 _ x3_1 x3_6 (by rw [hn_a_4]; omega) ⟨rfl, (by omega), (by omega)⟩
      · rw [fa_eq] at c_6
        refine ok_ix ⟨by omega, by omega⟩ ?_
        refine ok_lt fun v_10 e_v_10 => ?_
        refine ok_calp (s_J13_bitCount_95d88 (x1 := v_10) ) (fun v_11 h_8 => ?_)
        have b_v_11 := h_8
        (try dsimp only at b_v_11)
        refine ok_ix ⟨by omega, by omega⟩ ?_
        refine ok_lt fun v_12 e_v_12 => ?_
        refine ok_calp (s_J13_bitCount_95d88 (x1 := v_12) ) (fun v_13 h_9 => ?_)
        have b_v_13 := h_9
        (try dsimp only at b_v_13)
        refine ok_ite (fun c_10 => ?_) (fun c_10 => ?_)
        · rw [fa_le] at c_10
          obtain ⟨t_11, ht_11, g_11⟩ : ∃ t : Int, (x3_1 + 1).toInt = t ∧ t = x3_1.toInt + (1 : Int32).toInt := ⟨_, rfl, by have h9 := fb_addI (x := x3_1) (y := (1 : Int32)) (by omega) (by omega); exact h9⟩
          refine ok_lt fun x3_6 e_x3_6 => ?_
          have q_x3_6 : x3_6.toInt = t_11 := by rw [e_x3_6]; exact ht_11
          exact ih_a_4 _ x2_1 x3_6 (by rw [hn_a_4]; omega) ⟨rfl, (by omega), (by omega)⟩
        · rw [fa_le] at c_10
          obtain ⟨t_12, ht_12, g_12⟩ : ∃ t : Int, (x3_1 + 1).toInt = t ∧ t = x3_1.toInt + (1 : Int32).toInt := ⟨_, rfl, by have h9 := fb_addI (x := x3_1) (y := (1 : Int32)) (by omega) (by omega); exact h9⟩
          refine ok_lt fun x3_6 e_x3_6 => ?_
          have q_x3_6 : x3_6.toInt = t_12 := by rw [e_x3_6]; exact ht_12
          exact ih_a_4 _ x3_1 x3_6 (by rw [hn_a_4]; omega) ⟨rfl, (by omega), (by omega)⟩

set_option maxHeartbeats 4000000 in
theorem s_X8_loopsRound {x1 : Int32} {σ : Sto} (hB : BX σ) : OK (f_X8_loopsRound x1 σ) (fun v => True) := by
  unfold f_X8_loopsRound
  have hF : FR [] [] σ σ := FR.rf
  have k_0 : (0 : Int32).toInt = 0 := by decide +kernel
  have k_1 : (1 : Int32).toInt = 1 := by decide +kernel
  refine ok_itr2 (fun (n : Nat) (x2_1 : Int32) (x3_1 : Int32) => n = (41 - x3_1.toInt).toNat ∧ (0 ≤ x3_1.toInt ∧ x3_1.toInt ≤ 40)) ?_ (n := _) ⟨rfl, (by omega)⟩ (show _ < 10000000 by omega)
  intro a_4 n x2_1 x3_1 hI ih_a_4
  obtain ⟨hn_a_4, b_x3_1⟩ := hI
  have g_2 := gX_20 hB 0
  refine ok_ite (fun c_1 => ?_) (fun c_1 => ?_)
  · rw [fa_le] at c_1
    exact ok_ret trivial
  · rw [fa_le] at c_1
    refine ok_ix ⟨by omega, by omega⟩ ?_
    refine ok_lt fun v_3 e_v_3 => ?_
    refine ok_calp (s_X11_isIn (x1 := v_3) (x2 := x1) ) (fun v_4 h_3 => ?_)
    have b_v_4 := h_3
    (try dsimp only at b_v_4)
    refine ok_jn ?_
    refine ok_ite (fun c_4 => ?_) (fun c_4 => ?_)
    · rw [fa_eq] at c_4
      obtain ⟨t_5, ht_5, g_5⟩ : ∃ t : Int, (x3_1 + 1).toInt = t ∧ t = x3_1.toInt + (1 : Int32).toInt := ⟨_, rfl, by have h9 := fb_addI (x := x3_1) (y := (1 : Int32)) (by omega) (by omega); exact h9⟩
      refine ok_lt fun x3_6 e_x3_6 => ?_
      have q_x3_6 : x3_6.toInt = t_5 := by rw [e_x3_6]; exact ht_5
      exact ih_a_4 _ x2_1 x3_6 (by rw [hn_a_4]; omega) ⟨rfl, (by omega)⟩
    · rw [fa_eq] at c_4
      obtain ⟨t_6, ht_6, g_6⟩ : ∃ t : Int, (x2_1 + 1).toInt = t ∧ -2147483648 ≤ t ∧ t ≤ 2147483647 := ⟨_, rfl, tI_rng _⟩
      refine ok_lt fun x2_8 e_x2_8 => ?_
      have q_x2_8 : x2_8.toInt = t_6 := by rw [e_x2_8]; exact ht_6
      obtain ⟨t_7, ht_7, g_7⟩ : ∃ t : Int, (x3_1 + 1).toInt = t ∧ t = x3_1.toInt + (1 : Int32).toInt := ⟨_, rfl, by have h9 := fb_addI (x := x3_1) (y := (1 : Int32)) (by omega) (by omega); exact h9⟩
      refine ok_lt fun x3_6 e_x3_6 => ?_
      have q_x3_6 : x3_6.toInt = t_7 := by rw [e_x3_6]; exact ht_7
      exact ih_a_4 _ x2_8 x3_6 (by rw [hn_a_4]; omega) ⟨rfl, (by omega)⟩

set_option maxHeartbeats 4000000 in
theorem s_X11_bytesIn {x1 : Int32} : OK (f_X11_bytesIn x1) (fun v => True) := by
  unfold f_X11_bytesIn
  have k_m8 : ((-8) : Int32).toInt = -8 := by decide +kernel
  have k_0 : (0 : Int32).toInt = 0 := by decide +kernel
  have k_1 : (1 : Int32).toInt = 1 := by decide +kernel
  have k_24 : (24 : Int32).toInt = 24 := by decide +kernel
  refine ok_itr2 (fun (n : Nat) (x1_1 : Int32) (x2_1 : Int32) => n = (x2_1.toInt - (-1000001)).toNat ∧ ((-1000000) ≤ x2_1.toInt ∧ x2_1.toInt ≤ 24)) ?_ (n := _) ⟨rfl, (by omega)⟩ (show _ < 10000000 by omega)
  intro a_5 n x1_1 x2_1 hI ih_a_5
  obtain ⟨hn_a_5, b_x2_1⟩ := hI
  refine ok_ite (fun c_1 => ?_) (fun c_1 => ?_)
  · rw [fa_lt] at c_1
    exact ok_ret trivial
  · rw [fa_lt] at c_1
    refine ok_jn ?_
    obtain ⟨t_3, ht_3, g_3⟩ : ∃ t : Int, ((x1.toUInt32 >>> (x2_1.toUInt32 &&& (31 : Int32).toUInt32)).toInt32 &&& 255).toInt = t ∧ 0 ≤ t ∧ t ≤ 255 := ⟨_, rfl, and_rng (x := (x1.toUInt32 >>> (x2_1.toUInt32 &&& (31 : Int32).toUInt32)).toInt32) 255 rfl (by decide)⟩
    refine ok_ite (fun c_2 => ?_) (fun c_2 => ?_)
    · rw [fa_eq, ht_3] at c_2
      obtain ⟨t_4, ht_4, g_4⟩ : ∃ t : Int, (x2_1 + (-8)).toInt = t ∧ t = x2_1.toInt + ((-8) : Int32).toInt := ⟨_, rfl, by have h9 := fb_addI (x := x2_1) (y := ((-8) : Int32)) (by omega) (by omega); exact h9⟩
      refine ok_lt fun x2_4 e_x2_4 => ?_
      have q_x2_4 : x2_4.toInt = t_4 := by rw [e_x2_4]; exact ht_4
      exact ih_a_5 _ x1_1 x2_4 (by rw [hn_a_5]; omega) ⟨rfl, (by omega)⟩
    · rw [fa_eq, ht_3] at c_2
      obtain ⟨t_5, ht_5, g_5⟩ : ∃ t : Int, (x1_1 + 1).toInt = t ∧ -2147483648 ≤ t ∧ t ≤ 2147483647 := ⟨_, rfl, tI_rng _⟩
      refine ok_lt fun x1_6 e_x1_6 => ?_
      have q_x1_6 : x1_6.toInt = t_5 := by rw [e_x1_6]; exact ht_5
      obtain ⟨t_6, ht_6, g_6⟩ : ∃ t : Int, (x2_1 + (-8)).toInt = t ∧ t = x2_1.toInt + ((-8) : Int32).toInt := ⟨_, rfl, by have h9 := fb_addI (x := x2_1) (y := ((-8) : Int32)) (by omega) (by omega); exact h9⟩
      refine ok_lt fun x2_4 e_x2_4 => ?_
      have q_x2_4 : x2_4.toInt = t_6 := by rw [e_x2_4]; exact ht_6
      exact ih_a_5 _ x1_6 x2_4 (by rw [hn_a_5]; omega) ⟨rfl, (by omega)⟩

set_option maxHeartbeats 4000000 in
theorem s_X9_append {x1 : Int32} {σ : Sto} (hB : BX σ) : OK (f_X9_append x1 σ) (fun s => BX s ∧ FR [1, 2] [] σ s) := by
  unfold f_X9_append
  have hF : FR [1, 2] [] σ σ := FR.rf
  have k_m8 : ((-8) : Int32).toInt = -8 := by decide +kernel
  have k_0 : (0 : Int32).toInt = 0 := by decide +kernel
  have k_1 : (1 : Int32).toInt = 1 := by decide +kernel
  have k_24 : (24 : Int32).toInt = 24 := by decide +kernel
  have k_240 : (240 : Int32).toInt = 240 := by decide +kernel
  refine ok_itr2 (fun (n : Nat) (x2_1 : Int32) (s_1 : Sto) => n = (x2_1.toInt - (-1000001)).toNat ∧ ((-1000000) ≤ x2_1.toInt ∧ x2_1.toInt ≤ 24) ∧ (BX s_1) ∧ (FR [1, 2] [] σ s_1)) ?_ (n := _) ⟨rfl, (by omega), hB, hF⟩ (show _ < 10000000 by omega)
  intro a_3 n x2_1 s_1 hI ih_a_3
  obtain ⟨hn_a_3, b_x2_1, hB_s_1, hF_s_1⟩ := hI
  refine ok_ite (fun c_1 => ?_) (fun c_1 => ?_)
  · rw [fa_lt] at c_1
    exact ok_ret ⟨hB_s_1, hF_s_1⟩
  · rw [fa_lt] at c_1
    obtain ⟨t_2, ht_2, g_2⟩ : ∃ t : Int, ((x1.toUInt32 >>> (x2_1.toUInt32 &&& (31 : Int32).toUInt32)).toInt32 &&& 255).toInt = t ∧ 0 ≤ t ∧ t ≤ 255 := ⟨_, rfl, and_rng (x := (x1.toUInt32 >>> (x2_1.toUInt32 &&& (31 : Int32).toUInt32)).toInt32) 255 rfl (by decide)⟩
    refine ok_lt fun x3_3 e_x3_3 => ?_
    have q_x3_3 : x3_3.toInt = t_2 := by rw [e_x3_3]; exact ht_2
    refine ok_jn ?_
    refine ok_ite (fun c_3 => ?_) (fun c_3 => ?_)
    · rw [fa_eq] at c_3
      obtain ⟨t_4, ht_4, g_4⟩ : ∃ t : Int, (x2_1 + (-8)).toInt = t ∧ t = x2_1.toInt + ((-8) : Int32).toInt := ⟨_, rfl, by have h9 := fb_addI (x := x2_1) (y := ((-8) : Int32)) (by omega) (by omega); exact h9⟩
      refine ok_lt fun x2_5 e_x2_5 => ?_
      have q_x2_5 : x2_5.toInt = t_4 := by rw [e_x2_5]; exact ht_4
      exact ih_a_3 _ x2_5 s_1 (by rw [hn_a_3]; omega) ⟨rfl, (by omega), hB_s_1, hF_s_1⟩
    · rw [fa_eq] at c_3
      have g_6 := gX_2 hB_s_1 0
      refine ok_ite (fun c_5 => ?_) (fun c_5 => ?_)
      · rw [fa_le] at c_5
        obtain ⟨t_7, ht_7, g_7⟩ : ∃ t : Int, (x2_1 + (-8)).toInt = t ∧ t = x2_1.toInt + ((-8) : Int32).toInt := ⟨_, rfl, by have h9 := fb_addI (x := x2_1) (y := ((-8) : Int32)) (by omega) (by omega); exact h9⟩
        refine ok_lt fun x2_5 e_x2_5 => ?_
        have q_x2_5 : x2_5.toInt = t_7 := by rw [e_x2_5]; exact ht_7
        exact ih_a_3 _ x2_5 s_1 (by rw [hn_a_3]; omega) ⟨rfl, (by omega), hB_s_1, hF_s_1⟩
      · rw [fa_le] at c_5
        refine ok_ix ⟨by omega, by omega⟩ ?_
        obtain ⟨t_8, ht_8, g_8⟩ : ∃ t : Int, (((x3_3.toInt8).toInt32).toInt8).toInt32.toInt = t ∧ -128 ≤ t ∧ t ≤ 127 := ⟨_, rfl, i8_rng _⟩
        refine ok_lt fun s_8 e_s_8 => ?_
        have hB_s_8 : BX s_8 := by rw [e_s_8]; exact pX_1 hB_s_1 (by rw [ht_8]; omega)
        have hF_s_8 : FR [1, 2] [] σ s_8 := by rw [e_s_8]; exact FR.st hF_s_1 (by decide)
        have w_s_8_2 : (s_8.1 2 0).toInt = (s_1.1 2 0).toInt := by rw [e_s_8]; rfl
        have g_9 := gX_2 hB_s_8 0
        obtain ⟨t_10, ht_10, g_10⟩ : ∃ t : Int, ((s_8.1 2 0) + 1).toInt = t ∧ t = (s_8.1 2 0).toInt + (1 : Int32).toInt := ⟨_, rfl, by have h9 := fb_addI (x := (s_8.1 2 0)) (y := (1 : Int32)) (by omega) (by omega); exact h9⟩
        refine ok_lt fun s_9 e_s_9 => ?_
        have hB_s_9 : BX s_9 := by rw [e_s_9]; exact pX_2 hB_s_8 (by rw [ht_10]; omega)
        have hF_s_9 : FR [1, 2] [] σ s_9 := by rw [e_s_9]; exact FR.st hF_s_8 (by decide)
        have w_s_9_2 : (s_9.1 2 0).toInt = t_10 := by rw [e_s_9, sti_s, ht_10]
        obtain ⟨t_11, ht_11, g_11⟩ : ∃ t : Int, (x2_1 + (-8)).toInt = t ∧ t = x2_1.toInt + ((-8) : Int32).toInt := ⟨_, rfl, by have h9 := fb_addI (x := x2_1) (y := ((-8) : Int32)) (by omega) (by omega); exact h9⟩
        refine ok_lt fun x2_5 e_x2_5 => ?_
        have q_x2_5 : x2_5.toInt = t_11 := by rw [e_x2_5]; exact ht_11
        exact ih_a_3 _ x2_5 s_9 (by rw [hn_a_3]; omega) ⟨rfl, (by omega), hB_s_9, hF_s_9⟩

set_option maxHeartbeats 4000000 in
theorem s_X11_feed {x1 : Int32} {x2 : Int32} {x3 : Int32} {x4 : Int32} {x5 : Int32} {σ : Sto} (hB : BX σ) : OK (f_X11_feed x1 x2 x3 x4 x5 σ) (fun r => ((-1) ≤ r.1.toInt ∧ r.1.toInt ≤ 240) ∧ BX r.2 ∧ FR [1, 2] [] σ r.2) := by
  unfold f_X11_feed
  have hF : FR [1, 2] [] σ σ := FR.rf
  have k_m1 : ((-1) : Int32).toInt = -1 := by decide +kernel
  have k_240 : (240 : Int32).toInt = 240 := by decide +kernel
  refine ok_calp (s_X11_bytesIn (x1 := x1) ) (fun v_1 h_1 => ?_)
  have b_v_1 := h_1
  (try dsimp only at b_v_1)
  refine ok_calp (s_X11_bytesIn (x1 := x2) ) (fun v_2 h_2 => ?_)
  have b_v_2 := h_2
  (try dsimp only at b_v_2)
  refine ok_calp (s_X11_bytesIn (x1 := x3) ) (fun v_3 h_3 => ?_)
  have b_v_3 := h_3
  (try dsimp only at b_v_3)
  refine ok_calp (s_X11_bytesIn (x1 := x4) ) (fun v_4 h_4 => ?_)
  have b_v_4 := h_4
  (try dsimp only at b_v_4)
  refine ok_calp (s_X11_bytesIn (x1 := x5) ) (fun v_5 h_5 => ?_)
  have b_v_5 := h_5
  (try dsimp only at b_v_5)
  obtain ⟨t_6, ht_6, g_6⟩ : ∃ t : Int, (v_1 + v_2).toInt = t ∧ -2147483648 ≤ t ∧ t ≤ 2147483647 := ⟨_, rfl, tI_rng _⟩
  obtain ⟨t_7, ht_7, g_7⟩ : ∃ t : Int, ((v_1 + v_2) + v_3).toInt = t ∧ -2147483648 ≤ t ∧ t ≤ 2147483647 := ⟨_, rfl, tI_rng _⟩
  obtain ⟨t_8, ht_8, g_8⟩ : ∃ t : Int, (((v_1 + v_2) + v_3) + v_4).toInt = t ∧ -2147483648 ≤ t ∧ t ≤ 2147483647 := ⟨_, rfl, tI_rng _⟩
  obtain ⟨t_9, ht_9, g_9⟩ : ∃ t : Int, ((((v_1 + v_2) + v_3) + v_4) + v_5).toInt = t ∧ -2147483648 ≤ t ∧ t ≤ 2147483647 := ⟨_, rfl, tI_rng _⟩
  refine ok_lt fun x6_6 e_x6_6 => ?_
  have q_x6_6 : x6_6.toInt = t_9 := by rw [e_x6_6]; exact ht_9
  have g_11 := gX_2 hB 0
  obtain ⟨t_12, ht_12, g_12⟩ : ∃ t : Int, ((σ.1 2 0) + x6_6).toInt = t ∧ -2147483648 ≤ t ∧ t ≤ 2147483647 := ⟨_, rfl, tI_rng _⟩
  refine ok_ite (fun c_10 => ?_) (fun c_10 => ?_)
  · rw [fa_le, ht_12] at c_10
    refine ok_cals (s_X9_append (x1 := x1) (σ := σ) hB) (fun s_8 h_13 => ?_)
    obtain ⟨hB_s_8, hG_s_8⟩ := h_13
    (try dsimp only at hB_s_8 hG_s_8)
    have hF_s_8 : FR [1, 2] [] σ s_8 := FR.cal hF hG_s_8 rfl rfl
    refine ok_cals (s_X9_append (x1 := x2) (σ := s_8) hB_s_8) (fun s_9 h_14 => ?_)
    obtain ⟨hB_s_9, hG_s_9⟩ := h_14
    (try dsimp only at hB_s_9 hG_s_9)
    have hF_s_9 : FR [1, 2] [] σ s_9 := FR.cal hF_s_8 hG_s_9 rfl rfl
    refine ok_cals (s_X9_append (x1 := x3) (σ := s_9) hB_s_9) (fun s_10 h_15 => ?_)
    obtain ⟨hB_s_10, hG_s_10⟩ := h_15
    (try dsimp only at hB_s_10 hG_s_10)
    have hF_s_10 : FR [1, 2] [] σ s_10 := FR.cal hF_s_9 hG_s_10 rfl rfl
    refine ok_cals (s_X9_append (x1 := x4) (σ := s_10) hB_s_10) (fun s_11 h_16 => ?_)
    obtain ⟨hB_s_11, hG_s_11⟩ := h_16
    (try dsimp only at hB_s_11 hG_s_11)
    have hF_s_11 : FR [1, 2] [] σ s_11 := FR.cal hF_s_10 hG_s_11 rfl rfl
    refine ok_cals (s_X9_append (x1 := x5) (σ := s_11) hB_s_11) (fun s_12 h_17 => ?_)
    obtain ⟨hB_s_12, hG_s_12⟩ := h_17
    (try dsimp only at hB_s_12 hG_s_12)
    have hF_s_12 : FR [1, 2] [] σ s_12 := FR.cal hF_s_11 hG_s_12 rfl rfl
    have g_18 := gX_2 hB_s_12 0
    exact ok_ret ⟨(by (try dsimp only); omega), hB_s_12, hF_s_12⟩
  · rw [fa_le, ht_12] at c_10
    exact ok_ret ⟨(by (try dsimp only); omega), hB, hF⟩

set_option maxHeartbeats 4000000 in
theorem s_X11_end {x1 : Int32} {σ : Sto} (hB : BX σ) : OK (f_X11_end x1 σ) (fun r => (0 ≤ r.1.toInt ∧ r.1.toInt ≤ 1) ∧ BX r.2 ∧ FR [2] [] σ r.2) := by
  unfold f_X11_end
  have hF : FR [2] [] σ σ := FR.rf
  have k_0 : (0 : Int32).toInt = 0 := by decide +kernel
  have k_1 : (1 : Int32).toInt = 1 := by decide +kernel
  refine ok_ite (fun c_1 => ?_) (fun c_1 => ?_)
  · rw [fa_lt] at c_1
    exact ok_ret ⟨(by (try dsimp only); omega), hB, hF⟩
  · rw [fa_lt] at c_1
    have g_3 := gX_2 hB 0
    refine ok_ite (fun c_2 => ?_) (fun c_2 => ?_)
    · rw [fa_le] at c_2
      refine ok_lt fun s_3 e_s_3 => ?_
      have hB_s_3 : BX s_3 := by rw [e_s_3]; exact pX_2 hB (by omega)
      have hF_s_3 : FR [2] [] σ s_3 := by rw [e_s_3]; exact FR.st hF (by decide)
      have w_s_3_2 : (s_3.1 2 0).toInt = x1.toInt := by rw [e_s_3, sti_s]
      exact ok_ret ⟨(by (try dsimp only); omega), hB_s_3, hF_s_3⟩
    · rw [fa_le] at c_2
      exact ok_ret ⟨(by (try dsimp only); omega), hB, hF⟩

set_option maxHeartbeats 4000000 in
theorem s_X9_current {σ : Sto} (hB : BX σ) : OK (f_X9_current σ) (fun v => (0 ≤ v.toInt ∧ v.toInt ≤ 255) ∧ ((v.toInt = 0 ∨ (σ.1 3 0).toInt < (σ.1 2 0).toInt) ∧ v = cur σ)) := by
  unfold f_X9_current
  have hF : FR [] [] σ σ := FR.rf
  have k_0 : (0 : Int32).toInt = 0 := by decide +kernel
  have g_2 := gX_2 hB 0
  have g_3 := gX_3 hB 0
  refine ok_ite (fun c_1 => ?_) (fun c_1 => ?_)
  · rw [fa_le] at c_1
    exact ok_ret ⟨(by (try dsimp only); omega), ⟨by (try dsimp only); omega, by (try dsimp only); unfold cur; first | exact (if_pos (by omega)).symm | (rw [if_neg (by omega), e_v_2])⟩⟩
  · rw [fa_le] at c_1
    refine ok_ix ⟨by omega, by omega⟩ ?_
    have g_4 := gX_1 hB ((σ.1 3 0).toNatClampNeg)
    refine ok_lt fun v_2 e_v_2 => ?_
    have b_v_2 : (-128) ≤ v_2.toInt ∧ v_2.toInt ≤ 127 := by rw [e_v_2]; exact gX_1 hB _
    obtain ⟨t_5, ht_5, g_5⟩ : ∃ t : Int, (v_2 &&& 255).toInt = t ∧ 0 ≤ t ∧ t ≤ 255 := ⟨_, rfl, and_rng (x := v_2) 255 rfl (by decide)⟩
    exact ok_ret ⟨(by (try dsimp only); rw [ht_5]; omega), ⟨by (try dsimp only); omega, by (try dsimp only); unfold cur; first | exact (if_pos (by omega)).symm | (rw [if_neg (by omega), e_v_2])⟩⟩

set_option maxHeartbeats 4000000 in
theorem s_X9_skipBlanks {σ : Sto} (hB : BX σ) : OK (f_X9_skipBlanks σ) (fun s => BX s ∧ FR [3] [] σ s) := by
  unfold f_X9_skipBlanks
  have hF : FR [3] [] σ σ := FR.rf
  have k_1 : (1 : Int32).toInt = 1 := by decide +kernel
  have k_32 : (32 : Int32).toInt = 32 := by decide +kernel
  have h3 := gX_3 hB 0
  refine ok_itr1 (fun (n : Nat) (s_1 : Sto) => n = (241 - (s_1.1 3 0).toInt).toNat ∧ (BX s_1) ∧ (FR [3] [] σ s_1)) ?_ (n := _) ⟨rfl, hB, hF⟩ (show _ < 10000000 by omega)
  intro a_0 n s_1 hI ih_a_0
  obtain ⟨hn_a_0, hB_s_1, hF_s_1⟩ := hI
  have g_2 := gX_2 hB_s_1 0
  have g_3 : (s_1.1 2 0).toInt = (σ.1 2 0).toInt := by rw [hF_s_1.1 2 (by decide)]
  have g_4 := gX_2 hB 0
  have g_5 := gX_3 hB_s_1 0
  refine ok_ite (fun c_1 => ?_) (fun c_1 => ?_)
  · rw [fa_le] at c_1
    exact ok_ret ⟨hB_s_1, hF_s_1⟩
  · rw [fa_le] at c_1
    refine ok_calp (s_X9_current  (σ := s_1) hB_s_1) (fun v_3 h_6 => ?_)
    obtain ⟨b_v_3, x_v_3⟩ := h_6
    (try dsimp only at b_v_3 x_v_3)
    refine ok_ite (fun c_7 => ?_) (fun c_7 => ?_)
    · rw [fa_eq] at c_7
      obtain ⟨t_8, ht_8, g_8⟩ : ∃ t : Int, ((s_1.1 3 0) + 1).toInt = t ∧ t = (s_1.1 3 0).toInt + (1 : Int32).toInt := ⟨_, rfl, by have h9 := fb_addI (x := (s_1.1 3 0)) (y := (1 : Int32)) (by omega) (by omega); exact h9⟩
      refine ok_lt fun s_5 e_s_5 => ?_
      have hB_s_5 : BX s_5 := by rw [e_s_5]; exact pX_3 hB_s_1 (by rw [ht_8]; omega)
      have hF_s_5 : FR [3] [] σ s_5 := by rw [e_s_5]; exact FR.st hF_s_1 (by decide)
      have w_s_5_3 : (s_5.1 3 0).toInt = t_8 := by rw [e_s_5, sti_s, ht_8]
      exact ih_a_0 _ s_5 (by rw [hn_a_0]; omega) ⟨rfl, hB_s_5, hF_s_5⟩
    · rw [fa_eq] at c_7
      exact ok_ret ⟨hB_s_1, hF_s_1⟩

set_option maxHeartbeats 4000000 in
theorem s_X9_readNumber {x1 : Int32} {σ : Sto} (hB : BX σ) (p_x1 : 0 ≤ x1.toInt ∧ x1.toInt ≤ 999) (ha : (σ.1 3 0).toInt < (σ.1 2 0).toInt) : OK (f_X9_readNumber x1 σ) (fun r => ((-1) ≤ r.1.toInt ∧ r.1.toInt ≤ 999) ∧ BX r.2 ∧ FR [3] [] σ r.2 ∧ (r.1.toInt ≤ x1.toInt)) := by
  unfold f_X9_readNumber
  have hF : FR [3] [] σ σ := FR.rf
  have k_m1 : ((-1) : Int32).toInt = -1 := by decide +kernel
  have k_0 : (0 : Int32).toInt = 0 := by decide +kernel
  have k_1 : (1 : Int32).toInt = 1 := by decide +kernel
  have k_10 : (10 : Int32).toInt = 10 := by decide +kernel
  have k_48 : (48 : Int32).toInt = 48 := by decide +kernel
  have k_57 : (57 : Int32).toInt = 57 := by decide +kernel
  have g2 := gX_2 hB 0
  have g3 := gX_3 hB 0
  have g_1 := gX_3 hB 0
  obtain ⟨t_2, ht_2, g_2⟩ : ∃ t : Int, ((σ.1 3 0) + 1).toInt = t ∧ t = (σ.1 3 0).toInt + (1 : Int32).toInt := ⟨_, rfl, by have h9 := fb_addI (x := (σ.1 3 0)) (y := (1 : Int32)) (by omega) (by omega); exact h9⟩
  refine ok_lt fun s_1 e_s_1 => ?_
  have hB_s_1 : BX s_1 := by rw [e_s_1]; exact pX_3 hB (by rw [ht_2]; omega)
  have hF_s_1 : FR [3] [] σ s_1 := by rw [e_s_1]; exact FR.st hF (by decide)
  have w_s_1_3 : (s_1.1 3 0).toInt = t_2 := by rw [e_s_1, sti_s, ht_2]
  have f_s_1_2 : (s_1.1 2 0).toInt = (σ.1 2 0).toInt := by rw [hF_s_1.1 2 (by decide)]
  refine ok_cals (s_X9_skipBlanks  (σ := s_1) hB_s_1) (fun s_2 h_3 => ?_)
  obtain ⟨hB_s_2, hG_s_2⟩ := h_3
  (try dsimp only at hB_s_2 hG_s_2)
  have hF_s_2 : FR [3] [] σ s_2 := FR.cal hF_s_1 hG_s_2 rfl rfl
  have f_s_2_2 : (s_2.1 2 0).toInt = (σ.1 2 0).toInt := by rw [hF_s_2.1 2 (by decide)]
  have g3b := gX_3 hB_s_2 0
  refine ok_itr2 (fun (n : Nat) (x2_3 : Int32) (s_3 : Sto) => n = (241 - (s_3.1 3 0).toInt).toNat ∧ ((-1) ≤ x2_3.toInt ∧ x2_3.toInt ≤ 999) ∧ (BX s_3) ∧ (FR [3] [] σ s_3) ∧ (x2_3.toInt ≤ x1.toInt)) ?_ (n := _) ⟨rfl, (by omega), hB_s_2, hF_s_2, (by omega)⟩ (show _ < 10000000 by omega)
  intro a_16 n x2_3 s_3 hI ih_a_16
  obtain ⟨hn_a_16, b_x2_3, hB_s_3, hF_s_3, hm⟩ := hI
  have f_s_3_2 : (s_3.1 2 0).toInt = (σ.1 2 0).toInt := by rw [hF_s_3.1 2 (by decide)]
  have g_5 := gX_2 hB_s_3 0
  have g_6 : (s_3.1 2 0).toInt = (σ.1 2 0).toInt := by rw [hF_s_3.1 2 (by decide)]
  have g_7 := gX_2 hB 0
  have g_8 := gX_3 hB_s_3 0
  refine ok_ite (fun c_4 => ?_) (fun c_4 => ?_)
  · rw [fa_le] at c_4
    exact ok_ret ⟨(by (try dsimp only); omega), hB_s_3, hF_s_3, (by (try dsimp only); omega)⟩
  · rw [fa_le] at c_4
    refine ok_calp (s_X9_current  (σ := s_3) hB_s_3) (fun v_5 h_9 => ?_)
    obtain ⟨b_v_5, x_v_5⟩ := h_9
    (try dsimp only at b_v_5 x_v_5)
    refine ok_ite (fun c_10 => ?_) (fun c_10 => ?_)
    · rw [fa_lt] at c_10
      exact ok_ret ⟨(by (try dsimp only); omega), hB_s_3, hF_s_3, (by (try dsimp only); omega)⟩
    · rw [fa_lt] at c_10
      refine ok_calp (s_X9_current  (σ := s_3) hB_s_3) (fun v_7 h_11 => ?_)
      obtain ⟨b_v_7, x_v_7⟩ := h_11
      (try dsimp only at b_v_7 x_v_7)
      have q7 : v_7.toInt = v_5.toInt := by rw [x_v_7.2, x_v_5.2]
      refine ok_ite (fun c_12 => ?_) (fun c_12 => ?_)
      · rw [fa_lt] at c_12
        exact ok_ret ⟨(by (try dsimp only); omega), hB_s_3, hF_s_3, (by (try dsimp only); omega)⟩
      · rw [fa_lt] at c_12
        obtain ⟨t_13, ht_13, g_13⟩ : ∃ t : Int, (if x2_3 < (0 : Int32) then (0 : Int32) else x2_3).toInt = t ∧ -2147483648 ≤ t ∧ t ≤ 2147483647 := ⟨_, rfl, tI_rng _⟩
        refine ok_lt fun v_9 e_v_9 => ?_
        have b_v_9 := mx_spec e_v_9
        refine ok_calp (s_X9_current  (σ := s_3) hB_s_3) (fun v_10 h_14 => ?_)
        obtain ⟨b_v_10, x_v_10⟩ := h_14
        (try dsimp only at b_v_10 x_v_10)
        have q10 : v_10.toInt = v_5.toInt := by rw [x_v_10.2, x_v_5.2]
        obtain ⟨t_15, ht_15, g_15⟩ : ∃ t : Int, (v_9 * 10).toInt = t ∧ t = v_9.toInt * 10 := ⟨_, rfl, by have h9 := fb_mulI (x := v_9) (y := (10 : Int32)) (by rw [k_10]; omega) (by rw [k_10]; omega); rw [k_10] at h9; exact h9⟩
        obtain ⟨t_16, ht_16, g_16⟩ : ∃ t : Int, ((v_9 * 10) + v_10).toInt = t ∧ t = t_15 + v_10.toInt := ⟨_, rfl, by have h9 := fb_addI (x := (v_9 * 10)) (y := v_10) (by rw [ht_15]; omega) (by rw [ht_15]; omega); rw [ht_15] at h9; exact h9⟩
        obtain ⟨t_17, ht_17, g_17⟩ : ∃ t : Int, (((v_9 * 10) + v_10) - 48).toInt = t ∧ t = t_16 - (48 : Int32).toInt := ⟨_, rfl, by have h9 := fb_subI (x := ((v_9 * 10) + v_10)) (y := (48 : Int32)) (by rw [ht_16]; omega) (by rw [ht_16]; omega); rw [ht_16] at h9; exact h9⟩
        refine ok_lt fun x3_11 e_x3_11 => ?_
        have q_x3_11 : x3_11.toInt = t_17 := by rw [e_x3_11]; exact ht_17
        refine ok_ite (fun c_18 => ?_) (fun c_18 => ?_)
        · rw [fa_le] at c_18
          obtain ⟨t_19, ht_19, g_19⟩ : ∃ t : Int, ((s_3.1 3 0) + 1).toInt = t ∧ t = (s_3.1 3 0).toInt + (1 : Int32).toInt := ⟨_, rfl, by have h9 := fb_addI (x := (s_3.1 3 0)) (y := (1 : Int32)) (by omega) (by omega); exact h9⟩
          refine ok_lt fun s_13 e_s_13 => ?_
          have hB_s_13 : BX s_13 := by rw [e_s_13]; exact pX_3 hB_s_3 (by rw [ht_19]; omega)
          have hF_s_13 : FR [3] [] σ s_13 := by rw [e_s_13]; exact FR.st hF_s_3 (by decide)
          have w_s_13_3 : (s_13.1 3 0).toInt = t_19 := by rw [e_s_13, sti_s, ht_19]
          have f_s_13_2 : (s_13.1 2 0).toInt = (σ.1 2 0).toInt := by rw [hF_s_13.1 2 (by decide)]
          exact ih_a_16 _ x3_11 s_13 (by rw [hn_a_16]; omega) ⟨rfl, (by omega), hB_s_13, hF_s_13, (by omega)⟩
        · rw [fa_le] at c_18
          exact ok_ret ⟨(by (try dsimp only); omega), hB_s_3, hF_s_3, (by (try dsimp only); omega)⟩

set_option maxHeartbeats 4000000 in
theorem s_X9_isAtComma {σ : Sto} (hB : BX σ) : OK (f_X9_isAtComma σ) (fun r => (0 ≤ r.1.toInt ∧ r.1.toInt ≤ 1) ∧ BX r.2 ∧ FR [3] [] σ r.2 ∧ ((r.1.toInt = 1 → (r.2.1 3 0).toInt < (r.2.1 2 0).toInt))) := by
  unfold f_X9_isAtComma
  have hF : FR [3] [] σ σ := FR.rf
  have k_0 : (0 : Int32).toInt = 0 := by decide +kernel
  have k_1 : (1 : Int32).toInt = 1 := by decide +kernel
  have k_44 : (44 : Int32).toInt = 44 := by decide +kernel
  refine ok_cals (s_X9_skipBlanks  (σ := σ) hB) (fun s_1 h_1 => ?_)
  obtain ⟨hB_s_1, hG_s_1⟩ := h_1
  (try dsimp only at hB_s_1 hG_s_1)
  have hF_s_1 : FR [3] [] σ s_1 := FR.cal hF hG_s_1 rfl rfl
  refine ok_jn ?_
  have g_3 := gX_2 hB_s_1 0
  have g_4 : (s_1.1 2 0).toInt = (σ.1 2 0).toInt := by rw [hF_s_1.1 2 (by decide)]
  have g_5 := gX_2 hB 0
  have g_6 := gX_3 hB_s_1 0
  refine ok_ite (fun c_2 => ?_) (fun c_2 => ?_)
  · rw [fa_le] at c_2
    exact ok_ret ⟨(by (try dsimp only); omega), hB_s_1, hF_s_1, (fun h => by (try dsimp only at h); (try dsimp only); omega)⟩
  · rw [fa_le] at c_2
    refine ok_calp (s_X9_current  (σ := s_1) hB_s_1) (fun v_4 h_7 => ?_)
    obtain ⟨b_v_4, x_v_4⟩ := h_7
    (try dsimp only at b_v_4 x_v_4)
    refine ok_ite (fun c_8 => ?_) (fun c_8 => ?_)
    · rw [fa_eq] at c_8
      exact ok_ret ⟨(by (try dsimp only); omega), hB_s_1, hF_s_1, (fun h => by (try dsimp only at h); (try dsimp only); omega)⟩
    · rw [fa_eq] at c_8
      exact ok_ret ⟨(by (try dsimp only); omega), hB_s_1, hF_s_1, (fun h => by (try dsimp only at h); (try dsimp only); omega)⟩

set_option maxHeartbeats 4000000 in
theorem s_X9_readHandler_draft {σ : Sto} (hB : BX σ) : OK (f_X9_readHandler_draft σ) (fun r => (0 ≤ r.1.toInt ∧ r.1.toInt ≤ 1) ∧ BX r.2 ∧ FR [3, 13, 17, 18, 19] [] σ r.2) := by
  unfold f_X9_readHandler_draft
  have hF : FR [3, 13, 17, 18, 19] [] σ σ := FR.rf
  have k_m1 : ((-1) : Int32).toInt = -1 := by decide +kernel
  have k_0 : (0 : Int32).toInt = 0 := by decide +kernel
  have k_1 : (1 : Int32).toInt = 1 := by decide +kernel
  have k_3 : (3 : Int32).toInt = 3 := by decide +kernel
  have k_40 : (40 : Int32).toInt = 40 := by decide +kernel
  have k_104 : (104 : Int32).toInt = 104 := by decide +kernel
  have g13 := gX_13 hB 0
  refine ok_calp (s_X9_current  (σ := σ) hB) (fun v_1 h_1 => ?_)
  obtain ⟨b_v_1, x_v_1⟩ := h_1
  (try dsimp only at b_v_1 x_v_1)
  refine ok_ite (fun c_2 => ?_) (fun c_2 => ?_)
  · rw [fa_eq] at c_2
    have g_4 := gX_13 hB 0
    refine ok_ite (fun c_3 => ?_) (fun c_3 => ?_)
    · rw [fa_eq] at c_3
      exact ok_ret ⟨(by (try dsimp only); omega), hB, hF⟩
    · rw [fa_eq] at c_3
      refine ok_calv (s_X9_readNumber (x1 := (40 : Int32)) (σ := σ) hB (by omega) (by omega)) (fun v_4 s_4 h_5 => ?_)
      obtain ⟨b_v_4, hB_s_4, hG_s_4, x_s_4⟩ := h_5
      (try dsimp only at b_v_4 hB_s_4 hG_s_4 x_s_4)
      have hF_s_4 : FR [3, 13, 17, 18, 19] [] σ s_4 := FR.cal hF hG_s_4 rfl rfl
      have w_s_4_13 : (s_4.1 13 0).toInt = (σ.1 13 0).toInt := by rw [hG_s_4.1 13 (by decide)]
      have f_s_4_2 : (s_4.1 2 0).toInt = (σ.1 2 0).toInt := by rw [hF_s_4.1 2 (by decide)]
      refine ok_ite (fun c_6 => ?_) (fun c_6 => ?_)
      · rw [fa_eq] at c_6
        exact ok_ret ⟨(by (try dsimp only); omega), hB_s_4, hF_s_4⟩
      · rw [fa_eq] at c_6
        refine ok_calv (s_X9_isAtComma  (σ := s_4) hB_s_4) (fun v_6 s_6 h_7 => ?_)
        obtain ⟨b_v_6, hB_s_6, hG_s_6, x_s_6⟩ := h_7
        (try dsimp only at b_v_6 hB_s_6 hG_s_6 x_s_6)
        have hF_s_6 : FR [3, 13, 17, 18, 19] [] σ s_6 := FR.cal hF_s_4 hG_s_6 rfl rfl
        have w_s_6_13 : (s_6.1 13 0).toInt = (s_4.1 13 0).toInt := by rw [hG_s_6.1 13 (by decide)]
        have f_s_6_2 : (s_6.1 2 0).toInt = (σ.1 2 0).toInt := by rw [hF_s_6.1 2 (by decide)]
        refine ok_ite (fun c_8 => ?_) (fun c_8 => ?_)
        · rw [fa_eq] at c_8
          exact ok_ret ⟨(by (try dsimp only); omega), hB_s_6, hF_s_6⟩
        · rw [fa_eq] at c_8
          refine ok_calv (s_X9_readNumber (x1 := (40 : Int32)) (σ := s_6) hB_s_6 (by omega) (by omega)) (fun v_8 s_8 h_9 => ?_)
          obtain ⟨b_v_8, hB_s_8, hG_s_8, x_s_8⟩ := h_9
          (try dsimp only at b_v_8 hB_s_8 hG_s_8 x_s_8)
          have hF_s_8 : FR [3, 13, 17, 18, 19] [] σ s_8 := FR.cal hF_s_6 hG_s_8 rfl rfl
          have w_s_8_13 : (s_8.1 13 0).toInt = (s_6.1 13 0).toInt := by rw [hG_s_8.1 13 (by decide)]
          have f_s_8_2 : (s_8.1 2 0).toInt = (σ.1 2 0).toInt := by rw [hF_s_8.1 2 (by decide)]
          refine ok_ite (fun c_10 => ?_) (fun c_10 => ?_)
          · rw [fa_eq] at c_10
            exact ok_ret ⟨(by (try dsimp only); omega), hB_s_8, hF_s_8⟩
          · rw [fa_eq] at c_10
            refine ok_calv (s_X9_isAtComma  (σ := s_8) hB_s_8) (fun v_10 s_10 h_11 => ?_)
            obtain ⟨b_v_10, hB_s_10, hG_s_10, x_s_10⟩ := h_11
            (try dsimp only at b_v_10 hB_s_10 hG_s_10 x_s_10)
            have hF_s_10 : FR [3, 13, 17, 18, 19] [] σ s_10 := FR.cal hF_s_8 hG_s_10 rfl rfl
            have w_s_10_13 : (s_10.1 13 0).toInt = (s_8.1 13 0).toInt := by rw [hG_s_10.1 13 (by decide)]
            have f_s_10_2 : (s_10.1 2 0).toInt = (σ.1 2 0).toInt := by rw [hF_s_10.1 2 (by decide)]
            refine ok_ite (fun c_12 => ?_) (fun c_12 => ?_)
            · rw [fa_eq] at c_12
              exact ok_ret ⟨(by (try dsimp only); omega), hB_s_10, hF_s_10⟩
            · rw [fa_eq] at c_12
              refine ok_calv (s_X9_readNumber (x1 := (40 : Int32)) (σ := s_10) hB_s_10 (by omega) (by omega)) (fun v_12 s_12 h_13 => ?_)
              obtain ⟨b_v_12, hB_s_12, hG_s_12, x_s_12⟩ := h_13
              (try dsimp only at b_v_12 hB_s_12 hG_s_12 x_s_12)
              have hF_s_12 : FR [3, 13, 17, 18, 19] [] σ s_12 := FR.cal hF_s_10 hG_s_12 rfl rfl
              have w_s_12_13 : (s_12.1 13 0).toInt = (s_10.1 13 0).toInt := by rw [hG_s_12.1 13 (by decide)]
              have f_s_12_2 : (s_12.1 2 0).toInt = (σ.1 2 0).toInt := by rw [hF_s_12.1 2 (by decide)]
              refine ok_ite (fun c_14 => ?_) (fun c_14 => ?_)
              · rw [fa_eq] at c_14
                exact ok_ret ⟨(by (try dsimp only); omega), hB_s_12, hF_s_12⟩
              · rw [fa_eq] at c_14
                have g_15 := gX_13 hB_s_12 0
                refine ok_ix ⟨by omega, by omega⟩ ?_
                refine ok_lt fun s_14 e_s_14 => ?_
                have hB_s_14 : BX s_14 := by rw [e_s_14]; exact pX_17 hB_s_12 (by omega)
                have hF_s_14 : FR [3, 13, 17, 18, 19] [] σ s_14 := by rw [e_s_14]; exact FR.st hF_s_12 (by decide)
                have w_s_14_13 : (s_14.1 13 0).toInt = (s_12.1 13 0).toInt := by rw [e_s_14]; rfl
                have f_s_14_2 : (s_14.1 2 0).toInt = (σ.1 2 0).toInt := by rw [hF_s_14.1 2 (by decide)]
                have g_16 := gX_13 hB_s_14 0
                refine ok_ix ⟨by omega, by omega⟩ ?_
                refine ok_lt fun s_15 e_s_15 => ?_
                have hB_s_15 : BX s_15 := by rw [e_s_15]; exact pX_18 hB_s_14 (by omega)
                have hF_s_15 : FR [3, 13, 17, 18, 19] [] σ s_15 := by rw [e_s_15]; exact FR.st hF_s_14 (by decide)
                have w_s_15_13 : (s_15.1 13 0).toInt = (s_14.1 13 0).toInt := by rw [e_s_15]; rfl
                have f_s_15_2 : (s_15.1 2 0).toInt = (σ.1 2 0).toInt := by rw [hF_s_15.1 2 (by decide)]
                have g_17 := gX_13 hB_s_15 0
                refine ok_ix ⟨by omega, by omega⟩ ?_
                refine ok_lt fun s_16 e_s_16 => ?_
                have hB_s_16 : BX s_16 := by rw [e_s_16]; exact pX_19 hB_s_15 (by omega)
                have hF_s_16 : FR [3, 13, 17, 18, 19] [] σ s_16 := by rw [e_s_16]; exact FR.st hF_s_15 (by decide)
                have w_s_16_13 : (s_16.1 13 0).toInt = (s_15.1 13 0).toInt := by rw [e_s_16]; rfl
                have f_s_16_2 : (s_16.1 2 0).toInt = (σ.1 2 0).toInt := by rw [hF_s_16.1 2 (by decide)]
                have g_18 := gX_13 hB_s_16 0
                obtain ⟨t_19, ht_19, g_19⟩ : ∃ t : Int, ((s_16.1 13 0) + 1).toInt = t ∧ t = (s_16.1 13 0).toInt + (1 : Int32).toInt := ⟨_, rfl, by have h9 := fb_addI (x := (s_16.1 13 0)) (y := (1 : Int32)) (by omega) (by omega); exact h9⟩
                refine ok_lt fun s_17 e_s_17 => ?_
                have hB_s_17 : BX s_17 := by rw [e_s_17]; exact pX_13 hB_s_16 (by rw [ht_19]; omega)
                have hF_s_17 : FR [3, 13, 17, 18, 19] [] σ s_17 := by rw [e_s_17]; exact FR.st hF_s_16 (by decide)
                have w_s_17_13 : (s_17.1 13 0).toInt = t_19 := by rw [e_s_17, sti_s, ht_19]
                have f_s_17_2 : (s_17.1 2 0).toInt = (σ.1 2 0).toInt := by rw [hF_s_17.1 2 (by decide)]
                exact ok_ret ⟨(by (try dsimp only); omega), hB_s_17, hF_s_17⟩
  · rw [fa_eq] at c_2
    exact ok_ret ⟨(by (try dsimp only); omega), hB, hF⟩

set_option maxHeartbeats 4000000 in
theorem s_X11_isBinary {x1 : Int32} : OK (f_X11_isBinary x1) (fun v => (0 ≤ v.toInt ∧ v.toInt ≤ 1) ∧ ((v.toInt = 1 ↔ opB x1))) := by
  unfold f_X11_isBinary
  have k_0 : (0 : Int32).toInt = 0 := by decide +kernel
  have k_1 : (1 : Int32).toInt = 1 := by decide +kernel
  refine ok_ite (fun c_1 => ?_) (fun c_1 => ?_)
  · have c_1 := c_1
    exact ok_ret ⟨(by (try dsimp only); omega), (by (try dsimp only); unfold opB; omega)⟩
  · have c_1 := c_1
    exact ok_ret ⟨(by (try dsimp only); omega), (by (try dsimp only); unfold opB; omega)⟩

set_option maxHeartbeats 4000000 in
theorem s_X11_isBare {x1 : Int32} : OK (f_X11_isBare x1) (fun v => (0 ≤ v.toInt ∧ v.toInt ≤ 1) ∧ ((v.toInt = 1 → BR x1))) := by
  unfold f_X11_isBare
  have k_0 : (0 : Int32).toInt = 0 := by decide +kernel
  have k_1 : (1 : Int32).toInt = 1 := by decide +kernel
  refine ok_ite (fun c_1 => ?_) (fun c_1 => ?_)
  · have c_1 := c_1
    exact ok_ret ⟨(by (try dsimp only); omega), (by first | exact fun h => Or.inr (x_v_2.mp h) | exact fun _ => Or.inl (by omega))⟩
  · have c_1 := c_1
    refine ok_calp (s_X11_isBinary (x1 := x1) ) (fun v_2 h_2 => ?_)
    obtain ⟨b_v_2, x_v_2⟩ := h_2
    (try dsimp only at b_v_2 x_v_2)
    refine ok_bz (by rw [fa_eq, fa_eq]; omega) ?_
    exact ok_ret ⟨(by (try dsimp only); omega), (by first | exact fun h => Or.inr (x_v_2.mp h) | exact fun _ => Or.inl (by omega))⟩

theorem s_X9_readLetter {σ : Sto} (hB : BX σ) : OK (f_X9_readLetter σ) (fun r => ((-1000000) ≤ r.1.toInt ∧ r.1.toInt ≤ 31) ∧ BX r.2 ∧ FR [3] [] σ r.2) := sorry
theorem s_X9_readInstruction_draft {σ : Sto} (hB : BX σ) : OK (f_X9_readInstruction_draft σ) (fun r => (0 ≤ r.1.toInt ∧ r.1.toInt ≤ 1) ∧ BX r.2 ∧ FR [3, 12, 14, 15] [] σ r.2) := sorry
set_option maxHeartbeats 4000000 in
theorem s_X9_read_draft {σ : Sto} (hB : BX σ) : OK (f_X9_read_draft σ) (fun r => (0 ≤ r.1.toInt ∧ r.1.toInt ≤ 1) ∧ BX r.2 ∧ FR [3, 12, 13, 14, 15, 17, 18, 19] [] σ r.2) := by
  unfold f_X9_read_draft
  have hF : FR [3, 12, 13, 14, 15, 17, 18, 19] [] σ σ := FR.rf
  have k_0 : (0 : Int32).toInt = 0 := by decide +kernel
  have k_1 : (1 : Int32).toInt = 1 := by decide +kernel
  have k_3 : (3 : Int32).toInt = 3 := by decide +kernel
  have k_40 : (40 : Int32).toInt = 40 := by decide +kernel
  have k_104 : (104 : Int32).toInt = 104 := by decide +kernel
  refine ok_lt fun s_1 e_s_1 => ?_
  have hB_s_1 : BX s_1 := by rw [e_s_1]; exact pX_3 hB (by omega)
  have hF_s_1 : FR [3, 12, 13, 14, 15, 17, 18, 19] [] σ s_1 := by rw [e_s_1]; exact FR.st hF (by decide)
  have w_s_1_3 : (s_1.1 3 0).toInt = (0 : Int32).toInt := by rw [e_s_1, sti_s]
  have w_s_1_12 : (s_1.1 12 0).toInt = (σ.1 12 0).toInt := by rw [e_s_1]; rfl
  refine ok_lt fun s_2 e_s_2 => ?_
  have hB_s_2 : BX s_2 := by rw [e_s_2]; exact pX_12 hB_s_1 (by omega)
  have hF_s_2 : FR [3, 12, 13, 14, 15, 17, 18, 19] [] σ s_2 := by rw [e_s_2]; exact FR.st hF_s_1 (by decide)
  have w_s_2_3 : (s_2.1 3 0).toInt = (s_1.1 3 0).toInt := by rw [e_s_2]; rfl
  have w_s_2_12 : (s_2.1 12 0).toInt = (0 : Int32).toInt := by rw [e_s_2, sti_s]
  refine ok_lt fun s_3 e_s_3 => ?_
  have hB_s_3 : BX s_3 := by rw [e_s_3]; exact pX_13 hB_s_2 (by omega)
  have hF_s_3 : FR [3, 12, 13, 14, 15, 17, 18, 19] [] σ s_3 := by rw [e_s_3]; exact FR.st hF_s_2 (by decide)
  have w_s_3_3 : (s_3.1 3 0).toInt = (s_2.1 3 0).toInt := by rw [e_s_3]; rfl
  have w_s_3_12 : (s_3.1 12 0).toInt = (s_2.1 12 0).toInt := by rw [e_s_3]; rfl
  refine ok_cals (s_X9_skipBlanks  (σ := s_3) hB_s_3) (fun s_4 h_1 => ?_)
  obtain ⟨hB_s_4, hG_s_4⟩ := h_1
  (try dsimp only at hB_s_4 hG_s_4)
  have hF_s_4 : FR [3, 12, 13, 14, 15, 17, 18, 19] [] σ s_4 := FR.cal hF_s_3 hG_s_4 rfl rfl
  have w_s_4_12 : (s_4.1 12 0).toInt = (s_3.1 12 0).toInt := by rw [hG_s_4.1 12 (by decide)]
  refine ok_itr2 (fun (n : Nat) (x2_5 : Int32) (s_5 : Sto) => n = (42 - x2_5.toInt).toNat ∧ (0 ≤ x2_5.toInt ∧ x2_5.toInt ≤ 41) ∧ (BX s_5) ∧ (FR [3, 12, 13, 14, 15, 17, 18, 19] [] σ s_5)) ?_ (n := _) ⟨rfl, (by omega), hB_s_4, hF_s_4⟩ (show _ < 10000000 by omega)
  intro a_21 n x2_5 s_5 hI ih_a_21
  obtain ⟨hn_a_21, b_x2_5, hB_s_5, hF_s_5⟩ := hI
  refine ok_jn ?_
  refine ok_ite (fun c_2 => ?_) (fun c_2 => ?_)
  · rw [fa_lt] at c_2
    have g_4 := gX_12 hB_s_5 0
    refine ok_ite (fun c_3 => ?_) (fun c_3 => ?_)
    · rw [fa_eq] at c_3
      exact ok_ret ⟨(by (try dsimp only); omega), hB_s_5, hF_s_5⟩
    · rw [fa_eq] at c_3
      refine ok_itr2 (fun (n : Nat) (x2_8 : Int32) (s_8 : Sto) => n = (6 - x2_8.toInt).toNat ∧ (0 ≤ x2_8.toInt ∧ x2_8.toInt ≤ 5) ∧ (BX s_8) ∧ (FR [3, 12, 13, 14, 15, 17, 18, 19] [] σ s_8)) ?_ (n := _) ⟨rfl, (by omega), hB_s_5, hF_s_5⟩ (show _ < 10000000 by omega)
      intro a_78 n x2_8 s_8 hI ih_a_78
      obtain ⟨hn_a_78, b_x2_8, hB_s_8, hF_s_8⟩ := hI
      refine ok_ite (fun c_5 => ?_) (fun c_5 => ?_)
      · rw [fa_lt] at c_5
        exact ok_ret ⟨(by (try dsimp only); omega), hB_s_8, hF_s_8⟩
      · rw [fa_lt] at c_5
        have g_7 := gX_2 hB_s_8 0
        have g_8 : (s_8.1 2 0).toInt = (σ.1 2 0).toInt := by rw [hF_s_8.1 2 (by decide)]
        have g_9 := gX_2 hB 0
        have g_10 := gX_3 hB_s_8 0
        refine ok_ite (fun c_6 => ?_) (fun c_6 => ?_)
        · rw [fa_le] at c_6
          exact ok_ret ⟨(by (try dsimp only); omega), hB_s_8, hF_s_8⟩
        · rw [fa_le] at c_6
          refine ok_calv (s_X9_readHandler_draft  (σ := s_8) hB_s_8) (fun v_11 s_11 h_11 => ?_)
          obtain ⟨b_v_11, hB_s_11, hG_s_11⟩ := h_11
          (try dsimp only at b_v_11 hB_s_11 hG_s_11)
          have hF_s_11 : FR [3, 12, 13, 14, 15, 17, 18, 19] [] σ s_11 := FR.cal hF_s_8 hG_s_11 rfl rfl
          have w_s_11_12 : (s_11.1 12 0).toInt = (s_8.1 12 0).toInt := by rw [hG_s_11.1 12 (by decide)]
          refine ok_ite (fun c_12 => ?_) (fun c_12 => ?_)
          · rw [fa_eq] at c_12
            exact ok_ret ⟨(by (try dsimp only); omega), hB_s_11, hF_s_11⟩
          · rw [fa_eq] at c_12
            refine ok_cals (s_X9_skipBlanks  (σ := s_11) hB_s_11) (fun s_13 h_13 => ?_)
            obtain ⟨hB_s_13, hG_s_13⟩ := h_13
            (try dsimp only at hB_s_13 hG_s_13)
            have hF_s_13 : FR [3, 12, 13, 14, 15, 17, 18, 19] [] σ s_13 := FR.cal hF_s_11 hG_s_13 rfl rfl
            have w_s_13_12 : (s_13.1 12 0).toInt = (s_11.1 12 0).toInt := by rw [hG_s_13.1 12 (by decide)]
            obtain ⟨t_14, ht_14, g_14⟩ : ∃ t : Int, (x2_8 + 1).toInt = t ∧ t = x2_8.toInt + (1 : Int32).toInt := ⟨_, rfl, by have h9 := fb_addI (x := x2_8) (y := (1 : Int32)) (by omega) (by omega); exact h9⟩
            refine ok_lt fun x2_14 e_x2_14 => ?_
            have q_x2_14 : x2_14.toInt = t_14 := by rw [e_x2_14]; exact ht_14
            exact ih_a_78 _ x2_14 s_13 (by rw [hn_a_78]; omega) ⟨rfl, (by omega), hB_s_13, hF_s_13⟩
  · rw [fa_lt] at c_2
    have g_16 := gX_2 hB_s_5 0
    have g_17 : (s_5.1 2 0).toInt = (σ.1 2 0).toInt := by rw [hF_s_5.1 2 (by decide)]
    have g_18 := gX_2 hB 0
    have g_19 := gX_3 hB_s_5 0
    refine ok_ite (fun c_15 => ?_) (fun c_15 => ?_)
    · rw [fa_le] at c_15
      have g_21 := gX_12 hB_s_5 0
      refine ok_ite (fun c_20 => ?_) (fun c_20 => ?_)
      · rw [fa_eq] at c_20
        exact ok_ret ⟨(by (try dsimp only); omega), hB_s_5, hF_s_5⟩
      · rw [fa_eq] at c_20
        refine ok_itr2 (fun (n : Nat) (x2_8 : Int32) (s_8 : Sto) => n = (6 - x2_8.toInt).toNat ∧ (0 ≤ x2_8.toInt ∧ x2_8.toInt ≤ 5) ∧ (BX s_8) ∧ (FR [3, 12, 13, 14, 15, 17, 18, 19] [] σ s_8)) ?_ (n := _) ⟨rfl, (by omega), hB_s_5, hF_s_5⟩ (show _ < 10000000 by omega)
        intro a_78 n x2_8 s_8 hI ih_a_78
        obtain ⟨hn_a_78, b_x2_8, hB_s_8, hF_s_8⟩ := hI
        refine ok_ite (fun c_22 => ?_) (fun c_22 => ?_)
        · rw [fa_lt] at c_22
          exact ok_ret ⟨(by (try dsimp only); omega), hB_s_8, hF_s_8⟩
        · rw [fa_lt] at c_22
          have g_24 := gX_2 hB_s_8 0
          have g_25 : (s_8.1 2 0).toInt = (σ.1 2 0).toInt := by rw [hF_s_8.1 2 (by decide)]
          have g_26 := gX_3 hB_s_8 0
          refine ok_ite (fun c_23 => ?_) (fun c_23 => ?_)
          · rw [fa_le] at c_23
            exact ok_ret ⟨(by (try dsimp only); omega), hB_s_8, hF_s_8⟩
          · rw [fa_le] at c_23
            refine ok_calv (s_X9_readHandler_draft  (σ := s_8) hB_s_8) (fun v_11 s_11 h_27 => ?_)
            obtain ⟨b_v_11, hB_s_11, hG_s_11⟩ := h_27
            (try dsimp only at b_v_11 hB_s_11 hG_s_11)
            have hF_s_11 : FR [3, 12, 13, 14, 15, 17, 18, 19] [] σ s_11 := FR.cal hF_s_8 hG_s_11 rfl rfl
            have w_s_11_12 : (s_11.1 12 0).toInt = (s_8.1 12 0).toInt := by rw [hG_s_11.1 12 (by decide)]
            refine ok_ite (fun c_28 => ?_) (fun c_28 => ?_)
            · rw [fa_eq] at c_28
              exact ok_ret ⟨(by (try dsimp only); omega), hB_s_11, hF_s_11⟩
            · rw [fa_eq] at c_28
              refine ok_cals (s_X9_skipBlanks  (σ := s_11) hB_s_11) (fun s_13 h_29 => ?_)
              obtain ⟨hB_s_13, hG_s_13⟩ := h_29
              (try dsimp only at hB_s_13 hG_s_13)
              have hF_s_13 : FR [3, 12, 13, 14, 15, 17, 18, 19] [] σ s_13 := FR.cal hF_s_11 hG_s_13 rfl rfl
              have w_s_13_12 : (s_13.1 12 0).toInt = (s_11.1 12 0).toInt := by rw [hG_s_13.1 12 (by decide)]
              obtain ⟨t_30, ht_30, g_30⟩ : ∃ t : Int, (x2_8 + 1).toInt = t ∧ t = x2_8.toInt + (1 : Int32).toInt := ⟨_, rfl, by have h9 := fb_addI (x := x2_8) (y := (1 : Int32)) (by omega) (by omega); exact h9⟩
              refine ok_lt fun x2_14 e_x2_14 => ?_
              have q_x2_14 : x2_14.toInt = t_30 := by rw [e_x2_14]; exact ht_30
              exact ih_a_78 _ x2_14 s_13 (by rw [hn_a_78]; omega) ⟨rfl, (by omega), hB_s_13, hF_s_13⟩
    · rw [fa_le] at c_15
      refine ok_calp (s_X9_current  (σ := s_5) hB_s_5) (fun v_17 h_31 => ?_)
      obtain ⟨b_v_17, x_v_17⟩ := h_31
      (try dsimp only at b_v_17 x_v_17)
      refine ok_ite (fun c_32 => ?_) (fun c_32 => ?_)
      · rw [fa_eq] at c_32
        have g_34 := gX_12 hB_s_5 0
        refine ok_ite (fun c_33 => ?_) (fun c_33 => ?_)
        · rw [fa_eq] at c_33
          exact ok_ret ⟨(by (try dsimp only); omega), hB_s_5, hF_s_5⟩
        · rw [fa_eq] at c_33
          refine ok_itr2 (fun (n : Nat) (x2_8 : Int32) (s_8 : Sto) => n = (6 - x2_8.toInt).toNat ∧ (0 ≤ x2_8.toInt ∧ x2_8.toInt ≤ 5) ∧ (BX s_8) ∧ (FR [3, 12, 13, 14, 15, 17, 18, 19] [] σ s_8)) ?_ (n := _) ⟨rfl, (by omega), hB_s_5, hF_s_5⟩ (show _ < 10000000 by omega)
          intro a_78 n x2_8 s_8 hI ih_a_78
          obtain ⟨hn_a_78, b_x2_8, hB_s_8, hF_s_8⟩ := hI
          refine ok_ite (fun c_35 => ?_) (fun c_35 => ?_)
          · rw [fa_lt] at c_35
            exact ok_ret ⟨(by (try dsimp only); omega), hB_s_8, hF_s_8⟩
          · rw [fa_lt] at c_35
            have g_37 := gX_2 hB_s_8 0
            have g_38 : (s_8.1 2 0).toInt = (σ.1 2 0).toInt := by rw [hF_s_8.1 2 (by decide)]
            have g_39 := gX_3 hB_s_8 0
            refine ok_ite (fun c_36 => ?_) (fun c_36 => ?_)
            · rw [fa_le] at c_36
              exact ok_ret ⟨(by (try dsimp only); omega), hB_s_8, hF_s_8⟩
            · rw [fa_le] at c_36
              refine ok_calv (s_X9_readHandler_draft  (σ := s_8) hB_s_8) (fun v_11 s_11 h_40 => ?_)
              obtain ⟨b_v_11, hB_s_11, hG_s_11⟩ := h_40
              (try dsimp only at b_v_11 hB_s_11 hG_s_11)
              have hF_s_11 : FR [3, 12, 13, 14, 15, 17, 18, 19] [] σ s_11 := FR.cal hF_s_8 hG_s_11 rfl rfl
              have w_s_11_12 : (s_11.1 12 0).toInt = (s_8.1 12 0).toInt := by rw [hG_s_11.1 12 (by decide)]
              refine ok_ite (fun c_41 => ?_) (fun c_41 => ?_)
              · rw [fa_eq] at c_41
                exact ok_ret ⟨(by (try dsimp only); omega), hB_s_11, hF_s_11⟩
              · rw [fa_eq] at c_41
                refine ok_cals (s_X9_skipBlanks  (σ := s_11) hB_s_11) (fun s_13 h_42 => ?_)
                obtain ⟨hB_s_13, hG_s_13⟩ := h_42
                (try dsimp only at hB_s_13 hG_s_13)
                have hF_s_13 : FR [3, 12, 13, 14, 15, 17, 18, 19] [] σ s_13 := FR.cal hF_s_11 hG_s_13 rfl rfl
                have w_s_13_12 : (s_13.1 12 0).toInt = (s_11.1 12 0).toInt := by rw [hG_s_13.1 12 (by decide)]
                obtain ⟨t_43, ht_43, g_43⟩ : ∃ t : Int, (x2_8 + 1).toInt = t ∧ t = x2_8.toInt + (1 : Int32).toInt := ⟨_, rfl, by have h9 := fb_addI (x := x2_8) (y := (1 : Int32)) (by omega) (by omega); exact h9⟩
                refine ok_lt fun x2_14 e_x2_14 => ?_
                have q_x2_14 : x2_14.toInt = t_43 := by rw [e_x2_14]; exact ht_43
                exact ih_a_78 _ x2_14 s_13 (by rw [hn_a_78]; omega) ⟨rfl, (by omega), hB_s_13, hF_s_13⟩
      · rw [fa_eq] at c_32
        refine ok_calv (s_X9_readInstruction_draft  (σ := s_5) hB_s_5) (fun v_19 s_19 h_44 => ?_)
        obtain ⟨b_v_19, hB_s_19, hG_s_19⟩ := h_44
        (try dsimp only at b_v_19 hB_s_19 hG_s_19)
        have hF_s_19 : FR [3, 12, 13, 14, 15, 17, 18, 19] [] σ s_19 := FR.cal hF_s_5 hG_s_19 rfl rfl
        refine ok_ite (fun c_45 => ?_) (fun c_45 => ?_)
        · rw [fa_eq] at c_45
          exact ok_ret ⟨(by (try dsimp only); omega), hB_s_19, hF_s_19⟩
        · rw [fa_eq] at c_45
          refine ok_cals (s_X9_skipBlanks  (σ := s_19) hB_s_19) (fun s_21 h_46 => ?_)
          obtain ⟨hB_s_21, hG_s_21⟩ := h_46
          (try dsimp only at hB_s_21 hG_s_21)
          have hF_s_21 : FR [3, 12, 13, 14, 15, 17, 18, 19] [] σ s_21 := FR.cal hF_s_19 hG_s_21 rfl rfl
          have w_s_21_12 : (s_21.1 12 0).toInt = (s_19.1 12 0).toInt := by rw [hG_s_21.1 12 (by decide)]
          obtain ⟨t_47, ht_47, g_47⟩ : ∃ t : Int, (x2_5 + 1).toInt = t ∧ t = x2_5.toInt + (1 : Int32).toInt := ⟨_, rfl, by have h9 := fb_addI (x := x2_5) (y := (1 : Int32)) (by omega) (by omega); exact h9⟩
          refine ok_lt fun x2_22 e_x2_22 => ?_
          have q_x2_22 : x2_22.toInt = t_47 := by rw [e_x2_22]; exact ht_47
          exact ih_a_21 _ x2_22 s_21 (by rw [hn_a_21]; omega) ⟨rfl, (by omega), hB_s_21, hF_s_21⟩

set_option maxHeartbeats 4000000 in
theorem s_X11_fault {σ : Sto} (hB : BX σ) : OK (f_X11_fault σ) (fun r => ((-1) ≤ r.1.toInt ∧ r.1.toInt ≤ 240) ∧ BX r.2 ∧ FR [3, 12, 13, 14, 15, 17, 18, 19] [] σ r.2) := by
  unfold f_X11_fault
  have hF : FR [3, 12, 13, 14, 15, 17, 18, 19] [] σ σ := FR.rf
  have k_m1 : ((-1) : Int32).toInt = -1 := by decide +kernel
  have k_0 : (0 : Int32).toInt = 0 := by decide +kernel
  refine ok_calv (s_X9_read_draft  (σ := σ) hB) (fun v_1 s_1 h_1 => ?_)
  obtain ⟨b_v_1, hB_s_1, hG_s_1⟩ := h_1
  (try dsimp only at b_v_1 hB_s_1 hG_s_1)
  have hF_s_1 : FR [3, 12, 13, 14, 15, 17, 18, 19] [] σ s_1 := FR.cal hF hG_s_1 rfl rfl
  refine ok_ite (fun c_2 => ?_) (fun c_2 => ?_)
  · rw [fa_eq] at c_2
    have g_3 := gX_3 hB_s_1 0
    exact ok_ret ⟨(by (try dsimp only); omega), hB_s_1, hF_s_1⟩
  · rw [fa_eq] at c_2
    exact ok_ret ⟨(by (try dsimp only); omega), hB_s_1, hF_s_1⟩

set_option maxHeartbeats 4000000 in
theorem s_X3_goesElsewhere_draft {x1 : Int32} {σ : Sto} (hB : BX σ) (p_x1 : 0 ≤ x1.toInt ∧ x1.toInt ≤ 39) : OK (f_X3_goesElsewhere_draft x1 σ) (fun v => (0 ≤ v.toInt ∧ v.toInt ≤ 1) ∧ ((v.toInt = 0 → ¬ gEl (σ.1 14 x1.toNatClampNeg)) ∧ (v.toInt = 1 → gEl (σ.1 14 x1.toNatClampNeg)))) := by
  unfold f_X3_goesElsewhere_draft
  have hF : FR [] [] σ σ := FR.rf
  have k_0 : (0 : Int32).toInt = 0 := by decide +kernel
  have k_1 : (1 : Int32).toInt = 1 := by decide +kernel
  have k_103 : (103 : Int32).toInt = 103 := by decide +kernel
  have k_122 : (122 : Int32).toInt = 122 := by decide +kernel
  refine ok_ix ⟨by omega, by omega⟩ ?_
  have g_1 := gX_14 hB (x1.toNatClampNeg)
  refine ok_lt fun v_1 e_v_1 => ?_
  have b_v_1 : 0 ≤ v_1.toInt ∧ v_1.toInt ≤ 255 := by rw [e_v_1]; exact gX_14 hB _
  have q_v_1 : v_1.toInt = (σ.1 14 x1.toNatClampNeg).toInt := by rw [e_v_1]
  have z1 : v_1.toInt = (σ.1 14 x1.toNatClampNeg).toInt := by rw [e_v_1]
  refine ok_jn ?_
  refine ok_ite (fun c_2 => ?_) (fun c_2 => ?_)
  · rw [fa_eq] at c_2
    exact ok_ret ⟨(by (try dsimp only); omega), ⟨fun h => by (try dsimp only at h); unfold gEl; omega, fun h => by (try dsimp only at h); unfold gEl; omega⟩⟩
  · rw [fa_eq] at c_2
    refine ok_ix ⟨by omega, by omega⟩ ?_
    refine ok_lt fun v_4 e_v_4 => ?_
    have b_v_4 : 0 ≤ v_4.toInt ∧ v_4.toInt ≤ 255 := by rw [e_v_4]; exact gX_14 hB _
    have q_v_4 : v_4.toInt = (σ.1 14 x1.toNatClampNeg).toInt := by rw [e_v_4]
    refine ok_ite (fun c_3 => ?_) (fun c_3 => ?_)
    · rw [fa_eq] at c_3
      exact ok_ret ⟨(by (try dsimp only); omega), ⟨fun h => by (try dsimp only at h); unfold gEl; omega, fun h => by (try dsimp only at h); unfold gEl; omega⟩⟩
    · rw [fa_eq] at c_3
      exact ok_ret ⟨(by (try dsimp only); omega), ⟨fun h => by (try dsimp only at h); unfold gEl; omega, fun h => by (try dsimp only at h); unfold gEl; omega⟩⟩

set_option maxHeartbeats 4000000 in
theorem s_X3_leadsInside_draft {σ : Sto} (hB : BX σ) : OK (f_X3_leadsInside_draft σ) (fun v => (0 ≤ v.toInt ∧ v.toInt ≤ 1) ∧ ((v.toInt = 1 → LD1 (σ.1 12 0).toInt (σ.1 12 0).toInt (σ.1 14) (σ.1 15) ∧ LD2 (σ.1 13 0).toInt (σ.1 12 0).toInt (σ.1 17) (σ.1 18) (σ.1 19)))) := by
  unfold f_X3_leadsInside_draft
  have hF : FR [] [] σ σ := FR.rf
  have k_0 : (0 : Int32).toInt = 0 := by decide +kernel
  have k_1 : (1 : Int32).toInt = 1 := by decide +kernel
  have g12 := gX_12 hB 0
  have g13 := gX_13 hB 0
  refine ok_itr1 (fun (n : Nat) (x1_1 : Int32) => n = (41 - x1_1.toInt).toNat ∧ (0 ≤ x1_1.toInt ∧ x1_1.toInt ≤ 40) ∧ (LD1 x1_1.toInt (σ.1 12 0).toInt (σ.1 14) (σ.1 15))) ?_ (n := _) ⟨rfl, (by omega), (fun i hi => by exfalso; have h9 : (0 : Int32).toInt = 0 := (by decide +kernel); omega)⟩ (show _ < 10000000 by omega)
  intro a_2 n x1_1 hI ih_a_2
  obtain ⟨hn_a_2, b_x1_1, h1⟩ := hI
  have g_2 := gX_12 hB 0
  refine ok_ite (fun c_1 => ?_) (fun c_1 => ?_)
  · rw [fa_le] at c_1
    refine ok_itr1 (fun (n : Nat) (x1_3 : Int32) => n = (4 - x1_3.toInt).toNat ∧ (0 ≤ x1_3.toInt ∧ x1_3.toInt ≤ 3) ∧ (LD2 x1_3.toInt (σ.1 12 0).toInt (σ.1 17) (σ.1 18) (σ.1 19))) ?_ (n := _) ⟨rfl, (by omega), (fun i hi => by exfalso; have h9 : (0 : Int32).toInt = 0 := (by decide +kernel); omega)⟩ (show _ < 10000000 by omega)
    intro a_41 n x1_3 hI ih_a_41
    obtain ⟨hn_a_41, b_x1_3, h2⟩ := hI
    have g_4 := gX_13 hB 0
    refine ok_ite (fun c_3 => ?_) (fun c_3 => ?_)
    · rw [fa_le] at c_3
      exact ok_ret ⟨(by (try dsimp only); omega), (fun h => by (try dsimp only at h); first | (exfalso; omega) | exact ⟨fun i hi => h1 i (by omega), fun k hk => h2 k (by omega)⟩)⟩
    · rw [fa_le] at c_3
      refine ok_ix ⟨by omega, by omega⟩ ?_
      have g_5 := gX_17 hB (x1_3.toNatClampNeg)
      refine ok_lt fun v_5 e_v_5 => ?_
      have b_v_5 : 0 ≤ v_5.toInt ∧ v_5.toInt ≤ 40 := by rw [e_v_5]; exact gX_17 hB _
      refine ok_ix ⟨by omega, by omega⟩ ?_
      have g_6 := gX_18 hB (x1_3.toNatClampNeg)
      refine ok_lt fun v_6 e_v_6 => ?_
      have b_v_6 : 0 ≤ v_6.toInt ∧ v_6.toInt ≤ 40 := by rw [e_v_6]; exact gX_18 hB _
      have q_v_6 : v_6.toInt = (σ.1 18 x1_3.toNatClampNeg).toInt := by rw [e_v_6]
      refine ok_ite (fun c_7 => ?_) (fun c_7 => ?_)
      · rw [fa_le] at c_7
        exact ok_ret ⟨(by (try dsimp only); omega), (fun h => by (try dsimp only at h); first | (exfalso; omega) | exact ⟨fun i hi => h1 i (by omega), fun k hk => h2 k (by omega)⟩)⟩
      · rw [fa_le] at c_7
        refine ok_ix ⟨by omega, by omega⟩ ?_
        refine ok_lt fun v_8 e_v_8 => ?_
        have b_v_8 : 0 ≤ v_8.toInt ∧ v_8.toInt ≤ 40 := by rw [e_v_8]; exact gX_18 hB _
        have q_v_8 : v_8.toInt = (σ.1 18 x1_3.toNatClampNeg).toInt := by rw [e_v_8]
        refine ok_ite (fun c_8 => ?_) (fun c_8 => ?_)
        · rw [fa_lt] at c_8
          exact ok_ret ⟨(by (try dsimp only); omega), (fun h => by (try dsimp only at h); first | (exfalso; omega) | exact ⟨fun i hi => h1 i (by omega), fun k hk => h2 k (by omega)⟩)⟩
        · rw [fa_lt] at c_8
          refine ok_ix ⟨by omega, by omega⟩ ?_
          have g_9 := gX_19 hB (x1_3.toNatClampNeg)
          refine ok_lt fun v_10 e_v_10 => ?_
          have b_v_10 : 0 ≤ v_10.toInt ∧ v_10.toInt ≤ 40 := by rw [e_v_10]; exact gX_19 hB _
          refine ok_ite (fun c_10 => ?_) (fun c_10 => ?_)
          · rw [fa_lt] at c_10
            obtain ⟨t_11, ht_11, g_11⟩ : ∃ t : Int, (x1_3 + 1).toInt = t ∧ t = x1_3.toInt + (1 : Int32).toInt := ⟨_, rfl, by have h9 := fb_addI (x := x1_3) (y := (1 : Int32)) (by omega) (by omega); exact h9⟩
            refine ok_lt fun x1_12 e_x1_12 => ?_
            have q_x1_12 : x1_12.toInt = t_11 := by rw [e_x1_12]; exact ht_11
            exact ih_a_41 _ x1_12 (by rw [hn_a_41]; omega) ⟨rfl, (by omega), (LD2.s h2 x1_3.toNatClampNeg (clamp_I (by omega)) (by omega) ⟨by rw [← e_v_5, ← e_v_6]; omega, by rw [← e_v_8]; omega, by rw [← e_v_10]; omega⟩)⟩
          · rw [fa_lt] at c_10
            exact ok_ret ⟨(by (try dsimp only); omega), (fun h => by (try dsimp only at h); first | (exfalso; omega) | exact ⟨fun i hi => h1 i (by omega), fun k hk => h2 k (by omega)⟩)⟩
  · rw [fa_le] at c_1
    refine ok_calp (s_X3_goesElsewhere_draft (x1 := x1_1) (σ := σ) hB (by omega)) (fun v_13 h_12 => ?_)
    obtain ⟨b_v_13, x_v_13⟩ := h_12
    (try dsimp only at b_v_13 x_v_13)
    refine ok_jn ?_
    refine ok_ite (fun c_13 => ?_) (fun c_13 => ?_)
    · rw [fa_eq] at c_13
      obtain ⟨t_14, ht_14, g_14⟩ : ∃ t : Int, (x1_1 + 1).toInt = t ∧ t = x1_1.toInt + (1 : Int32).toInt := ⟨_, rfl, by have h9 := fb_addI (x := x1_1) (y := (1 : Int32)) (by omega) (by omega); exact h9⟩
      refine ok_lt fun x1_15 e_x1_15 => ?_
      have q_x1_15 : x1_15.toInt = t_14 := by rw [e_x1_15]; exact ht_14
      exact ih_a_2 _ x1_15 (by rw [hn_a_2]; omega) ⟨rfl, (by omega), (LD1.s h1 x1_1.toNatClampNeg (clamp_I (by omega)) (by omega) (by first | exact fun g => absurd g (x_v_13.1 (by omega)) | exact fun _ => by rw [← e_v_17]; omega))⟩
    · rw [fa_eq] at c_13
      refine ok_ix ⟨by omega, by omega⟩ ?_
      have g_15 := gX_15 hB (x1_1.toNatClampNeg)
      refine ok_lt fun v_17 e_v_17 => ?_
      have b_v_17 : 0 ≤ v_17.toInt ∧ v_17.toInt ≤ 999 := by rw [e_v_17]; exact gX_15 hB _
      refine ok_ite (fun c_16 => ?_) (fun c_16 => ?_)
      · rw [fa_lt] at c_16
        obtain ⟨t_17, ht_17, g_17⟩ : ∃ t : Int, (x1_1 + 1).toInt = t ∧ t = x1_1.toInt + (1 : Int32).toInt := ⟨_, rfl, by have h9 := fb_addI (x := x1_1) (y := (1 : Int32)) (by omega) (by omega); exact h9⟩
        refine ok_lt fun x1_15 e_x1_15 => ?_
        have q_x1_15 : x1_15.toInt = t_17 := by rw [e_x1_15]; exact ht_17
        exact ih_a_2 _ x1_15 (by rw [hn_a_2]; omega) ⟨rfl, (by omega), (LD1.s h1 x1_1.toNatClampNeg (clamp_I (by omega)) (by omega) (by first | exact fun g => absurd g (x_v_13.1 (by omega)) | exact fun _ => by rw [← e_v_17]; omega))⟩
      · rw [fa_lt] at c_16
        exact ok_ret ⟨(by (try dsimp only); omega), (fun h => by (try dsimp only at h); first | (exfalso; omega) | exact ⟨fun i hi => h1 i (by omega), fun k hk => h2 k (by omega)⟩)⟩

set_option maxHeartbeats 4000000 in
theorem s_X3_lowestOpen_draft {x1 : Int64} {σ : Sto} (hB : BX σ) : OK (f_X3_lowestOpen_draft x1 σ) (fun v => ((-1) ≤ v.toInt ∧ v.toInt ≤ 39) ∧ ((v.toInt ≠ -1 → v.toInt < (σ.1 12 0).toInt))) := by
  unfold f_X3_lowestOpen_draft
  have hF : FR [] [] σ σ := FR.rf
  have k_m1 : ((-1) : Int32).toInt = -1 := by decide +kernel
  have k_0 : (0 : Int32).toInt = 0 := by decide +kernel
  have k_1 : (1 : Int32).toInt = 1 := by decide +kernel
  refine ok_itr1 (fun (n : Nat) (x3_1 : Int32) => n = (41 - x3_1.toInt).toNat ∧ (0 ≤ x3_1.toInt ∧ x3_1.toInt ≤ 40)) ?_ (n := _) ⟨rfl, (by omega)⟩ (show _ < 10000000 by omega)
  intro a_2 n x3_1 hI ih_a_2
  obtain ⟨hn_a_2, b_x3_1⟩ := hI
  have g_2 := gX_12 hB 0
  refine ok_ite (fun c_1 => ?_) (fun c_1 => ?_)
  · rw [fa_le] at c_1
    exact ok_ret ⟨(by (try dsimp only); omega), (fun h => by (try dsimp only at h); (try dsimp only); omega)⟩
  · rw [fa_le] at c_1
    refine ok_ix ⟨by omega, by omega⟩ ?_
    have g_3 := gX_16 hB (x3_1.toNatClampNeg)
    refine ok_lt fun v_3 e_v_3 => ?_
    have b_v_3 : (-1) ≤ v_3.toInt ∧ v_3.toInt ≤ 6 := by rw [e_v_3]; exact gX_16 hB _
    refine ok_jn ?_
    refine ok_ite (fun c_4 => ?_) (fun c_4 => ?_)
    · rw [fa_eq] at c_4
      obtain ⟨t_5, ht_5, g_5⟩ : ∃ t : Int, (x3_1 + 1).toInt = t ∧ t = x3_1.toInt + (1 : Int32).toInt := ⟨_, rfl, by have h9 := fb_addI (x := x3_1) (y := (1 : Int32)) (by omega) (by omega); exact h9⟩
      refine ok_lt fun x3_5 e_x3_5 => ?_
      have q_x3_5 : x3_5.toInt = t_5 := by rw [e_x3_5]; exact ht_5
      exact ih_a_2 _ x3_5 (by rw [hn_a_2]; omega) ⟨rfl, (by omega)⟩
    · rw [fa_eq] at c_4
      refine ok_calp (s_X11_isIn (x1 := x1) (x2 := x3_1) ) (fun v_7 h_6 => ?_)
      have b_v_7 := h_6
      (try dsimp only at b_v_7)
      refine ok_ite (fun c_7 => ?_) (fun c_7 => ?_)
      · rw [fa_eq] at c_7
        exact ok_ret ⟨(by (try dsimp only); omega), (fun h => by (try dsimp only at h); (try dsimp only); omega)⟩
      · rw [fa_eq] at c_7
        obtain ⟨t_8, ht_8, g_8⟩ : ∃ t : Int, (x3_1 + 1).toInt = t ∧ t = x3_1.toInt + (1 : Int32).toInt := ⟨_, rfl, by have h9 := fb_addI (x := x3_1) (y := (1 : Int32)) (by omega) (by omega); exact h9⟩
        refine ok_lt fun x3_5 e_x3_5 => ?_
        have q_x3_5 : x3_5.toInt = t_8 := by rw [e_x3_5]; exact ht_8
        exact ih_a_2 _ x3_5 (by rw [hn_a_2]; omega) ⟨rfl, (by omega)⟩

set_option maxHeartbeats 4000000 in
theorem s_X3_needs {x1 : Int32} (p_x1 : 0 ≤ x1.toInt ∧ x1.toInt ≤ 255) : OK (f_X3_needs x1) (fun v => (0 ≤ v.toInt ∧ v.toInt ≤ 2) ∧ (v.toInt = ndI x1.toInt)) := by
  unfold f_X3_needs
  have k_0 : (0 : Int32).toInt = 0 := by decide +kernel
  have k_1 : (1 : Int32).toInt = 1 := by decide +kernel
  have k_2 : (2 : Int32).toInt = 2 := by decide +kernel
  have k_119 : (119 : Int32).toInt = 119 := by decide +kernel
  refine ok_ite (fun c_1 => ?_) (fun c_1 => ?_)
  · have c_1 := c_1
    exact ok_ret ⟨(by (try dsimp only); omega), (by (try dsimp only); unfold ndI; (try unfold opB at x_v_2); (repeat split) <;> omega)⟩
  · have c_1 := c_1
    refine ok_ite (fun c_2 => ?_) (fun c_2 => ?_)
    · have c_2 := c_2
      exact ok_ret ⟨(by (try dsimp only); omega), (by (try dsimp only); unfold ndI; (try unfold opB at x_v_2); (repeat split) <;> omega)⟩
    · have c_2 := c_2
      refine ok_calp (s_X11_isBinary (x1 := x1) ) (fun v_2 h_3 => ?_)
      obtain ⟨b_v_2, x_v_2⟩ := h_3
      (try dsimp only at b_v_2 x_v_2)
      refine ok_ite (fun c_4 => ?_) (fun c_4 => ?_)
      · rw [fa_eq] at c_4
        exact ok_ret ⟨(by (try dsimp only); omega), (by (try dsimp only); unfold ndI; (try unfold opB at x_v_2); (repeat split) <;> omega)⟩
      · rw [fa_eq] at c_4
        exact ok_ret ⟨(by (try dsimp only); omega), (by (try dsimp only); unfold ndI; (try unfold opB at x_v_2); (repeat split) <;> omega)⟩

set_option maxHeartbeats 4000000 in
theorem s_X3_gives {x1 : Int32} (p_x1 : 0 ≤ x1.toInt ∧ x1.toInt ≤ 255) : OK (f_X3_gives x1) (fun v => (0 ≤ v.toInt ∧ v.toInt ≤ 2) ∧ (v.toInt = gvI x1.toInt)) := by
  unfold f_X3_gives
  have k_0 : (0 : Int32).toInt = 0 := by decide +kernel
  have k_1 : (1 : Int32).toInt = 1 := by decide +kernel
  have k_2 : (2 : Int32).toInt = 2 := by decide +kernel
  refine ok_ite (fun c_1 => ?_) (fun c_1 => ?_)
  · have c_1 := c_1
    exact ok_ret ⟨(by (try dsimp only); omega), (by (try dsimp only); unfold gvI; (try unfold opB at x_v_2); (repeat split) <;> omega)⟩
  · have c_1 := c_1
    refine ok_ite (fun c_2 => ?_) (fun c_2 => ?_)
    · have c_2 := c_2
      exact ok_ret ⟨(by (try dsimp only); omega), (by (try dsimp only); unfold gvI; (try unfold opB at x_v_2); (repeat split) <;> omega)⟩
    · have c_2 := c_2
      refine ok_calp (s_X11_isBinary (x1 := x1) ) (fun v_2 h_3 => ?_)
      obtain ⟨b_v_2, x_v_2⟩ := h_3
      (try dsimp only at b_v_2 x_v_2)
      refine ok_ite (fun c_4 => ?_) (fun c_4 => ?_)
      · rw [fa_eq] at c_4
        exact ok_ret ⟨(by (try dsimp only); omega), (by (try dsimp only); unfold gvI; (try unfold opB at x_v_2); (repeat split) <;> omega)⟩
      · rw [fa_eq] at c_4
        exact ok_ret ⟨(by (try dsimp only); omega), (by (try dsimp only); unfold gvI; (try unfold opB at x_v_2); (repeat split) <;> omega)⟩

set_option maxHeartbeats 4000000 in
theorem s_X3_depthBehind_draft {x1 : Int32} {σ : Sto} (hB : BX σ) (p_x1 : 0 ≤ x1.toInt ∧ x1.toInt ≤ 39) : OK (f_X3_depthBehind_draft x1 σ) (fun v => ((-3) ≤ v.toInt ∧ v.toInt ≤ 8) ∧ (HD (σ.1 14 x1.toNatClampNeg).toInt (σ.1 16 x1.toNatClampNeg).toInt v.toInt)) := by
  unfold f_X3_depthBehind_draft
  have hF : FR [] [] σ σ := FR.rf
  refine ok_ix ⟨by omega, by omega⟩ ?_
  have g_1 := gX_16 hB (x1.toNatClampNeg)
  refine ok_lt fun v_1 e_v_1 => ?_
  have b_v_1 : (-1) ≤ v_1.toInt ∧ v_1.toInt ≤ 6 := by rw [e_v_1]; exact gX_16 hB _
  refine ok_ix ⟨by omega, by omega⟩ ?_
  have g_2 := gX_14 hB (x1.toNatClampNeg)
  refine ok_lt fun v_2 e_v_2 => ?_
  have b_v_2 : 0 ≤ v_2.toInt ∧ v_2.toInt ≤ 255 := by rw [e_v_2]; exact gX_14 hB _
  have q_v_2 : v_2.toInt = (σ.1 14 x1.toNatClampNeg).toInt := by rw [e_v_2]
  refine ok_calp (s_X3_needs (x1 := v_2) (by omega)) (fun v_3 h_3 => ?_)
  obtain ⟨b_v_3, x_v_3⟩ := h_3
  (try dsimp only at b_v_3 x_v_3)
  refine ok_ix ⟨by omega, by omega⟩ ?_
  refine ok_lt fun v_4 e_v_4 => ?_
  have b_v_4 : 0 ≤ v_4.toInt ∧ v_4.toInt ≤ 255 := by rw [e_v_4]; exact gX_14 hB _
  have q_v_4 : v_4.toInt = (σ.1 14 x1.toNatClampNeg).toInt := by rw [e_v_4]
  refine ok_calp (s_X3_gives (x1 := v_4) (by omega)) (fun v_5 h_4 => ?_)
  obtain ⟨b_v_5, x_v_5⟩ := h_4
  (try dsimp only at b_v_5 x_v_5)
  have y3 : v_3.toInt = ndI (σ.1 14 x1.toNatClampNeg).toInt := by rw [x_v_3, e_v_2]
  have y5 : v_5.toInt = gvI (σ.1 14 x1.toNatClampNeg).toInt := by rw [x_v_5, e_v_4]
  have y1 : v_1.toInt = (σ.1 16 x1.toNatClampNeg).toInt := by rw [e_v_1]
  obtain ⟨t_5, ht_5, g_5⟩ : ∃ t : Int, (v_1 - v_3).toInt = t ∧ t = v_1.toInt - v_3.toInt := ⟨_, rfl, by have h9 := fb_subI (x := v_1) (y := v_3) (by omega) (by omega); exact h9⟩
  obtain ⟨t_6, ht_6, g_6⟩ : ∃ t : Int, ((v_1 - v_3) + v_5).toInt = t ∧ t = t_5 + v_5.toInt := ⟨_, rfl, by have h9 := fb_addI (x := (v_1 - v_3)) (y := v_5) (by rw [ht_5]; omega) (by rw [ht_5]; omega); rw [ht_5] at h9; exact h9⟩
  exact ok_ret ⟨(by (try dsimp only); rw [ht_6]; omega), (by (try dsimp only); unfold HD; omega)⟩

set_option maxHeartbeats 4000000 in
theorem s_X3_ends_draft {x1 : Int32} {σ : Sto} (hB : BX σ) (p_x1 : 0 ≤ x1.toInt ∧ x1.toInt ≤ 39) : OK (f_X3_ends_draft x1 σ) (fun v => (0 ≤ v.toInt ∧ v.toInt ≤ 1)) := by
  unfold f_X3_ends_draft
  have hF : FR [] [] σ σ := FR.rf
  have k_0 : (0 : Int32).toInt = 0 := by decide +kernel
  have k_1 : (1 : Int32).toInt = 1 := by decide +kernel
  have k_114 : (114 : Int32).toInt = 114 := by decide +kernel
  have k_116 : (116 : Int32).toInt = 116 := by decide +kernel
  refine ok_ix ⟨by omega, by omega⟩ ?_
  have g_1 := gX_14 hB (x1.toNatClampNeg)
  refine ok_lt fun v_1 e_v_1 => ?_
  have b_v_1 : 0 ≤ v_1.toInt ∧ v_1.toInt ≤ 255 := by rw [e_v_1]; exact gX_14 hB _
  have q_v_1 : v_1.toInt = (σ.1 14 x1.toNatClampNeg).toInt := by rw [e_v_1]
  refine ok_jn ?_
  refine ok_ite (fun c_2 => ?_) (fun c_2 => ?_)
  · rw [fa_eq] at c_2
    exact ok_ret (by (try dsimp only); omega)
  · rw [fa_eq] at c_2
    refine ok_ix ⟨by omega, by omega⟩ ?_
    refine ok_lt fun v_4 e_v_4 => ?_
    have b_v_4 : 0 ≤ v_4.toInt ∧ v_4.toInt ≤ 255 := by rw [e_v_4]; exact gX_14 hB _
    have q_v_4 : v_4.toInt = (σ.1 14 x1.toNatClampNeg).toInt := by rw [e_v_4]
    refine ok_ite (fun c_3 => ?_) (fun c_3 => ?_)
    · rw [fa_eq] at c_3
      exact ok_ret (by (try dsimp only); omega)
    · rw [fa_eq] at c_3
      exact ok_ret (by (try dsimp only); omega)

set_option maxHeartbeats 4000000 in
theorem s_X3_goesOn_draft {x1 : Int32} {σ : Sto} (hB : BX σ) (p_x1 : 0 ≤ x1.toInt ∧ x1.toInt ≤ 39) : OK (f_X3_goesOn_draft x1 σ) (fun v => (0 ≤ v.toInt ∧ v.toInt ≤ 1)) := by
  unfold f_X3_goesOn_draft
  have hF : FR [] [] σ σ := FR.rf
  have k_0 : (0 : Int32).toInt = 0 := by decide +kernel
  have k_1 : (1 : Int32).toInt = 1 := by decide +kernel
  have k_103 : (103 : Int32).toInt = 103 := by decide +kernel
  refine ok_ix ⟨by omega, by omega⟩ ?_
  have g_1 := gX_14 hB (x1.toNatClampNeg)
  refine ok_lt fun v_1 e_v_1 => ?_
  have b_v_1 : 0 ≤ v_1.toInt ∧ v_1.toInt ≤ 255 := by rw [e_v_1]; exact gX_14 hB _
  refine ok_jn ?_
  refine ok_ite (fun c_2 => ?_) (fun c_2 => ?_)
  · rw [fa_eq] at c_2
    exact ok_ret (by (try dsimp only); omega)
  · rw [fa_eq] at c_2
    refine ok_calp (s_X3_ends_draft (x1 := x1) (σ := σ) hB (by omega)) (fun v_4 h_3 => ?_)
    have b_v_4 := h_3
    (try dsimp only at b_v_4)
    refine ok_ite (fun c_4 => ?_) (fun c_4 => ?_)
    · rw [fa_eq] at c_4
      exact ok_ret (by (try dsimp only); omega)
    · rw [fa_eq] at c_4
      exact ok_ret (by (try dsimp only); omega)

set_option maxHeartbeats 4000000 in
theorem s_X3_canThrow_draft {x1 : Int32} {σ : Sto} (hB : BX σ) (p_x1 : 0 ≤ x1.toInt ∧ x1.toInt ≤ 39) : OK (f_X3_canThrow_draft x1 σ) (fun v => (0 ≤ v.toInt ∧ v.toInt ≤ 1)) := by
  unfold f_X3_canThrow_draft
  have hF : FR [] [] σ σ := FR.rf
  have k_0 : (0 : Int32).toInt = 0 := by decide +kernel
  have k_1 : (1 : Int32).toInt = 1 := by decide +kernel
  have k_37 : (37 : Int32).toInt = 37 := by decide +kernel
  have k_47 : (47 : Int32).toInt = 47 := by decide +kernel
  have k_116 : (116 : Int32).toInt = 116 := by decide +kernel
  refine ok_ix ⟨by omega, by omega⟩ ?_
  have g_1 := gX_14 hB (x1.toNatClampNeg)
  refine ok_lt fun v_1 e_v_1 => ?_
  have b_v_1 : 0 ≤ v_1.toInt ∧ v_1.toInt ≤ 255 := by rw [e_v_1]; exact gX_14 hB _
  have q_v_1 : v_1.toInt = (σ.1 14 x1.toNatClampNeg).toInt := by rw [e_v_1]
  refine ok_jn ?_
  refine ok_ite (fun c_2 => ?_) (fun c_2 => ?_)
  · rw [fa_eq] at c_2
    exact ok_ret (by (try dsimp only); omega)
  · rw [fa_eq] at c_2
    refine ok_ix ⟨by omega, by omega⟩ ?_
    refine ok_lt fun v_4 e_v_4 => ?_
    have b_v_4 : 0 ≤ v_4.toInt ∧ v_4.toInt ≤ 255 := by rw [e_v_4]; exact gX_14 hB _
    have q_v_4 : v_4.toInt = (σ.1 14 x1.toNatClampNeg).toInt := by rw [e_v_4]
    refine ok_ite (fun c_3 => ?_) (fun c_3 => ?_)
    · rw [fa_eq] at c_3
      exact ok_ret (by (try dsimp only); omega)
    · rw [fa_eq] at c_3
      refine ok_ix ⟨by omega, by omega⟩ ?_
      refine ok_lt fun v_6 e_v_6 => ?_
      have b_v_6 : 0 ≤ v_6.toInt ∧ v_6.toInt ≤ 255 := by rw [e_v_6]; exact gX_14 hB _
      have q_v_6 : v_6.toInt = (σ.1 14 x1.toNatClampNeg).toInt := by rw [e_v_6]
      refine ok_ite (fun c_4 => ?_) (fun c_4 => ?_)
      · rw [fa_eq] at c_4
        exact ok_ret (by (try dsimp only); omega)
      · rw [fa_eq] at c_4
        exact ok_ret (by (try dsimp only); omega)

set_option maxHeartbeats 4000000 in
theorem s_X3_arrive_draft {x1 : Int32} {x2 : Int32} {σ : Sto} (hB : BX σ) (p_x1 : 0 ≤ x1.toInt ∧ x1.toInt ≤ 39) (p_x2 : (-1) ≤ x2.toInt ∧ x2.toInt ≤ 6) : OK (f_X3_arrive_draft x1 x2 σ) (fun r => (0 ≤ r.1.toInt ∧ r.1.toInt ≤ 1) ∧ BX r.2 ∧ FR [16] [] σ r.2) := by
  unfold f_X3_arrive_draft
  have hF : FR [16] [] σ σ := FR.rf
  have k_m1 : ((-1) : Int32).toInt = -1 := by decide +kernel
  have k_0 : (0 : Int32).toInt = 0 := by decide +kernel
  have k_1 : (1 : Int32).toInt = 1 := by decide +kernel
  refine ok_ix ⟨by omega, by omega⟩ ?_
  have g_1 := gX_16 hB (x1.toNatClampNeg)
  refine ok_lt fun v_1 e_v_1 => ?_
  have b_v_1 : (-1) ≤ v_1.toInt ∧ v_1.toInt ≤ 6 := by rw [e_v_1]; exact gX_16 hB _
  refine ok_jn ?_
  refine ok_ite (fun c_2 => ?_) (fun c_2 => ?_)
  · rw [fa_eq] at c_2
    refine ok_ix ⟨by omega, by omega⟩ ?_
    refine ok_lt fun s_6 e_s_6 => ?_
    have hB_s_6 : BX s_6 := by rw [e_s_6]; exact pX_16 hB (by omega)
    have hF_s_6 : FR [16] [] σ s_6 := by rw [e_s_6]; exact FR.st hF (by decide)
    refine ok_ix ⟨by omega, by omega⟩ ?_
    have g_3 := gX_16 hB_s_6 (x1.toNatClampNeg)
    refine ok_lt fun v_3 e_v_3 => ?_
    have b_v_3 : (-1) ≤ v_3.toInt ∧ v_3.toInt ≤ 6 := by rw [e_v_3]; exact gX_16 hB_s_6 _
    refine ok_ite (fun c_4 => ?_) (fun c_4 => ?_)
    · rw [fa_eq] at c_4
      exact ok_ret ⟨(by (try dsimp only); omega), hB_s_6, hF_s_6⟩
    · rw [fa_eq] at c_4
      exact ok_ret ⟨(by (try dsimp only); omega), hB_s_6, hF_s_6⟩
  · rw [fa_eq] at c_2
    refine ok_ix ⟨by omega, by omega⟩ ?_
    refine ok_lt fun v_3 e_v_3 => ?_
    have b_v_3 : (-1) ≤ v_3.toInt ∧ v_3.toInt ≤ 6 := by rw [e_v_3]; exact gX_16 hB _
    refine ok_ite (fun c_5 => ?_) (fun c_5 => ?_)
    · rw [fa_eq] at c_5
      exact ok_ret ⟨(by (try dsimp only); omega), hB, hF⟩
    · rw [fa_eq] at c_5
      exact ok_ret ⟨(by (try dsimp only); omega), hB, hF⟩

set_option maxHeartbeats 4000000 in
theorem s_X3_handlerOf_draft {x1 : Int32} {σ : Sto} (hB : BX σ) (p_x1 : 0 ≤ x1.toInt ∧ x1.toInt ≤ 39) : OK (f_X3_handlerOf_draft x1 σ) (fun v => ((-1) ≤ v.toInt ∧ v.toInt ≤ 2) ∧ ((v.toInt ≠ -1 → v.toInt < (σ.1 13 0).toInt))) := by
  unfold f_X3_handlerOf_draft
  have hF : FR [] [] σ σ := FR.rf
  have k_m1 : ((-1) : Int32).toInt = -1 := by decide +kernel
  have k_0 : (0 : Int32).toInt = 0 := by decide +kernel
  have k_1 : (1 : Int32).toInt = 1 := by decide +kernel
  refine ok_itr1 (fun (n : Nat) (x2_1 : Int32) => n = (4 - x2_1.toInt).toNat ∧ (0 ≤ x2_1.toInt ∧ x2_1.toInt ≤ 3)) ?_ (n := _) ⟨rfl, (by omega)⟩ (show _ < 10000000 by omega)
  intro a_2 n x2_1 hI ih_a_2
  obtain ⟨hn_a_2, b_x2_1⟩ := hI
  have g_2 := gX_13 hB 0
  refine ok_ite (fun c_1 => ?_) (fun c_1 => ?_)
  · rw [fa_le] at c_1
    exact ok_ret ⟨(by (try dsimp only); omega), (fun h => by (try dsimp only at h); (try dsimp only); omega)⟩
  · rw [fa_le] at c_1
    refine ok_ix ⟨by omega, by omega⟩ ?_
    have g_3 := gX_17 hB (x2_1.toNatClampNeg)
    refine ok_lt fun v_3 e_v_3 => ?_
    have b_v_3 : 0 ≤ v_3.toInt ∧ v_3.toInt ≤ 40 := by rw [e_v_3]; exact gX_17 hB _
    refine ok_jn ?_
    refine ok_ite (fun c_4 => ?_) (fun c_4 => ?_)
    · rw [fa_lt] at c_4
      obtain ⟨t_5, ht_5, g_5⟩ : ∃ t : Int, (x2_1 + 1).toInt = t ∧ t = x2_1.toInt + (1 : Int32).toInt := ⟨_, rfl, by have h9 := fb_addI (x := x2_1) (y := (1 : Int32)) (by omega) (by omega); exact h9⟩
      refine ok_lt fun x2_5 e_x2_5 => ?_
      have q_x2_5 : x2_5.toInt = t_5 := by rw [e_x2_5]; exact ht_5
      exact ih_a_2 _ x2_5 (by rw [hn_a_2]; omega) ⟨rfl, (by omega)⟩
    · rw [fa_lt] at c_4
      refine ok_ix ⟨by omega, by omega⟩ ?_
      have g_6 := gX_18 hB (x2_1.toNatClampNeg)
      refine ok_lt fun v_7 e_v_7 => ?_
      have b_v_7 : 0 ≤ v_7.toInt ∧ v_7.toInt ≤ 40 := by rw [e_v_7]; exact gX_18 hB _
      refine ok_ite (fun c_7 => ?_) (fun c_7 => ?_)
      · rw [fa_le] at c_7
        obtain ⟨t_8, ht_8, g_8⟩ : ∃ t : Int, (x2_1 + 1).toInt = t ∧ t = x2_1.toInt + (1 : Int32).toInt := ⟨_, rfl, by have h9 := fb_addI (x := x2_1) (y := (1 : Int32)) (by omega) (by omega); exact h9⟩
        refine ok_lt fun x2_5 e_x2_5 => ?_
        have q_x2_5 : x2_5.toInt = t_8 := by rw [e_x2_5]; exact ht_8
        exact ih_a_2 _ x2_5 (by rw [hn_a_2]; omega) ⟨rfl, (by omega)⟩
      · rw [fa_le] at c_7
        exact ok_ret ⟨(by (try dsimp only); omega), (fun h => by (try dsimp only at h); (try dsimp only); omega)⟩

set_option maxHeartbeats 4000000 in
theorem s_X3_goOver_draft {x1 : Int32} {σ : Sto} (hB : BX σ) (p_x1 : 0 ≤ x1.toInt ∧ x1.toInt ≤ 39) (hx : x1.toInt < (σ.1 12 0).toInt) (hl1 : LD1 (σ.1 12 0).toInt (σ.1 12 0).toInt (σ.1 14) (σ.1 15)) (hl2 : LD2 (σ.1 13 0).toInt (σ.1 12 0).toInt (σ.1 17) (σ.1 18) (σ.1 19)) : OK (f_X3_goOver_draft x1 σ) (fun r => ((-6) ≤ r.1.toInt ∧ r.1.toInt ≤ 0) ∧ BX r.2 ∧ FR [16] [] σ r.2) := by
  unfold f_X3_goOver_draft
  have hF : FR [16] [] σ σ := FR.rf
  have k_m6 : ((-6) : Int32).toInt = -6 := by decide +kernel
  have k_m5 : ((-5) : Int32).toInt = -5 := by decide +kernel
  have k_m4 : ((-4) : Int32).toInt = -4 := by decide +kernel
  have k_m3 : ((-3) : Int32).toInt = -3 := by decide +kernel
  have k_m1 : ((-1) : Int32).toInt = -1 := by decide +kernel
  have k_0 : (0 : Int32).toInt = 0 := by decide +kernel
  have k_1 : (1 : Int32).toInt = 1 := by decide +kernel
  have k_6 : (6 : Int32).toInt = 6 := by decide +kernel
  have g12 := gX_12 hB 0
  have g13 := gX_13 hB 0
  refine ok_ix ⟨by omega, by omega⟩ ?_
  have g_1 := gX_16 hB (x1.toNatClampNeg)
  refine ok_lt fun v_1 e_v_1 => ?_
  have b_v_1 : (-1) ≤ v_1.toInt ∧ v_1.toInt ≤ 6 := by rw [e_v_1]; exact gX_16 hB _
  refine ok_ix ⟨by omega, by omega⟩ ?_
  have g_2 := gX_14 hB (x1.toNatClampNeg)
  refine ok_lt fun v_2 e_v_2 => ?_
  have b_v_2 : 0 ≤ v_2.toInt ∧ v_2.toInt ≤ 255 := by rw [e_v_2]; exact gX_14 hB _
  refine ok_calp (s_X3_needs (x1 := v_2) (by omega)) (fun v_3 h_3 => ?_)
  obtain ⟨b_v_3, x_v_3⟩ := h_3
  (try dsimp only at b_v_3 x_v_3)
  refine ok_ite (fun c_4 => ?_) (fun c_4 => ?_)
  · rw [fa_le] at c_4
    refine ok_calp (s_X3_depthBehind_draft (x1 := x1) (σ := σ) hB (by omega)) (fun v_5 h_5 => ?_)
    obtain ⟨b_v_5, x_v_5⟩ := h_5
    (try dsimp only at b_v_5 x_v_5)
    have y0 := gv_0 (σ.1 14 x1.toNatClampNeg).toInt
    have yn : v_3.toInt = ndI (σ.1 14 x1.toNatClampNeg).toInt := by rw [x_v_3, e_v_2]
    have yh : v_5.toInt = v_1.toInt - ndI (σ.1 14 x1.toNatClampNeg).toInt + gvI (σ.1 14 x1.toNatClampNeg).toInt := by rw [e_v_1]; exact x_v_5
    refine ok_ite (fun c_6 => ?_) (fun c_6 => ?_)
    · rw [fa_le] at c_6
      refine ok_calp (s_X3_goesOn_draft (x1 := x1) (σ := σ) hB (by omega)) (fun v_7 h_7 => ?_)
      have b_v_7 := h_7
      (try dsimp only at b_v_7)
      refine ok_jnI1 (fun (s_8 : Sto) => True ∧ (BX s_8) ∧ (FR [16] [] σ s_8)) ?_ ?_
      · intro s_8 hJ
        obtain ⟨-, hB_s_8, hF_s_8⟩ := hJ
        refine ok_calp (s_X3_goesElsewhere_draft (x1 := x1) (σ := s_8) hB_s_8 (by omega)) (fun v_9 h_8 => ?_)
        obtain ⟨b_v_9, x_v_9⟩ := h_8
        (try dsimp only at b_v_9 x_v_9)
        refine ok_jnI1 (fun (s_10 : Sto) => True ∧ (BX s_10) ∧ (FR [16] [] σ s_10)) ?_ ?_
        · intro s_10 hJ
          obtain ⟨-, hB_s_10, hF_s_10⟩ := hJ
          refine ok_calp (s_X3_canThrow_draft (x1 := x1) (σ := s_10) hB_s_10 (by omega)) (fun v_11 h_9 => ?_)
          have b_v_11 := h_9
          (try dsimp only at b_v_11)
          refine ok_jnI1 (fun (t0_12 : Int32) => True ∧ ((-1) ≤ t0_12.toInt ∧ t0_12.toInt ≤ 2) ∧ (t0_12.toInt ≠ -1 → t0_12.toInt < (σ.1 13 0).toInt)) ?_ ?_
          · intro t0_12 hJ
            obtain ⟨-, b_t0_12, j13⟩ := hJ
            refine ok_jn ?_
            refine ok_ite (fun c_10 => ?_) (fun c_10 => ?_)
            · rw [fa_eq] at c_10
              exact ok_ret ⟨(by (try dsimp only); omega), hB_s_10, hF_s_10⟩
            · rw [fa_eq] at c_10
              refine ok_ix ⟨by omega, by omega⟩ ?_
              have g_11 := gX_19 hB_s_10 (t0_12.toNatClampNeg)
              refine ok_lt fun v_15 e_v_15 => ?_
              have b_v_15 : 0 ≤ v_15.toInt ∧ v_15.toInt ≤ 40 := by rw [e_v_15]; exact gX_19 hB_s_10 _
              have y15 : v_15.toInt ≤ 39 := by have h9 := (hl2 t0_12.toNatClampNeg (by have := clamp_I (x := t0_12) (by omega); omega)).2.2; rw [e_v_15, hF_s_10.1 19 (by decide)]; omega
              refine ok_calv (s_X3_arrive_draft (x1 := v_15) (x2 := (1 : Int32)) (σ := s_10) hB_s_10 (by omega) (by omega)) (fun v_16 s_16 h_12 => ?_)
              obtain ⟨b_v_16, hB_s_16, hG_s_16⟩ := h_12
              (try dsimp only at b_v_16 hB_s_16 hG_s_16)
              have hF_s_16 : FR [16] [] σ s_16 := FR.cal hF_s_10 hG_s_16 rfl rfl
              refine ok_ite (fun c_13 => ?_) (fun c_13 => ?_)
              · rw [fa_eq] at c_13
                exact ok_ret ⟨(by (try dsimp only); omega), hB_s_16, hF_s_16⟩
              · rw [fa_eq] at c_13
                exact ok_ret ⟨(by (try dsimp only); omega), hB_s_16, hF_s_16⟩
          · intro k_113 hk_k_113
            refine ok_ite (fun c_14 => ?_) (fun c_14 => ?_)
            · rw [fa_eq] at c_14
              exact hk_k_113 ((-1) : Int32) ⟨trivial, (by omega), (by omega)⟩
            · rw [fa_eq] at c_14
              refine ok_calp (s_X3_handlerOf_draft (x1 := x1) (σ := s_10) hB_s_10 (by omega)) (fun v_19 h_15 => ?_)
              obtain ⟨b_v_19, x_v_19⟩ := h_15
              (try dsimp only at b_v_19 x_v_19)
              have y19 : v_19.toInt ≠ -1 → v_19.toInt < (σ.1 13 0).toInt := fun h => by have h8 := x_v_19 h; rw [hF_s_10.1 13 (by decide)] at h8; exact h8
              exact hk_k_113 v_19 ⟨trivial, (by omega), (by omega)⟩
        · intro k_96 hk_k_96
          refine ok_ite (fun c_16 => ?_) (fun c_16 => ?_)
          · rw [fa_eq] at c_16
            exact hk_k_96 s_8 ⟨trivial, hB_s_8, hF_s_8⟩
          · rw [fa_eq] at c_16
            refine ok_ix ⟨by omega, by omega⟩ ?_
            have g_17 := gX_15 hB_s_8 (x1.toNatClampNeg)
            refine ok_lt fun v_21 e_v_21 => ?_
            have b_v_21 : 0 ≤ v_21.toInt ∧ v_21.toInt ≤ 999 := by rw [e_v_21]; exact gX_15 hB_s_8 _
            have y21 : v_21.toInt ≤ 39 := by have h9 := hl1 x1.toNatClampNeg (by have := clamp_I (x := x1) (by omega); omega) (by have h8 := x_v_9.2 (by omega); rw [hF_s_8.1 14 (by decide)] at h8; exact h8); rw [e_v_21, hF_s_8.1 15 (by decide)]; omega
            refine ok_calv (s_X3_arrive_draft (x1 := v_21) (x2 := v_5) (σ := s_8) hB_s_8 (by omega) (by omega)) (fun v_22 s_22 h_18 => ?_)
            obtain ⟨b_v_22, hB_s_22, hG_s_22⟩ := h_18
            (try dsimp only at b_v_22 hB_s_22 hG_s_22)
            have hF_s_22 : FR [16] [] σ s_22 := FR.cal hF_s_8 hG_s_22 rfl rfl
            refine ok_ite (fun c_19 => ?_) (fun c_19 => ?_)
            · rw [fa_eq] at c_19
              exact ok_ret ⟨(by (try dsimp only); omega), hB_s_22, hF_s_22⟩
            · rw [fa_eq] at c_19
              exact hk_k_96 s_22 ⟨trivial, hB_s_22, hF_s_22⟩
      · intro k_71 hk_k_71
        refine ok_ite (fun c_20 => ?_) (fun c_20 => ?_)
        · rw [fa_eq] at c_20
          exact hk_k_71 σ ⟨trivial, hB, hF⟩
        · rw [fa_eq] at c_20
          obtain ⟨t_22, ht_22, g_22⟩ : ∃ t : Int, (x1 + 1).toInt = t ∧ t = x1.toInt + (1 : Int32).toInt := ⟨_, rfl, by have h9 := fb_addI (x := x1) (y := (1 : Int32)) (by omega) (by omega); exact h9⟩
          have g_23 := gX_12 hB 0
          refine ok_ite (fun c_21 => ?_) (fun c_21 => ?_)
          · rw [fa_lt, ht_22] at c_21
            refine ok_calv (s_X3_arrive_draft (x1 := (x1 + 1)) (x2 := v_5) (σ := σ) hB (by rw [ht_22]; omega) (by omega)) (fun v_26 s_26 h_24 => ?_)
            obtain ⟨b_v_26, hB_s_26, hG_s_26⟩ := h_24
            (try dsimp only at b_v_26 hB_s_26 hG_s_26)
            have hF_s_26 : FR [16] [] σ s_26 := FR.cal hF hG_s_26 rfl rfl
            refine ok_ite (fun c_25 => ?_) (fun c_25 => ?_)
            · rw [fa_eq] at c_25
              exact ok_ret ⟨(by (try dsimp only); omega), hB_s_26, hF_s_26⟩
            · rw [fa_eq] at c_25
              exact hk_k_71 s_26 ⟨trivial, hB_s_26, hF_s_26⟩
          · rw [fa_lt, ht_22] at c_21
            exact ok_ret ⟨(by (try dsimp only); omega), hB, hF⟩
    · rw [fa_le] at c_6
      exact ok_ret ⟨(by (try dsimp only); omega), hB, hF⟩
  · rw [fa_le] at c_4
    exact ok_ret ⟨(by (try dsimp only); omega), hB, hF⟩

set_option maxHeartbeats 4000000 in
theorem s_X3_judge_draft {σ : Sto} (hB : BX σ) : OK (f_X3_judge_draft σ) (fun r => ((-6) ≤ r.1.toInt ∧ r.1.toInt ≤ 0) ∧ BX r.2 ∧ FR [16] [] σ r.2) := by
  unfold f_X3_judge_draft
  have hF : FR [16] [] σ σ := FR.rf
  have k_m2 : ((-2) : Int32).toInt = -2 := by decide +kernel
  have k_m1 : ((-1) : Int32).toInt = -1 := by decide +kernel
  have k_0 : (0 : Int32).toInt = 0 := by decide +kernel
  have k_1 : (1 : Int32).toInt = 1 := by decide +kernel
  refine ok_calp (s_X3_leadsInside_draft  (σ := σ) hB) (fun v_1 h_1 => ?_)
  obtain ⟨b_v_1, x_v_1⟩ := h_1
  (try dsimp only at b_v_1 x_v_1)
  refine ok_ite (fun c_2 => ?_) (fun c_2 => ?_)
  · rw [fa_eq] at c_2
    exact ok_ret ⟨(by (try dsimp only); omega), hB, hF⟩
  · rw [fa_eq] at c_2
    refine ok_itr2 (fun (n : Nat) (x1_3 : Int32) (s_3 : Sto) => n = (41 - x1_3.toInt).toNat ∧ (0 ≤ x1_3.toInt ∧ x1_3.toInt ≤ 40) ∧ (BX s_3) ∧ (FR [16] [] σ s_3)) ?_ (n := _) ⟨rfl, (by omega), hB, hF⟩ (show _ < 10000000 by omega)
    intro a_12 n x1_3 s_3 hI ih_a_12
    obtain ⟨hn_a_12, b_x1_3, hB_s_3, hF_s_3⟩ := hI
    have g_4 := gX_12 hB_s_3 0
    have g_5 : (s_3.1 12 0).toInt = (σ.1 12 0).toInt := by rw [hF_s_3.1 12 (by decide)]
    have g_6 := gX_12 hB 0
    refine ok_ite (fun c_3 => ?_) (fun c_3 => ?_)
    · rw [fa_le] at c_3
      refine ok_ix ⟨by omega, by omega⟩ ?_
      refine ok_lt fun s_5 e_s_5 => ?_
      have hB_s_5 : BX s_5 := by rw [e_s_5]; exact pX_16 hB_s_3 (by omega)
      have hF_s_5 : FR [16] [] σ s_5 := by rw [e_s_5]; exact FR.st hF_s_3 (by decide)
      refine ok_itr3 (fun (n : Nat) (x1_6 : Int64) (x3_6 : Int32) (s_6 : Sto) => n = (41 - x3_6.toInt).toNat ∧ (0 ≤ x3_6.toInt ∧ x3_6.toInt ≤ 40) ∧ (BX s_6) ∧ (FR [16] [] σ s_6)) ?_ (n := _) ⟨rfl, (by omega), hB_s_5, hF_s_5⟩ (show _ < 10000000 by omega)
      intro a_44 n x1_6 x3_6 s_6 hI ih_a_44
      obtain ⟨hn_a_44, b_x3_6, hB_s_6, hF_s_6⟩ := hI
      have g_8 := gX_12 hB_s_6 0
      have g_9 : (s_6.1 12 0).toInt = (σ.1 12 0).toInt := by rw [hF_s_6.1 12 (by decide)]
      refine ok_ite (fun c_7 => ?_) (fun c_7 => ?_)
      · rw [fa_le] at c_7
        exact ok_ret ⟨(by (try dsimp only); omega), hB_s_6, hF_s_6⟩
      · rw [fa_le] at c_7
        refine ok_calp (s_X3_lowestOpen_draft (x1 := x1_6) (σ := s_6) hB_s_6) (fun v_8 h_10 => ?_)
        obtain ⟨b_v_8, x_v_8⟩ := h_10
        (try dsimp only at b_v_8 x_v_8)
        refine ok_ite (fun c_11 => ?_) (fun c_11 => ?_)
        · rw [fa_eq] at c_11
          exact ok_ret ⟨(by (try dsimp only); omega), hB_s_6, hF_s_6⟩
        · rw [fa_eq] at c_11
          refine ok_lt fun x1_10 e_x1_10 => ?_
          refine ok_calv (s_X3_goOver_draft (x1 := v_8) (σ := s_6) hB_s_6 (by omega) (by rw [hF_s_6.1 12 (by decide)]; rw [hF_s_6.1 12 (by decide)] at x_v_8; exact x_v_8 (by omega)) (by rw [hF_s_6.1 12 (by decide), hF_s_6.1 14 (by decide), hF_s_6.1 15 (by decide)]; exact (x_v_1 (by omega)).1) (by rw [hF_s_6.1 12 (by decide), hF_s_6.1 13 (by decide), hF_s_6.1 17 (by decide), hF_s_6.1 18 (by decide), hF_s_6.1 19 (by decide)]; exact (x_v_1 (by omega)).2)) (fun v_11 s_11 h_12 => ?_)
          obtain ⟨b_v_11, hB_s_11, hG_s_11⟩ := h_12
          (try dsimp only at b_v_11 hB_s_11 hG_s_11)
          have hF_s_11 : FR [16] [] σ s_11 := FR.cal hF_s_6 hG_s_11 rfl rfl
          refine ok_ite (fun c_13 => ?_) (fun c_13 => ?_)
          · rw [fa_eq] at c_13
            obtain ⟨t_14, ht_14, g_14⟩ : ∃ t : Int, (x3_6 + 1).toInt = t ∧ t = x3_6.toInt + (1 : Int32).toInt := ⟨_, rfl, by have h9 := fb_addI (x := x3_6) (y := (1 : Int32)) (by omega) (by omega); exact h9⟩
            refine ok_lt fun x3_13 e_x3_13 => ?_
            have q_x3_13 : x3_13.toInt = t_14 := by rw [e_x3_13]; exact ht_14
            exact ih_a_44 _ x1_10 x3_13 s_11 (by rw [hn_a_44]; omega) ⟨rfl, (by omega), hB_s_11, hF_s_11⟩
          · rw [fa_eq] at c_13
            exact ok_ret ⟨(by (try dsimp only); omega), hB_s_11, hF_s_11⟩
    · rw [fa_le] at c_3
      refine ok_ix ⟨by omega, by omega⟩ ?_
      refine ok_lt fun s_14 e_s_14 => ?_
      have hB_s_14 : BX s_14 := by rw [e_s_14]; exact pX_16 hB_s_3 (by omega)
      have hF_s_14 : FR [16] [] σ s_14 := by rw [e_s_14]; exact FR.st hF_s_3 (by decide)
      obtain ⟨t_15, ht_15, g_15⟩ : ∃ t : Int, (x1_3 + 1).toInt = t ∧ t = x1_3.toInt + (1 : Int32).toInt := ⟨_, rfl, by have h9 := fb_addI (x := x1_3) (y := (1 : Int32)) (by omega) (by omega); exact h9⟩
      refine ok_lt fun x1_15 e_x1_15 => ?_
      have q_x1_15 : x1_15.toInt = t_15 := by rw [e_x1_15]; exact ht_15
      exact ih_a_12 _ x1_15 s_14 (by rw [hn_a_12]; omega) ⟨rfl, (by omega), hB_s_14, hF_s_14⟩

set_option maxHeartbeats 4000000 in
theorem s_X3_copy_draft {σ : Sto} (hB : BX σ) : OK (f_X3_copy_draft σ) (fun s => BX s ∧ FR [4, 5, 6, 7, 8, 9, 10, 11] [] σ s) := by
  unfold f_X3_copy_draft
  have hF : FR [4, 5, 6, 7, 8, 9, 10, 11] [] σ σ := FR.rf
  have g_1 := gX_12 hB 0
  refine ok_lt fun s_1 e_s_1 => ?_
  have hB_s_1 : BX s_1 := by rw [e_s_1]; exact pX_4 hB (by omega)
  have hF_s_1 : FR [4, 5, 6, 7, 8, 9, 10, 11] [] σ s_1 := by rw [e_s_1]; exact FR.st hF (by decide)
  have g_2 := gX_13 hB_s_1 0
  have g_3 : (s_1.1 13 0).toInt = (σ.1 13 0).toInt := by rw [hF_s_1.1 13 (by decide)]
  have g_4 := gX_13 hB 0
  refine ok_lt fun s_2 e_s_2 => ?_
  have hB_s_2 : BX s_2 := by rw [e_s_2]; exact pX_5 hB_s_1 (by omega)
  have hF_s_2 : FR [4, 5, 6, 7, 8, 9, 10, 11] [] σ s_2 := by rw [e_s_2]; exact FR.st hF_s_1 (by decide)
  refine ok_lt fun s_3 e_s_3 => ?_
  have hB_s_3 : BX s_3 := by rw [e_s_3]; exact BD.stc hB_s_2 (fun j => by unfold va_cpy; split; exact hB_s_2 14 _; exact hB_s_2 6 j)
  have hF_s_3 : FR [4, 5, 6, 7, 8, 9, 10, 11] [] σ s_3 := by rw [e_s_3]; exact FR.stc hF_s_2 (by decide)
  refine ok_lt fun s_4 e_s_4 => ?_
  have hB_s_4 : BX s_4 := by rw [e_s_4]; exact BD.stc hB_s_3 (fun j => by unfold va_cpy; split; exact hB_s_3 15 _; exact hB_s_3 7 j)
  have hF_s_4 : FR [4, 5, 6, 7, 8, 9, 10, 11] [] σ s_4 := by rw [e_s_4]; exact FR.stc hF_s_3 (by decide)
  refine ok_lt fun s_5 e_s_5 => ?_
  have hB_s_5 : BX s_5 := by rw [e_s_5]; exact BD.stc hB_s_4 (fun j => by unfold va_cpy; split; exact hB_s_4 16 _; exact hB_s_4 8 j)
  have hF_s_5 : FR [4, 5, 6, 7, 8, 9, 10, 11] [] σ s_5 := by rw [e_s_5]; exact FR.stc hF_s_4 (by decide)
  refine ok_lt fun s_6 e_s_6 => ?_
  have hB_s_6 : BX s_6 := by rw [e_s_6]; exact BD.stc hB_s_5 (fun j => by unfold va_cpy; split; exact hB_s_5 17 _; exact hB_s_5 9 j)
  have hF_s_6 : FR [4, 5, 6, 7, 8, 9, 10, 11] [] σ s_6 := by rw [e_s_6]; exact FR.stc hF_s_5 (by decide)
  refine ok_lt fun s_7 e_s_7 => ?_
  have hB_s_7 : BX s_7 := by rw [e_s_7]; exact BD.stc hB_s_6 (fun j => by unfold va_cpy; split; exact hB_s_6 18 _; exact hB_s_6 10 j)
  have hF_s_7 : FR [4, 5, 6, 7, 8, 9, 10, 11] [] σ s_7 := by rw [e_s_7]; exact FR.stc hF_s_6 (by decide)
  refine ok_lt fun s_8 e_s_8 => ?_
  have hB_s_8 : BX s_8 := by rw [e_s_8]; exact BD.stc hB_s_7 (fun j => by unfold va_cpy; split; exact hB_s_7 19 _; exact hB_s_7 11 j)
  have hF_s_8 : FR [4, 5, 6, 7, 8, 9, 10, 11] [] σ s_8 := by rw [e_s_8]; exact FR.stc hF_s_7 (by decide)
  exact ok_ret ⟨hB_s_8, hF_s_8⟩

set_option maxHeartbeats 4000000 in
theorem s_X3_goesElsewhere {x1 : Int32} {σ : Sto} (hB : BX σ) (p_x1 : 0 ≤ x1.toInt ∧ x1.toInt ≤ 39) : OK (f_X3_goesElsewhere x1 σ) (fun v => (0 ≤ v.toInt ∧ v.toInt ≤ 1) ∧ ((v.toInt = 1 → gEl (σ.1 6 x1.toNatClampNeg)))) := by
  unfold f_X3_goesElsewhere
  have hF : FR [] [] σ σ := FR.rf
  have k_0 : (0 : Int32).toInt = 0 := by decide +kernel
  have k_1 : (1 : Int32).toInt = 1 := by decide +kernel
  have k_103 : (103 : Int32).toInt = 103 := by decide +kernel
  have k_122 : (122 : Int32).toInt = 122 := by decide +kernel
  refine ok_ix ⟨by omega, by omega⟩ ?_
  have g_1 := gX_6 hB (x1.toNatClampNeg)
  refine ok_lt fun v_1 e_v_1 => ?_
  have b_v_1 : 0 ≤ v_1.toInt ∧ v_1.toInt ≤ 255 := by rw [e_v_1]; exact gX_6 hB _
  have q_v_1 : v_1.toInt = (σ.1 6 x1.toNatClampNeg).toInt := by rw [e_v_1]
  have z1 : v_1.toInt = (σ.1 6 x1.toNatClampNeg).toInt := by rw [e_v_1]
  refine ok_jn ?_
  refine ok_ite (fun c_2 => ?_) (fun c_2 => ?_)
  · rw [fa_eq] at c_2
    exact ok_ret ⟨(by (try dsimp only); omega), (fun h => by (try dsimp only at h); unfold gEl; omega)⟩
  · rw [fa_eq] at c_2
    refine ok_ix ⟨by omega, by omega⟩ ?_
    refine ok_lt fun v_4 e_v_4 => ?_
    have b_v_4 : 0 ≤ v_4.toInt ∧ v_4.toInt ≤ 255 := by rw [e_v_4]; exact gX_6 hB _
    have q_v_4 : v_4.toInt = (σ.1 6 x1.toNatClampNeg).toInt := by rw [e_v_4]
    refine ok_ite (fun c_3 => ?_) (fun c_3 => ?_)
    · rw [fa_eq] at c_3
      exact ok_ret ⟨(by (try dsimp only); omega), (fun h => by (try dsimp only at h); unfold gEl; omega)⟩
    · rw [fa_eq] at c_3
      exact ok_ret ⟨(by (try dsimp only); omega), (fun h => by (try dsimp only at h); unfold gEl; omega)⟩

set_option maxHeartbeats 4000000 in
theorem s_X3_ends {x1 : Int32} {σ : Sto} (hB : BX σ) (p_x1 : 0 ≤ x1.toInt ∧ x1.toInt ≤ 39) : OK (f_X3_ends x1 σ) (fun v => (0 ≤ v.toInt ∧ v.toInt ≤ 1) ∧ ((v.toInt = 0 → (σ.1 6 x1.toNatClampNeg).toInt ≠ 116 ∧ (σ.1 6 x1.toNatClampNeg).toInt ≠ 114))) := by
  unfold f_X3_ends
  have hF : FR [] [] σ σ := FR.rf
  have k_0 : (0 : Int32).toInt = 0 := by decide +kernel
  have k_1 : (1 : Int32).toInt = 1 := by decide +kernel
  have k_114 : (114 : Int32).toInt = 114 := by decide +kernel
  have k_116 : (116 : Int32).toInt = 116 := by decide +kernel
  refine ok_ix ⟨by omega, by omega⟩ ?_
  have g_1 := gX_6 hB (x1.toNatClampNeg)
  refine ok_lt fun v_1 e_v_1 => ?_
  have b_v_1 : 0 ≤ v_1.toInt ∧ v_1.toInt ≤ 255 := by rw [e_v_1]; exact gX_6 hB _
  have q_v_1 : v_1.toInt = (σ.1 6 x1.toNatClampNeg).toInt := by rw [e_v_1]
  refine ok_jn ?_
  refine ok_ite (fun c_2 => ?_) (fun c_2 => ?_)
  · rw [fa_eq] at c_2
    exact ok_ret ⟨(by (try dsimp only); omega), (fun h => by (try dsimp only at h); omega)⟩
  · rw [fa_eq] at c_2
    refine ok_ix ⟨by omega, by omega⟩ ?_
    refine ok_lt fun v_4 e_v_4 => ?_
    have b_v_4 : 0 ≤ v_4.toInt ∧ v_4.toInt ≤ 255 := by rw [e_v_4]; exact gX_6 hB _
    have q_v_4 : v_4.toInt = (σ.1 6 x1.toNatClampNeg).toInt := by rw [e_v_4]
    refine ok_ite (fun c_3 => ?_) (fun c_3 => ?_)
    · rw [fa_eq] at c_3
      exact ok_ret ⟨(by (try dsimp only); omega), (fun h => by (try dsimp only at h); omega)⟩
    · rw [fa_eq] at c_3
      exact ok_ret ⟨(by (try dsimp only); omega), (fun h => by (try dsimp only at h); omega)⟩

set_option maxHeartbeats 4000000 in
theorem s_X0_markCuts {σ : Sto} (hB : BX σ) (hLV : LV σ) : OK (f_X0_markCuts σ) (fun s => BX s ∧ FR [33] [] σ s) := by
  unfold f_X0_markCuts
  have hF : FR [33] [] σ σ := FR.rf
  have k_m1 : ((-1) : Int32).toInt = -1 := by decide +kernel
  have k_0 : (0 : Int32).toInt = 0 := by decide +kernel
  have k_1 : (1 : Int32).toInt = 1 := by decide +kernel
  have k_40 : (40 : Int32).toInt = 40 := by decide +kernel
  refine ok_itr2 (fun (n : Nat) (x1_1 : Int32) (s_1 : Sto) => n = (42 - x1_1.toInt).toNat ∧ (0 ≤ x1_1.toInt ∧ x1_1.toInt ≤ 41) ∧ (BX s_1) ∧ (FR [33] [] σ s_1)) ?_ (n := _) ⟨rfl, (by omega), hB, hF⟩ (show _ < 10000000 by omega)
  intro a_2 n x1_1 s_1 hI ih_a_2
  obtain ⟨hn_a_2, b_x1_1, hB_s_1, hF_s_1⟩ := hI
  have f_s_1_4 : (s_1.1 4 0).toInt = (σ.1 4 0).toInt := by rw [hF_s_1.1 4 (by decide)]
  have f_s_1_5 : (s_1.1 5 0).toInt = (σ.1 5 0).toInt := by rw [hF_s_1.1 5 (by decide)]
  refine ok_ite (fun c_1 => ?_) (fun c_1 => ?_)
  · rw [fa_lt] at c_1
    refine ok_itr2 (fun (n : Nat) (x1_3 : Int32) (s_3 : Sto) => n = (41 - x1_3.toInt).toNat ∧ (0 ≤ x1_3.toInt ∧ x1_3.toInt ≤ 40) ∧ (BX s_3) ∧ (FR [33] [] σ s_3)) ?_ (n := _) ⟨rfl, (by omega), hB_s_1, hF_s_1⟩ (show _ < 10000000 by omega)
    intro a_23 n x1_3 s_3 hI ih_a_23
    obtain ⟨hn_a_23, b_x1_3, hB_s_3, hF_s_3⟩ := hI
    have f_s_3_4 : (s_3.1 4 0).toInt = (σ.1 4 0).toInt := by rw [hF_s_3.1 4 (by decide)]
    have f_s_3_5 : (s_3.1 5 0).toInt = (σ.1 5 0).toInt := by rw [hF_s_3.1 5 (by decide)]
    have g_3 := gX_4 hB_s_3 0
    have g_4 : (s_3.1 4 0).toInt = (σ.1 4 0).toInt := by rw [hF_s_3.1 4 (by decide)]
    have g_5 := gX_4 hB 0
    refine ok_ite (fun c_2 => ?_) (fun c_2 => ?_)
    · rw [fa_le] at c_2
      refine ok_itr2 (fun (n : Nat) (x1_5 : Int32) (s_5 : Sto) => n = (4 - x1_5.toInt).toNat ∧ (0 ≤ x1_5.toInt ∧ x1_5.toInt ≤ 3) ∧ (BX s_5) ∧ (FR [33] [] σ s_5)) ?_ (n := _) ⟨rfl, (by omega), hB_s_3, hF_s_3⟩ (show _ < 10000000 by omega)
      intro a_113 n x1_5 s_5 hI ih_a_113
      obtain ⟨hn_a_113, b_x1_5, hB_s_5, hF_s_5⟩ := hI
      have f_s_5_4 : (s_5.1 4 0).toInt = (σ.1 4 0).toInt := by rw [hF_s_5.1 4 (by decide)]
      have f_s_5_5 : (s_5.1 5 0).toInt = (σ.1 5 0).toInt := by rw [hF_s_5.1 5 (by decide)]
      have g_7 := gX_5 hB_s_5 0
      have g_8 : (s_5.1 5 0).toInt = (σ.1 5 0).toInt := by rw [hF_s_5.1 5 (by decide)]
      have g_9 := gX_5 hB 0
      refine ok_ite (fun c_6 => ?_) (fun c_6 => ?_)
      · rw [fa_le] at c_6
        exact ok_ret ⟨hB_s_5, hF_s_5⟩
      · rw [fa_le] at c_6
        refine ok_ix ⟨by omega, by omega⟩ ?_
        have g_10 := gX_9 hB_s_5 (x1_5.toNatClampNeg)
        refine ok_lt fun v_7 e_v_7 => ?_
        have b_v_7 : 0 ≤ v_7.toInt ∧ v_7.toInt ≤ 40 := by rw [e_v_7]; exact gX_9 hB_s_5 _
        refine ok_ix ⟨by omega, by omega⟩ ?_
        refine ok_lt fun s_8 e_s_8 => ?_
        have hB_s_8 : BX s_8 := by rw [e_s_8]; exact pX_33 hB_s_5 (by omega)
        have hF_s_8 : FR [33] [] σ s_8 := by rw [e_s_8]; exact FR.st hF_s_5 (by decide)
        have f_s_8_4 : (s_8.1 4 0).toInt = (σ.1 4 0).toInt := by rw [hF_s_8.1 4 (by decide)]
        have f_s_8_5 : (s_8.1 5 0).toInt = (σ.1 5 0).toInt := by rw [hF_s_8.1 5 (by decide)]
        refine ok_ix ⟨by omega, by omega⟩ ?_
        have g_11 := gX_10 hB_s_8 (x1_5.toNatClampNeg)
        refine ok_lt fun v_9 e_v_9 => ?_
        have b_v_9 : 0 ≤ v_9.toInt ∧ v_9.toInt ≤ 40 := by rw [e_v_9]; exact gX_10 hB_s_8 _
        refine ok_ix ⟨by omega, by omega⟩ ?_
        refine ok_lt fun s_10 e_s_10 => ?_
        have hB_s_10 : BX s_10 := by rw [e_s_10]; exact pX_33 hB_s_8 (by omega)
        have hF_s_10 : FR [33] [] σ s_10 := by rw [e_s_10]; exact FR.st hF_s_8 (by decide)
        have f_s_10_4 : (s_10.1 4 0).toInt = (σ.1 4 0).toInt := by rw [hF_s_10.1 4 (by decide)]
        have f_s_10_5 : (s_10.1 5 0).toInt = (σ.1 5 0).toInt := by rw [hF_s_10.1 5 (by decide)]
        refine ok_ix ⟨by omega, by omega⟩ ?_
        have g_12 := gX_11 hB_s_10 (x1_5.toNatClampNeg)
        refine ok_lt fun v_11 e_v_11 => ?_
        have b_v_11 : 0 ≤ v_11.toInt ∧ v_11.toInt ≤ 40 := by rw [e_v_11]; exact gX_11 hB_s_10 _
        refine ok_ix ⟨by omega, by omega⟩ ?_
        refine ok_lt fun s_12 e_s_12 => ?_
        have hB_s_12 : BX s_12 := by rw [e_s_12]; exact pX_33 hB_s_10 (by omega)
        have hF_s_12 : FR [33] [] σ s_12 := by rw [e_s_12]; exact FR.st hF_s_10 (by decide)
        have f_s_12_4 : (s_12.1 4 0).toInt = (σ.1 4 0).toInt := by rw [hF_s_12.1 4 (by decide)]
        have f_s_12_5 : (s_12.1 5 0).toInt = (σ.1 5 0).toInt := by rw [hF_s_12.1 5 (by decide)]
        obtain ⟨t_13, ht_13, g_13⟩ : ∃ t : Int, (x1_5 + 1).toInt = t ∧ t = x1_5.toInt + (1 : Int32).toInt := ⟨_, rfl, by have h9 := fb_addI (x := x1_5) (y := (1 : Int32)) (by omega) (by omega); exact h9⟩
        refine ok_lt fun x1_13 e_x1_13 => ?_
        have q_x1_13 : x1_13.toInt = t_13 := by rw [e_x1_13]; exact ht_13
        exact ih_a_113 _ x1_13 s_12 (by rw [hn_a_113]; omega) ⟨rfl, (by omega), hB_s_12, hF_s_12⟩
    · rw [fa_le] at c_2
      refine ok_ix ⟨by omega, by omega⟩ ?_
      have g_14 := gX_8 hB_s_3 (x1_3.toNatClampNeg)
      refine ok_lt fun v_14 e_v_14 => ?_
      have b_v_14 : (-1) ≤ v_14.toInt ∧ v_14.toInt ≤ 6 := by rw [e_v_14]; exact gX_8 hB_s_3 _
      refine ok_jn ?_
      refine ok_ite (fun c_15 => ?_) (fun c_15 => ?_)
      · rw [fa_eq] at c_15
        obtain ⟨t_16, ht_16, g_16⟩ : ∃ t : Int, (x1_3 + 1).toInt = t ∧ t = x1_3.toInt + (1 : Int32).toInt := ⟨_, rfl, by have h9 := fb_addI (x := x1_3) (y := (1 : Int32)) (by omega) (by omega); exact h9⟩
        refine ok_lt fun x1_16 e_x1_16 => ?_
        have q_x1_16 : x1_16.toInt = t_16 := by rw [e_x1_16]; exact ht_16
        exact ih_a_23 _ x1_16 s_3 (by rw [hn_a_23]; omega) ⟨rfl, (by omega), hB_s_3, hF_s_3⟩
      · rw [fa_eq] at c_15
        refine ok_calp (s_X3_goesElsewhere (x1 := x1_3) (σ := s_3) hB_s_3 (by omega)) (fun v_18 h_17 => ?_)
        obtain ⟨b_v_18, x_v_18⟩ := h_17
        (try dsimp only at b_v_18 x_v_18)
        refine ok_jn ?_
        refine ok_ite (fun c_18 => ?_) (fun c_18 => ?_)
        · rw [fa_eq] at c_18
          refine ok_calp (s_X3_ends (x1 := x1_3) (σ := s_3) hB_s_3 (by omega)) (fun v_20 h_19 => ?_)
          obtain ⟨b_v_20, x_v_20⟩ := h_19
          (try dsimp only at b_v_20 x_v_20)
          refine ok_ite (fun c_20 => ?_) (fun c_20 => ?_)
          · rw [fa_eq] at c_20
            obtain ⟨t_21, ht_21, g_21⟩ : ∃ t : Int, (x1_3 + 1).toInt = t ∧ t = x1_3.toInt + (1 : Int32).toInt := ⟨_, rfl, by have h9 := fb_addI (x := x1_3) (y := (1 : Int32)) (by omega) (by omega); exact h9⟩
            refine ok_lt fun x1_16 e_x1_16 => ?_
            have q_x1_16 : x1_16.toInt = t_21 := by rw [e_x1_16]; exact ht_21
            exact ih_a_23 _ x1_16 s_3 (by rw [hn_a_23]; omega) ⟨rfl, (by omega), hB_s_3, hF_s_3⟩
          · rw [fa_eq] at c_20
            obtain ⟨t_22, ht_22, g_22⟩ : ∃ t : Int, (x1_3 + 1).toInt = t ∧ t = x1_3.toInt + (1 : Int32).toInt := ⟨_, rfl, by have h9 := fb_addI (x := x1_3) (y := (1 : Int32)) (by omega) (by omega); exact h9⟩
            refine ok_ix ⟨by rw [ht_22]; omega, by rw [ht_22]; omega⟩ ?_
            refine ok_lt fun s_22 e_s_22 => ?_
            have hB_s_22 : BX s_22 := by rw [e_s_22]; exact pX_33 hB_s_3 (by omega)
            have hF_s_22 : FR [33] [] σ s_22 := by rw [e_s_22]; exact FR.st hF_s_3 (by decide)
            have f_s_22_4 : (s_22.1 4 0).toInt = (σ.1 4 0).toInt := by rw [hF_s_22.1 4 (by decide)]
            have f_s_22_5 : (s_22.1 5 0).toInt = (σ.1 5 0).toInt := by rw [hF_s_22.1 5 (by decide)]
            refine ok_lt fun x1_16 e_x1_16 => ?_
            have q_x1_16 : x1_16.toInt = t_22 := by rw [e_x1_16]; exact ht_22
            exact ih_a_23 _ x1_16 s_22 (by rw [hn_a_23]; omega) ⟨rfl, (by omega), hB_s_22, hF_s_22⟩
        · rw [fa_eq] at c_18
          refine ok_ix ⟨by omega, by omega⟩ ?_
          have g_23 := gX_7 hB_s_3 (x1_3.toNatClampNeg)
          refine ok_lt fun v_24 e_v_24 => ?_
          have b_v_24 : 0 ≤ v_24.toInt ∧ v_24.toInt ≤ 999 := by rw [e_v_24]; exact gX_7 hB_s_3 _
          have y24 : v_24.toInt ≤ 39 := by rw [e_v_24, hF_s_3.1 7 (by decide)]; exact (hLV.1 x1_3.toNatClampNeg (by have := clamp_I (x := x1_3) (by omega); omega)).1.2.2.1 (by have h9 := x_v_18 (by omega); rw [hF_s_3.1 6 (by decide)] at h9; exact h9)
          refine ok_ix ⟨by omega, by omega⟩ ?_
          refine ok_lt fun s_25 e_s_25 => ?_
          have hB_s_25 : BX s_25 := by rw [e_s_25]; exact pX_33 hB_s_3 (by omega)
          have hF_s_25 : FR [33] [] σ s_25 := by rw [e_s_25]; exact FR.st hF_s_3 (by decide)
          have f_s_25_4 : (s_25.1 4 0).toInt = (σ.1 4 0).toInt := by rw [hF_s_25.1 4 (by decide)]
          have f_s_25_5 : (s_25.1 5 0).toInt = (σ.1 5 0).toInt := by rw [hF_s_25.1 5 (by decide)]
          obtain ⟨t_24, ht_24, g_24⟩ : ∃ t : Int, (x1_3 + 1).toInt = t ∧ t = x1_3.toInt + (1 : Int32).toInt := ⟨_, rfl, by have h9 := fb_addI (x := x1_3) (y := (1 : Int32)) (by omega) (by omega); exact h9⟩
          refine ok_ix ⟨by rw [ht_24]; omega, by rw [ht_24]; omega⟩ ?_
          refine ok_lt fun s_26 e_s_26 => ?_
          have hB_s_26 : BX s_26 := by rw [e_s_26]; exact pX_33 hB_s_25 (by omega)
          have hF_s_26 : FR [33] [] σ s_26 := by rw [e_s_26]; exact FR.st hF_s_25 (by decide)
          have f_s_26_4 : (s_26.1 4 0).toInt = (σ.1 4 0).toInt := by rw [hF_s_26.1 4 (by decide)]
          have f_s_26_5 : (s_26.1 5 0).toInt = (σ.1 5 0).toInt := by rw [hF_s_26.1 5 (by decide)]
          refine ok_calp (s_X3_ends (x1 := x1_3) (σ := s_26) hB_s_26 (by omega)) (fun v_20 h_25 => ?_)
          obtain ⟨b_v_20, x_v_20⟩ := h_25
          (try dsimp only at b_v_20 x_v_20)
          refine ok_ite (fun c_26 => ?_) (fun c_26 => ?_)
          · rw [fa_eq] at c_26
            refine ok_lt fun x1_16 e_x1_16 => ?_
            have q_x1_16 : x1_16.toInt = t_24 := by rw [e_x1_16]; exact ht_24
            exact ih_a_23 _ x1_16 s_26 (by rw [hn_a_23]; omega) ⟨rfl, (by omega), hB_s_26, hF_s_26⟩
          · rw [fa_eq] at c_26
            refine ok_ix ⟨by rw [ht_24]; omega, by rw [ht_24]; omega⟩ ?_
            refine ok_lt fun s_22 e_s_22 => ?_
            have hB_s_22 : BX s_22 := by rw [e_s_22]; exact pX_33 hB_s_26 (by omega)
            have hF_s_22 : FR [33] [] σ s_22 := by rw [e_s_22]; exact FR.st hF_s_26 (by decide)
            have f_s_22_4 : (s_22.1 4 0).toInt = (σ.1 4 0).toInt := by rw [hF_s_22.1 4 (by decide)]
            have f_s_22_5 : (s_22.1 5 0).toInt = (σ.1 5 0).toInt := by rw [hF_s_22.1 5 (by decide)]
            refine ok_lt fun x1_16 e_x1_16 => ?_
            have q_x1_16 : x1_16.toInt = t_24 := by rw [e_x1_16]; exact ht_24
            exact ih_a_23 _ x1_16 s_22 (by rw [hn_a_23]; omega) ⟨rfl, (by omega), hB_s_22, hF_s_22⟩
  · rw [fa_lt] at c_1
    refine ok_ix ⟨by omega, by omega⟩ ?_
    refine ok_lt fun s_27 e_s_27 => ?_
    have hB_s_27 : BX s_27 := by rw [e_s_27]; exact pX_33 hB_s_1 (by omega)
    have hF_s_27 : FR [33] [] σ s_27 := by rw [e_s_27]; exact FR.st hF_s_1 (by decide)
    have f_s_27_4 : (s_27.1 4 0).toInt = (σ.1 4 0).toInt := by rw [hF_s_27.1 4 (by decide)]
    have f_s_27_5 : (s_27.1 5 0).toInt = (σ.1 5 0).toInt := by rw [hF_s_27.1 5 (by decide)]
    obtain ⟨t_27, ht_27, g_27⟩ : ∃ t : Int, (x1_1 + 1).toInt = t ∧ t = x1_1.toInt + (1 : Int32).toInt := ⟨_, rfl, by have h9 := fb_addI (x := x1_1) (y := (1 : Int32)) (by omega) (by omega); exact h9⟩
    refine ok_lt fun x1_28 e_x1_28 => ?_
    have q_x1_28 : x1_28.toInt = t_27 := by rw [e_x1_28]; exact ht_27
    exact ih_a_2 _ x1_28 s_27 (by rw [hn_a_2]; omega) ⟨rfl, (by omega), hB_s_27, hF_s_27⟩

set_option maxHeartbeats 4000000 in
theorem s_X3_goesOn {x1 : Int32} {σ : Sto} (hB : BX σ) (p_x1 : 0 ≤ x1.toInt ∧ x1.toInt ≤ 39) : OK (f_X3_goesOn x1 σ) (fun v => (0 ≤ v.toInt ∧ v.toInt ≤ 1) ∧ ((v.toInt = 1 → gOn (σ.1 6 x1.toNatClampNeg)))) := by
  unfold f_X3_goesOn
  have hF : FR [] [] σ σ := FR.rf
  have k_0 : (0 : Int32).toInt = 0 := by decide +kernel
  have k_1 : (1 : Int32).toInt = 1 := by decide +kernel
  have k_103 : (103 : Int32).toInt = 103 := by decide +kernel
  refine ok_ix ⟨by omega, by omega⟩ ?_
  have g_1 := gX_6 hB (x1.toNatClampNeg)
  refine ok_lt fun v_1 e_v_1 => ?_
  have b_v_1 : 0 ≤ v_1.toInt ∧ v_1.toInt ≤ 255 := by rw [e_v_1]; exact gX_6 hB _
  have z1 : v_1.toInt = (σ.1 6 x1.toNatClampNeg).toInt := by rw [e_v_1]
  refine ok_jn ?_
  refine ok_ite (fun c_2 => ?_) (fun c_2 => ?_)
  · rw [fa_eq] at c_2
    exact ok_ret ⟨(by (try dsimp only); omega), (fun h => by (try dsimp only at h); first | (exfalso; omega) | (have h9 := x_v_4 (by omega); unfold gOn; omega))⟩
  · rw [fa_eq] at c_2
    refine ok_calp (s_X3_ends (x1 := x1) (σ := σ) hB (by omega)) (fun v_4 h_3 => ?_)
    obtain ⟨b_v_4, x_v_4⟩ := h_3
    (try dsimp only at b_v_4 x_v_4)
    refine ok_ite (fun c_4 => ?_) (fun c_4 => ?_)
    · rw [fa_eq] at c_4
      exact ok_ret ⟨(by (try dsimp only); omega), (fun h => by (try dsimp only at h); first | (exfalso; omega) | (have h9 := x_v_4 (by omega); unfold gOn; omega))⟩
    · rw [fa_eq] at c_4
      exact ok_ret ⟨(by (try dsimp only); omega), (fun h => by (try dsimp only at h); first | (exfalso; omega) | (have h9 := x_v_4 (by omega); unfold gOn; omega))⟩

set_option maxHeartbeats 4000000 in
theorem s_X3_canThrow {x1 : Int32} {σ : Sto} (hB : BX σ) (p_x1 : 0 ≤ x1.toInt ∧ x1.toInt ≤ 39) : OK (f_X3_canThrow x1 σ) (fun v => (0 ≤ v.toInt ∧ v.toInt ≤ 1)) := by
  unfold f_X3_canThrow
  have hF : FR [] [] σ σ := FR.rf
  have k_0 : (0 : Int32).toInt = 0 := by decide +kernel
  have k_1 : (1 : Int32).toInt = 1 := by decide +kernel
  have k_37 : (37 : Int32).toInt = 37 := by decide +kernel
  have k_47 : (47 : Int32).toInt = 47 := by decide +kernel
  have k_116 : (116 : Int32).toInt = 116 := by decide +kernel
  refine ok_ix ⟨by omega, by omega⟩ ?_
  have g_1 := gX_6 hB (x1.toNatClampNeg)
  refine ok_lt fun v_1 e_v_1 => ?_
  have b_v_1 : 0 ≤ v_1.toInt ∧ v_1.toInt ≤ 255 := by rw [e_v_1]; exact gX_6 hB _
  have q_v_1 : v_1.toInt = (σ.1 6 x1.toNatClampNeg).toInt := by rw [e_v_1]
  refine ok_jn ?_
  refine ok_ite (fun c_2 => ?_) (fun c_2 => ?_)
  · rw [fa_eq] at c_2
    exact ok_ret (by (try dsimp only); omega)
  · rw [fa_eq] at c_2
    refine ok_ix ⟨by omega, by omega⟩ ?_
    refine ok_lt fun v_4 e_v_4 => ?_
    have b_v_4 : 0 ≤ v_4.toInt ∧ v_4.toInt ≤ 255 := by rw [e_v_4]; exact gX_6 hB _
    have q_v_4 : v_4.toInt = (σ.1 6 x1.toNatClampNeg).toInt := by rw [e_v_4]
    refine ok_ite (fun c_3 => ?_) (fun c_3 => ?_)
    · rw [fa_eq] at c_3
      exact ok_ret (by (try dsimp only); omega)
    · rw [fa_eq] at c_3
      refine ok_ix ⟨by omega, by omega⟩ ?_
      refine ok_lt fun v_6 e_v_6 => ?_
      have b_v_6 : 0 ≤ v_6.toInt ∧ v_6.toInt ≤ 255 := by rw [e_v_6]; exact gX_6 hB _
      have q_v_6 : v_6.toInt = (σ.1 6 x1.toNatClampNeg).toInt := by rw [e_v_6]
      refine ok_ite (fun c_4 => ?_) (fun c_4 => ?_)
      · rw [fa_eq] at c_4
        exact ok_ret (by (try dsimp only); omega)
      · rw [fa_eq] at c_4
        exact ok_ret (by (try dsimp only); omega)

set_option maxHeartbeats 4000000 in
theorem s_X0_catcherOf {x1 : Int32} {σ : Sto} (hB : BX σ) (hLV : LV σ) (p_x1 : 0 ≤ x1.toInt ∧ x1.toInt ≤ 39) : OK (f_X0_catcherOf x1 σ) (fun v => ((-1) ≤ v.toInt ∧ v.toInt ≤ 39)) := by
  unfold f_X0_catcherOf
  have hF : FR [] [] σ σ := FR.rf
  have k_m1 : ((-1) : Int32).toInt = -1 := by decide +kernel
  have k_0 : (0 : Int32).toInt = 0 := by decide +kernel
  have k_1 : (1 : Int32).toInt = 1 := by decide +kernel
  have g9 := gX_5 hB 0
  refine ok_ix ⟨by omega, by omega⟩ ?_
  have g_1 := gX_21 hB (x1.toNatClampNeg)
  refine ok_lt fun v_1 e_v_1 => ?_
  have b_v_1 : 0 ≤ v_1.toInt ∧ v_1.toInt ≤ 39 := by rw [e_v_1]; exact gX_21 hB _
  refine ok_itr1 (fun (n : Nat) (x2_2 : Int32) => n = (41 - x2_2.toInt).toNat ∧ (0 ≤ x2_2.toInt ∧ x2_2.toInt ≤ 40)) ?_ (n := _) ⟨rfl, (by omega)⟩ (show _ < 10000000 by omega)
  intro a_7 n x2_2 hI ih_a_7
  obtain ⟨hn_a_7, b_x2_2⟩ := hI
  refine ok_ix ⟨by omega, by omega⟩ ?_
  have g_2 := gX_22 hB (x1.toNatClampNeg)
  refine ok_lt fun v_3 e_v_3 => ?_
  have b_v_3 : 0 ≤ v_3.toInt ∧ v_3.toInt ≤ 39 := by rw [e_v_3]; exact gX_22 hB _
  refine ok_ite (fun c_3 => ?_) (fun c_3 => ?_)
  · rw [fa_lt] at c_3
    exact ok_ret (by (try dsimp only); omega)
  · rw [fa_lt] at c_3
    refine ok_calp (s_X3_canThrow (x1 := x2_2) (σ := σ) hB (by omega)) (fun v_5 h_4 => ?_)
    have b_v_5 := h_4
    (try dsimp only at b_v_5)
    refine ok_jn ?_
    refine ok_ite (fun c_5 => ?_) (fun c_5 => ?_)
    · rw [fa_eq] at c_5
      refine ok_ite (fun c_6 => ?_) (fun c_6 => ?_)
      · rw [fa_eq] at c_6
        obtain ⟨t_7, ht_7, g_7⟩ : ∃ t : Int, (x2_2 + 1).toInt = t ∧ t = x2_2.toInt + (1 : Int32).toInt := ⟨_, rfl, by have h9 := fb_addI (x := x2_2) (y := (1 : Int32)) (by omega) (by omega); exact h9⟩
        refine ok_lt fun x2_8 e_x2_8 => ?_
        have q_x2_8 : x2_8.toInt = t_7 := by rw [e_x2_8]; exact ht_7
        exact ih_a_7 _ x2_8 (by rw [hn_a_7]; omega) ⟨rfl, (by omega)⟩
      · rw [fa_eq] at c_6
        exfalso; omega
    · rw [fa_eq] at c_5
      refine ok_calp (s_X3_handlerOf (x1 := x2_2) (σ := σ) hB (by omega)) (fun v_12 h_8 => ?_)
      obtain ⟨b_v_12, x_v_12⟩ := h_8
      (try dsimp only at b_v_12 x_v_12)
      refine ok_ite (fun c_9 => ?_) (fun c_9 => ?_)
      · rw [fa_eq] at c_9
        obtain ⟨t_10, ht_10, g_10⟩ : ∃ t : Int, (x2_2 + 1).toInt = t ∧ t = x2_2.toInt + (1 : Int32).toInt := ⟨_, rfl, by have h9 := fb_addI (x := x2_2) (y := (1 : Int32)) (by omega) (by omega); exact h9⟩
        refine ok_lt fun x2_8 e_x2_8 => ?_
        have q_x2_8 : x2_8.toInt = t_10 := by rw [e_x2_8]; exact ht_10
        exact ih_a_7 _ x2_8 (by rw [hn_a_7]; omega) ⟨rfl, (by omega)⟩
      · rw [fa_eq] at c_9
        refine ok_ix ⟨by omega, by omega⟩ ?_
        have g_11 := gX_11 hB (v_12.toNatClampNeg)
        refine ok_lt fun v_9 e_v_9 => ?_
        have b_v_9 : 0 ≤ v_9.toInt ∧ v_9.toInt ≤ 40 := by rw [e_v_9]; exact gX_11 hB _
        have y9 : v_9.toInt ≤ 39 := by have h9 := (hLV.2 v_12.toNatClampNeg (by have := clamp_I (x := v_12) (by omega); omega)).2.2; rw [← e_v_9] at h9; have := gX_4 hB 0; omega
        refine ok_ix ⟨by omega, by omega⟩ ?_
        have g_12 := gX_23 hB (v_9.toNatClampNeg)
        refine ok_lt fun v_10 e_v_10 => ?_
        have b_v_10 : (-1) ≤ v_10.toInt ∧ v_10.toInt ≤ 39 := by rw [e_v_10]; exact gX_23 hB _
        exact ok_ret (by (try dsimp only); omega)

set_option maxHeartbeats 4000000 in
theorem s_X0_edgeTo {x1 : Int32} {x2 : Int32} {σ : Sto} (hB : BX σ) (p_x1 : 0 ≤ x1.toInt ∧ x1.toInt ≤ 39) (p_x2 : 0 ≤ x2.toInt ∧ x2.toInt ≤ 39) (hfe : (σ.1 28 x1.toNatClampNeg).toInt ≤ 119) : OK (f_X0_edgeTo x1 x2 σ) (fun v => (0 ≤ v.toInt ∧ v.toInt ≤ 119)) := by
  unfold f_X0_edgeTo
  have hF : FR [] [] σ σ := FR.rf
  have k_1 : (1 : Int32).toInt = 1 := by decide +kernel
  refine ok_ix ⟨by omega, by omega⟩ ?_
  have g_1 := gX_28 hB (x1.toNatClampNeg)
  refine ok_lt fun v_1 e_v_1 => ?_
  have b_v_1 : 0 ≤ v_1.toInt ∧ v_1.toInt ≤ 120 := by rw [e_v_1]; exact gX_28 hB _
  have q_v_1 : v_1.toInt = (σ.1 28 x1.toNatClampNeg).toInt := by rw [e_v_1]
  refine ok_ix ⟨by omega, by omega⟩ ?_
  refine ok_lt fun v_2 e_v_2 => ?_
  have b_v_2 : 0 ≤ v_2.toInt ∧ v_2.toInt ≤ 120 := by rw [e_v_2]; exact gX_28 hB _
  have q_v_2 : v_2.toInt = (σ.1 28 x1.toNatClampNeg).toInt := by rw [e_v_2]
  refine ok_itr2 (fun (n : Nat) (x3_3 : Int32) (x4_3 : Int32) => n = (121 - x4_3.toInt).toNat ∧ (0 ≤ x3_3.toInt ∧ x3_3.toInt ≤ 120) ∧ (0 ≤ x4_3.toInt ∧ x4_3.toInt ≤ 120) ∧ (x3_3.toInt ≤ 119)) ?_ (n := _) ⟨rfl, (by omega), (by omega), (by omega)⟩ (show _ < 10000000 by omega)
  intro a_15 n x3_3 x4_3 hI ih_a_15
  obtain ⟨hn_a_15, b_x3_3, b_x4_3, hfd⟩ := hI
  have g_3 := gX_27 hB 0
  refine ok_ite (fun c_2 => ?_) (fun c_2 => ?_)
  · rw [fa_le] at c_2
    exact ok_ret (by (try dsimp only); omega)
  · rw [fa_le] at c_2
    refine ok_ix ⟨by omega, by omega⟩ ?_
    have g_4 := gX_29 hB (x4_3.toNatClampNeg)
    refine ok_lt fun v_5 e_v_5 => ?_
    have b_v_5 : 0 ≤ v_5.toInt ∧ v_5.toInt ≤ 39 := by rw [e_v_5]; exact gX_29 hB _
    refine ok_ite (fun c_5 => ?_) (fun c_5 => ?_)
    · rw [fa_eq] at c_5
      refine ok_ix ⟨by omega, by omega⟩ ?_
      have g_6 := gX_30 hB (x4_3.toNatClampNeg)
      refine ok_lt fun v_7 e_v_7 => ?_
      have b_v_7 : 0 ≤ v_7.toInt ∧ v_7.toInt ≤ 39 := by rw [e_v_7]; exact gX_30 hB _
      refine ok_jn ?_
      refine ok_ite (fun c_7 => ?_) (fun c_7 => ?_)
      · rw [fa_eq] at c_7
        obtain ⟨t_8, ht_8, g_8⟩ : ∃ t : Int, (x4_3 + 1).toInt = t ∧ t = x4_3.toInt + (1 : Int32).toInt := ⟨_, rfl, by have h9 := fb_addI (x := x4_3) (y := (1 : Int32)) (by omega) (by omega); exact h9⟩
        refine ok_lt fun x4_9 e_x4_9 => ?_
        have q_x4_9 : x4_9.toInt = t_8 := by rw [e_x4_9]; exact ht_8
        exact ih_a_15 _ x4_3 x4_9 (by rw [hn_a_15]; omega) ⟨rfl, (by omega), (by omega), (by omega)⟩
      · rw [fa_eq] at c_7
        obtain ⟨t_9, ht_9, g_9⟩ : ∃ t : Int, (x4_3 + 1).toInt = t ∧ t = x4_3.toInt + (1 : Int32).toInt := ⟨_, rfl, by have h9 := fb_addI (x := x4_3) (y := (1 : Int32)) (by omega) (by omega); exact h9⟩
        refine ok_lt fun x4_9 e_x4_9 => ?_
        have q_x4_9 : x4_9.toInt = t_9 := by rw [e_x4_9]; exact ht_9
        exact ih_a_15 _ x3_3 x4_9 (by rw [hn_a_15]; omega) ⟨rfl, (by omega), (by omega), (by omega)⟩
    · rw [fa_eq] at c_5
      exact ok_ret (by (try dsimp only); omega)

set_option maxHeartbeats 4000000 in
theorem s_X0_lead {x1 : Int32} {x2 : Int32} {x3 : Int32} {σ : Sto} (hB : BX σ) (p_x1 : 0 ≤ x1.toInt ∧ x1.toInt ≤ 39) (p_x2 : (-1) ≤ x2.toInt ∧ x2.toInt ≤ 39) (p_x3 : 0 ≤ x3.toInt ∧ x3.toInt ≤ 1) (hfe : (σ.1 28 x1.toNatClampNeg).toInt ≤ 119) (he : (σ.1 27 0).toInt ≤ 119) : OK (f_X0_lead x1 x2 x3 σ) (fun s => BX s ∧ FR [27, 29, 30, 31] [0] σ s ∧ ((s.1 27 0).toInt ≤ (σ.1 27 0).toInt + 1)) := by
  unfold f_X0_lead
  have hF : FR [27, 29, 30, 31] [0] σ σ := FR.rf
  have k_m1 : ((-1) : Int32).toInt = -1 := by decide +kernel
  have k_0 : (0 : Int32).toInt = 0 := by decide +kernel
  have k_1 : (1 : Int32).toInt = 1 := by decide +kernel
  refine ok_ite (fun c_1 => ?_) (fun c_1 => ?_)
  · rw [fa_eq] at c_1
    exact ok_ret ⟨hB, hF, (by (try dsimp only); omega)⟩
  · rw [fa_eq] at c_1
    refine ok_ix ⟨by omega, by omega⟩ ?_
    refine ok_lt fun v_2 e_v_2 => ?_
    refine ok_calp (s_X11_isIn (x1 := v_2) (x2 := x2) ) (fun v_3 h_2 => ?_)
    have b_v_3 := h_2
    (try dsimp only at b_v_3)
    refine ok_ite (fun c_3 => ?_) (fun c_3 => ?_)
    · rw [fa_eq] at c_3
      refine ok_ix ⟨by omega, by omega⟩ ?_
      refine ok_lt fun v_5 e_v_5 => ?_
      refine ok_ix ⟨by omega, by omega⟩ ?_
      refine ok_lt fun s_6 e_s_6 => ?_
      have hB_s_6 : BX s_6 := by rw [e_s_6]; exact BD.stl hB
      have hF_s_6 : FR [27, 29, 30, 31] [0] σ s_6 := by rw [e_s_6]; exact FR.stl hF (by decide)
      have w_s_6_27 : (s_6.1 27 0).toInt = (σ.1 27 0).toInt := by rw [e_s_6]; rfl
      have g_4 := gX_27 hB_s_6 0
      refine ok_ix ⟨by omega, by omega⟩ ?_
      refine ok_lt fun s_7 e_s_7 => ?_
      have hB_s_7 : BX s_7 := by rw [e_s_7]; exact pX_29 hB_s_6 (by omega)
      have hF_s_7 : FR [27, 29, 30, 31] [0] σ s_7 := by rw [e_s_7]; exact FR.st hF_s_6 (by decide)
      have w_s_7_27 : (s_7.1 27 0).toInt = (s_6.1 27 0).toInt := by rw [e_s_7]; rfl
      have g_5 := gX_27 hB_s_7 0
      refine ok_ix ⟨by omega, by omega⟩ ?_
      refine ok_lt fun s_8 e_s_8 => ?_
      have hB_s_8 : BX s_8 := by rw [e_s_8]; exact pX_30 hB_s_7 (by omega)
      have hF_s_8 : FR [27, 29, 30, 31] [0] σ s_8 := by rw [e_s_8]; exact FR.st hF_s_7 (by decide)
      have w_s_8_27 : (s_8.1 27 0).toInt = (s_7.1 27 0).toInt := by rw [e_s_8]; rfl
      refine ok_bz (by rw [fa_eq, fa_eq]; omega) ?_
      have g_6 := gX_27 hB_s_8 0
      refine ok_ix ⟨by omega, by omega⟩ ?_
      refine ok_lt fun s_9 e_s_9 => ?_
      have hB_s_9 : BX s_9 := by rw [e_s_9]; exact pX_31 hB_s_8 (by omega)
      have hF_s_9 : FR [27, 29, 30, 31] [0] σ s_9 := by rw [e_s_9]; exact FR.st hF_s_8 (by decide)
      have w_s_9_27 : (s_9.1 27 0).toInt = (s_8.1 27 0).toInt := by rw [e_s_9]; rfl
      have g_7 := gX_27 hB_s_9 0
      obtain ⟨t_8, ht_8, g_8⟩ : ∃ t : Int, ((s_9.1 27 0) + 1).toInt = t ∧ t = (s_9.1 27 0).toInt + (1 : Int32).toInt := ⟨_, rfl, by have h9 := fb_addI (x := (s_9.1 27 0)) (y := (1 : Int32)) (by omega) (by omega); exact h9⟩
      refine ok_lt fun s_11 e_s_11 => ?_
      have hB_s_11 : BX s_11 := by rw [e_s_11]; exact pX_27 hB_s_9 (by rw [ht_8]; omega)
      have hF_s_11 : FR [27, 29, 30, 31] [0] σ s_11 := by rw [e_s_11]; exact FR.st hF_s_9 (by decide)
      have w_s_11_27 : (s_11.1 27 0).toInt = t_8 := by rw [e_s_11, sti_s, ht_8]
      exact ok_ret ⟨hB_s_11, hF_s_11, (by (try dsimp only); omega)⟩
    · rw [fa_eq] at c_3
      refine ok_calp (s_X0_edgeTo (x1 := x1) (x2 := x2) (σ := σ) hB (by omega) (by omega) (by omega)) (fun v_12 h_9 => ?_)
      have b_v_12 := h_9
      (try dsimp only at b_v_12)
      refine ok_ix ⟨by omega, by omega⟩ ?_
      have g_10 := gX_31 hB (v_12.toNatClampNeg)
      refine ok_lt fun v_13 e_v_13 => ?_
      have b_v_13 : 0 ≤ v_13.toInt ∧ v_13.toInt ≤ 1 := by rw [e_v_13]; exact gX_31 hB _
      refine ok_jn ?_
      refine ok_ite (fun c_11 => ?_) (fun c_11 => ?_)
      · rw [fa_eq] at c_11
        refine ok_ite (fun c_12 => ?_) (fun c_12 => ?_)
        · rw [fa_eq] at c_12
          refine ok_ix ⟨by omega, by omega⟩ ?_
          refine ok_lt fun s_18 e_s_18 => ?_
          have hB_s_18 : BX s_18 := by rw [e_s_18]; exact pX_31 hB (by omega)
          have hF_s_18 : FR [27, 29, 30, 31] [0] σ s_18 := by rw [e_s_18]; exact FR.st hF (by decide)
          have w_s_18_27 : (s_18.1 27 0).toInt = (σ.1 27 0).toInt := by rw [e_s_18]; rfl
          exact ok_ret ⟨hB_s_18, hF_s_18, (by (try dsimp only); omega)⟩
        · rw [fa_eq] at c_12
          refine ok_ix ⟨by omega, by omega⟩ ?_
          refine ok_lt fun s_15 e_s_15 => ?_
          have hB_s_15 : BX s_15 := by rw [e_s_15]; exact pX_31 hB (by omega)
          have hF_s_15 : FR [27, 29, 30, 31] [0] σ s_15 := by rw [e_s_15]; exact FR.st hF (by decide)
          have w_s_15_27 : (s_15.1 27 0).toInt = (σ.1 27 0).toInt := by rw [e_s_15]; rfl
          exact ok_ret ⟨hB_s_15, hF_s_15, (by (try dsimp only); omega)⟩
      · rw [fa_eq] at c_11
        refine ok_ix ⟨by omega, by omega⟩ ?_
        refine ok_lt fun s_15 e_s_15 => ?_
        have hB_s_15 : BX s_15 := by rw [e_s_15]; exact pX_31 hB (by omega)
        have hF_s_15 : FR [27, 29, 30, 31] [0] σ s_15 := by rw [e_s_15]; exact FR.st hF (by decide)
        have w_s_15_27 : (s_15.1 27 0).toInt = (σ.1 27 0).toInt := by rw [e_s_15]; rfl
        exact ok_ret ⟨hB_s_15, hF_s_15, (by (try dsimp only); omega)⟩

set_option maxHeartbeats 4000000 in
theorem s_X0_join {x1 : Int32} {σ : Sto} (hB : BX σ) (hLV : LV σ) (p_x1 : 0 ≤ x1.toInt ∧ x1.toInt ≤ 39) (he : (σ.1 27 0).toInt ≤ 117) (hl : (σ.1 22 x1.toNatClampNeg).toInt < (σ.1 4 0).toInt) (hd : (σ.1 8 (σ.1 22 x1.toNatClampNeg).toNatClampNeg).toInt ≠ -1) : OK (f_X0_join x1 σ) (fun s => BX s ∧ FR [24, 25, 26, 27, 28, 29, 30, 31] [0] σ s ∧ ((s.1 27 0).toInt ≤ (σ.1 27 0).toInt + 3)) := by
  unfold f_X0_join
  have hF : FR [24, 25, 26, 27, 28, 29, 30, 31] [0] σ σ := FR.rf
  have k_m1 : ((-1) : Int32).toInt = -1 := by decide +kernel
  have k_0 : (0 : Int32).toInt = 0 := by decide +kernel
  have k_1 : (1 : Int32).toInt = 1 := by decide +kernel
  have g4 := gX_4 hB 0
  have g22 := gX_22 hB x1.toNatClampNeg
  refine ok_ix ⟨by omega, by omega⟩ ?_
  have g_1 := gX_22 hB (x1.toNatClampNeg)
  refine ok_lt fun v_1 e_v_1 => ?_
  have b_v_1 : 0 ≤ v_1.toInt ∧ v_1.toInt ≤ 39 := by rw [e_v_1]; exact gX_22 hB _
  have V := hLV.1 v_1.toNatClampNeg (by have := clamp_I (x := v_1) (by rw [e_v_1]; have := gX_22 hB x1.toNatClampNeg; omega); rw [e_v_1] at this ⊢; omega)
  have y8 := V.2.2 (by rw [e_v_1]; exact hd)
  refine ok_ix ⟨by omega, by omega⟩ ?_
  have g_2 := gX_27 hB 0
  refine ok_lt fun s_2 e_s_2 => ?_
  have hB_s_2 : BX s_2 := by rw [e_s_2]; exact pX_28 hB (by omega)
  have hF_s_2 : FR [24, 25, 26, 27, 28, 29, 30, 31] [0] σ s_2 := by rw [e_s_2]; exact FR.st hF (by decide)
  have w_s_2_27 : (s_2.1 27 0).toInt = (σ.1 27 0).toInt := by rw [e_s_2]; rfl
  have hLV_s_2 : LV s_2 := by rw [e_s_2]; exact LV.st1 (by decide) hLV
  have z28_s_2 : (s_2.1 28 x1.toNatClampNeg).toInt = (σ.1 27 0).toInt := by rw [e_s_2, sti_s]
  refine ok_ix ⟨by omega, by omega⟩ ?_
  refine ok_lt fun s_3 e_s_3 => ?_
  have hB_s_3 : BX s_3 := by rw [e_s_3]; exact BD.stl hB_s_2
  have hF_s_3 : FR [24, 25, 26, 27, 28, 29, 30, 31] [0] σ s_3 := by rw [e_s_3]; exact FR.stl hF_s_2 (by decide)
  have w_s_3_27 : (s_3.1 27 0).toInt = (s_2.1 27 0).toInt := by rw [e_s_3]; rfl
  have z28_s_3 : (s_3.1 28 x1.toNatClampNeg).toInt = (s_2.1 28 x1.toNatClampNeg).toInt := by rw [e_s_3]; rfl
  have hLV_s_3 : LV s_3 := by rw [e_s_3]; exact LV.st2 (by decide) hLV_s_2
  refine ok_ix ⟨by omega, by omega⟩ ?_
  refine ok_lt fun s_4 e_s_4 => ?_
  have hB_s_4 : BX s_4 := by rw [e_s_4]; exact pX_24 hB_s_3 (by omega)
  have hF_s_4 : FR [24, 25, 26, 27, 28, 29, 30, 31] [0] σ s_4 := by rw [e_s_4]; exact FR.st hF_s_3 (by decide)
  have w_s_4_27 : (s_4.1 27 0).toInt = (s_3.1 27 0).toInt := by rw [e_s_4]; rfl
  have z28_s_4 : (s_4.1 28 x1.toNatClampNeg).toInt = (s_3.1 28 x1.toNatClampNeg).toInt := by rw [e_s_4]; rfl
  have hLV_s_4 : LV s_4 := by rw [e_s_4]; exact LV.st1 (by decide) hLV_s_3
  refine ok_ix ⟨by omega, by omega⟩ ?_
  refine ok_lt fun s_5 e_s_5 => ?_
  have hB_s_5 : BX s_5 := by rw [e_s_5]; exact pX_25 hB_s_4 (by omega)
  have hF_s_5 : FR [24, 25, 26, 27, 28, 29, 30, 31] [0] σ s_5 := by rw [e_s_5]; exact FR.st hF_s_4 (by decide)
  have w_s_5_27 : (s_5.1 27 0).toInt = (s_4.1 27 0).toInt := by rw [e_s_5]; rfl
  have z28_s_5 : (s_5.1 28 x1.toNatClampNeg).toInt = (s_4.1 28 x1.toNatClampNeg).toInt := by rw [e_s_5]; rfl
  have hLV_s_5 : LV s_5 := by rw [e_s_5]; exact LV.st1 (by decide) hLV_s_4
  refine ok_calp (s_X3_goesOn (x1 := v_1) (σ := s_5) hB_s_5 (by omega)) (fun v_6 h_3 => ?_)
  obtain ⟨b_v_6, x_v_6⟩ := h_3
  (try dsimp only at b_v_6 x_v_6)
  have y6 : v_6.toInt = 1 → v_1.toInt + 1 < (σ.1 4 0).toInt := fun h => by have h8 := x_v_6 h; rw [hF_s_5.1 6 (by decide)] at h8; have h9 := (y8.2.1 h8).1; have := clamp_I (x := v_1) (by omega); omega
  refine ok_jnI1 (fun (s_7 : Sto) => True ∧ (BX s_7) ∧ (FR [24, 25, 26, 27, 28, 29, 30, 31] [0] σ s_7) ∧ (LV s_7) ∧ ((s_7.1 28 x1.toNatClampNeg).toInt = (σ.1 27 0).toInt) ∧ ((s_7.1 27 0).toInt ≤ (σ.1 27 0).toInt + 1)) ?_ ?_
  · intro s_7 hJ
    obtain ⟨-, hB_s_7, hF_s_7, hLV_s_7, j28, j27⟩ := hJ
    refine ok_calp (s_X3_goesElsewhere (x1 := v_1) (σ := s_7) hB_s_7 (by omega)) (fun v_8 h_4 => ?_)
    obtain ⟨b_v_8, x_v_8⟩ := h_4
    (try dsimp only at b_v_8 x_v_8)
    refine ok_jnI1 (fun (s_9 : Sto) => True ∧ (BX s_9) ∧ (FR [24, 25, 26, 27, 28, 29, 30, 31] [0] σ s_9) ∧ (LV s_9) ∧ ((s_9.1 28 x1.toNatClampNeg).toInt = (σ.1 27 0).toInt) ∧ ((s_9.1 27 0).toInt ≤ (σ.1 27 0).toInt + 2)) ?_ ?_
    · intro s_9 hJ
      obtain ⟨-, hB_s_9, hF_s_9, hLV_s_9, j28, j27⟩ := hJ
      refine ok_calp (s_X0_catcherOf (x1 := x1) (σ := s_9) hB_s_9 hLV_s_9 (by omega)) (fun v_10 h_5 => ?_)
      have b_v_10 := h_5
      (try dsimp only at b_v_10)
      refine ok_ix ⟨by omega, by omega⟩ ?_
      refine ok_lt fun s_11 e_s_11 => ?_
      have hB_s_11 : BX s_11 := by rw [e_s_11]; exact pX_26 hB_s_9 (by omega)
      have hF_s_11 : FR [24, 25, 26, 27, 28, 29, 30, 31] [0] σ s_11 := by rw [e_s_11]; exact FR.st hF_s_9 (by decide)
      have w_s_11_27 : (s_11.1 27 0).toInt = (s_9.1 27 0).toInt := by rw [e_s_11]; rfl
      have z28_s_11 : (s_11.1 28 x1.toNatClampNeg).toInt = (s_9.1 28 x1.toNatClampNeg).toInt := by rw [e_s_11]; rfl
      have hLV_s_11 : LV s_11 := by rw [e_s_11]; exact LV.st1 (by decide) hLV_s_9
      refine ok_ix ⟨by omega, by omega⟩ ?_
      have g_6 := gX_26 hB_s_11 (x1.toNatClampNeg)
      refine ok_lt fun v_12 e_v_12 => ?_
      have b_v_12 : (-1) ≤ v_12.toInt ∧ v_12.toInt ≤ 39 := by rw [e_v_12]; exact gX_26 hB_s_11 _
      have q_v_12 : v_12.toInt = (s_11.1 26 x1.toNatClampNeg).toInt := by rw [e_v_12]
      refine ok_ite (fun c_7 => ?_) (fun c_7 => ?_)
      · rw [fa_eq] at c_7
        exact ok_ret ⟨hB_s_11, hF_s_11, (by (try dsimp only); omega)⟩
      · rw [fa_eq] at c_7
        refine ok_ix ⟨by omega, by omega⟩ ?_
        refine ok_lt fun v_14 e_v_14 => ?_
        have b_v_14 : (-1) ≤ v_14.toInt ∧ v_14.toInt ≤ 39 := by rw [e_v_14]; exact gX_26 hB_s_11 _
        have q_v_14 : v_14.toInt = (s_11.1 26 x1.toNatClampNeg).toInt := by rw [e_v_14]
        refine ok_cals (s_X0_lead (x1 := x1) (x2 := v_14) (x3 := (1 : Int32)) (σ := s_11) hB_s_11 (by omega) (by omega) (by omega) (by omega) (by omega)) (fun s_15 h_8 => ?_)
        obtain ⟨hB_s_15, hG_s_15, x_s_15⟩ := h_8
        (try dsimp only at hB_s_15 hG_s_15 x_s_15)
        have hF_s_15 : FR [24, 25, 26, 27, 28, 29, 30, 31] [0] σ s_15 := FR.cal hF_s_11 hG_s_15 rfl rfl
        have z28_s_15 : (s_15.1 28 x1.toNatClampNeg).toInt = (s_11.1 28 x1.toNatClampNeg).toInt := by rw [hG_s_15.1 28 (by decide)]
        have hLV_s_15 : LV s_15 := LV.fr hG_s_15 (by decide) hLV_s_11
        exact ok_ret ⟨hB_s_15, hF_s_15, (by (try dsimp only); omega)⟩
    · intro k_147 hk_k_147
      refine ok_ite (fun c_9 => ?_) (fun c_9 => ?_)
      · rw [fa_eq] at c_9
        exact hk_k_147 s_7 ⟨trivial, hB_s_7, hF_s_7, hLV_s_7, (by omega), (by omega)⟩
      · rw [fa_eq] at c_9
        refine ok_ix ⟨by omega, by omega⟩ ?_
        have g_10 := gX_7 hB_s_7 (v_1.toNatClampNeg)
        refine ok_lt fun v_17 e_v_17 => ?_
        have b_v_17 : 0 ≤ v_17.toInt ∧ v_17.toInt ≤ 999 := by rw [e_v_17]; exact gX_7 hB_s_7 _
        have y17 : v_17.toInt ≤ 39 := by have h9 := x_v_8 (by omega); rw [hF_s_7.1 6 (by decide)] at h9; rw [e_v_17, hF_s_7.1 7 (by decide)]; exact V.1.2.2.1 h9
        refine ok_ix ⟨by omega, by omega⟩ ?_
        have g_11 := gX_23 hB_s_7 (v_17.toNatClampNeg)
        refine ok_lt fun v_18 e_v_18 => ?_
        have b_v_18 : (-1) ≤ v_18.toInt ∧ v_18.toInt ≤ 39 := by rw [e_v_18]; exact gX_23 hB_s_7 _
        refine ok_ix ⟨by omega, by omega⟩ ?_
        have g_12 := gX_24 hB_s_7 (x1.toNatClampNeg)
        refine ok_lt fun v_19 e_v_19 => ?_
        have b_v_19 : (-1) ≤ v_19.toInt ∧ v_19.toInt ≤ 39 := by rw [e_v_19]; exact gX_24 hB_s_7 _
        have q_v_19 : v_19.toInt = (s_7.1 24 x1.toNatClampNeg).toInt := by rw [e_v_19]
        refine ok_jnI1 (fun (s_20 : Sto) => True ∧ (BX s_20) ∧ (FR [24, 25, 26, 27, 28, 29, 30, 31] [0] σ s_20) ∧ (LV s_20) ∧ ((s_20.1 28 x1.toNatClampNeg).toInt = (σ.1 27 0).toInt) ∧ ((s_20.1 27 0).toInt ≤ (σ.1 27 0).toInt + 1)) ?_ ?_
        · intro s_20 hJ
          obtain ⟨-, hB_s_20, hF_s_20, hLV_s_20, j28, j27⟩ := hJ
          refine ok_cals (s_X0_lead (x1 := x1) (x2 := v_18) (x3 := (0 : Int32)) (σ := s_20) hB_s_20 (by omega) (by omega) (by omega) (by omega) (by omega)) (fun s_21 h_13 => ?_)
          obtain ⟨hB_s_21, hG_s_21, x_s_21⟩ := h_13
          (try dsimp only at hB_s_21 hG_s_21 x_s_21)
          have hF_s_21 : FR [24, 25, 26, 27, 28, 29, 30, 31] [0] σ s_21 := FR.cal hF_s_20 hG_s_21 rfl rfl
          have z28_s_21 : (s_21.1 28 x1.toNatClampNeg).toInt = (s_20.1 28 x1.toNatClampNeg).toInt := by rw [hG_s_21.1 28 (by decide)]
          have hLV_s_21 : LV s_21 := LV.fr hG_s_21 (by decide) hLV_s_20
          exact hk_k_147 s_21 ⟨trivial, hB_s_21, hF_s_21, hLV_s_21, (by omega), (by omega)⟩
        · intro k_140 hk_k_140
          refine ok_ite (fun c_14 => ?_) (fun c_14 => ?_)
          · rw [fa_eq] at c_14
            refine ok_ix ⟨by omega, by omega⟩ ?_
            refine ok_lt fun s_23 e_s_23 => ?_
            have hB_s_23 : BX s_23 := by rw [e_s_23]; exact pX_24 hB_s_7 (by omega)
            have hF_s_23 : FR [24, 25, 26, 27, 28, 29, 30, 31] [0] σ s_23 := by rw [e_s_23]; exact FR.st hF_s_7 (by decide)
            have w_s_23_27 : (s_23.1 27 0).toInt = (s_7.1 27 0).toInt := by rw [e_s_23]; rfl
            have z28_s_23 : (s_23.1 28 x1.toNatClampNeg).toInt = (s_7.1 28 x1.toNatClampNeg).toInt := by rw [e_s_23]; rfl
            have hLV_s_23 : LV s_23 := by rw [e_s_23]; exact LV.st1 (by decide) hLV_s_7
            exact hk_k_140 s_23 ⟨trivial, hB_s_23, hF_s_23, hLV_s_23, (by omega), (by omega)⟩
          · rw [fa_eq] at c_14
            refine ok_ix ⟨by omega, by omega⟩ ?_
            refine ok_lt fun v_24 e_v_24 => ?_
            have b_v_24 : (-1) ≤ v_24.toInt ∧ v_24.toInt ≤ 39 := by rw [e_v_24]; exact gX_24 hB_s_7 _
            have q_v_24 : v_24.toInt = (s_7.1 24 x1.toNatClampNeg).toInt := by rw [e_v_24]
            refine ok_ite (fun c_15 => ?_) (fun c_15 => ?_)
            · rw [fa_eq] at c_15
              exact hk_k_140 s_7 ⟨trivial, hB_s_7, hF_s_7, hLV_s_7, (by omega), (by omega)⟩
            · rw [fa_eq] at c_15
              refine ok_ix ⟨by omega, by omega⟩ ?_
              refine ok_lt fun s_26 e_s_26 => ?_
              have hB_s_26 : BX s_26 := by rw [e_s_26]; exact pX_25 hB_s_7 (by omega)
              have hF_s_26 : FR [24, 25, 26, 27, 28, 29, 30, 31] [0] σ s_26 := by rw [e_s_26]; exact FR.st hF_s_7 (by decide)
              have w_s_26_27 : (s_26.1 27 0).toInt = (s_7.1 27 0).toInt := by rw [e_s_26]; rfl
              have z28_s_26 : (s_26.1 28 x1.toNatClampNeg).toInt = (s_7.1 28 x1.toNatClampNeg).toInt := by rw [e_s_26]; rfl
              have hLV_s_26 : LV s_26 := by rw [e_s_26]; exact LV.st1 (by decide) hLV_s_7
              exact hk_k_140 s_26 ⟨trivial, hB_s_26, hF_s_26, hLV_s_26, (by omega), (by omega)⟩
  · intro k_77 hk_k_77
    refine ok_ite (fun c_16 => ?_) (fun c_16 => ?_)
    · rw [fa_eq] at c_16
      exact hk_k_77 s_5 ⟨trivial, hB_s_5, hF_s_5, hLV_s_5, (by omega), (by omega)⟩
    · rw [fa_eq] at c_16
      obtain ⟨t_17, ht_17, g_17⟩ : ∃ t : Int, (v_1 + 1).toInt = t ∧ t = v_1.toInt + (1 : Int32).toInt := ⟨_, rfl, by have h9 := fb_addI (x := v_1) (y := (1 : Int32)) (by omega) (by omega); exact h9⟩
      refine ok_ix ⟨by rw [ht_17]; omega, by rw [ht_17]; omega⟩ ?_
      have g_18 := gX_23 hB_s_5 ((v_1 + 1).toNatClampNeg)
      refine ok_lt fun v_28 e_v_28 => ?_
      have b_v_28 : (-1) ≤ v_28.toInt ∧ v_28.toInt ≤ 39 := by rw [e_v_28]; exact gX_23 hB_s_5 _
      have q_v_28 : v_28.toInt = (σ.1 23 ((v_1 + 1).toNatClampNeg)).toInt := by rw [e_v_28, hF_s_5.1 23 (by decide)]
      refine ok_ix ⟨by omega, by omega⟩ ?_
      refine ok_lt fun s_29 e_s_29 => ?_
      have hB_s_29 : BX s_29 := by rw [e_s_29]; exact pX_24 hB_s_5 (by omega)
      have hF_s_29 : FR [24, 25, 26, 27, 28, 29, 30, 31] [0] σ s_29 := by rw [e_s_29]; exact FR.st hF_s_5 (by decide)
      have w_s_29_27 : (s_29.1 27 0).toInt = (s_5.1 27 0).toInt := by rw [e_s_29]; rfl
      have z28_s_29 : (s_29.1 28 x1.toNatClampNeg).toInt = (s_5.1 28 x1.toNatClampNeg).toInt := by rw [e_s_29]; rfl
      have hLV_s_29 : LV s_29 := by rw [e_s_29]; exact LV.st1 (by decide) hLV_s_5
      refine ok_ix ⟨by rw [ht_17]; omega, by rw [ht_17]; omega⟩ ?_
      have g_19 := gX_23 hB_s_29 ((v_1 + 1).toNatClampNeg)
      refine ok_lt fun v_30 e_v_30 => ?_
      have b_v_30 : (-1) ≤ v_30.toInt ∧ v_30.toInt ≤ 39 := by rw [e_v_30]; exact gX_23 hB_s_29 _
      have q_v_30 : v_30.toInt = (σ.1 23 ((v_1 + 1).toNatClampNeg)).toInt := by rw [e_v_30, hF_s_29.1 23 (by decide)]
      refine ok_cals (s_X0_lead (x1 := x1) (x2 := v_30) (x3 := (0 : Int32)) (σ := s_29) hB_s_29 (by omega) (by omega) (by omega) (by omega) (by omega)) (fun s_31 h_20 => ?_)
      obtain ⟨hB_s_31, hG_s_31, x_s_31⟩ := h_20
      (try dsimp only at hB_s_31 hG_s_31 x_s_31)
      have hF_s_31 : FR [24, 25, 26, 27, 28, 29, 30, 31] [0] σ s_31 := FR.cal hF_s_29 hG_s_31 rfl rfl
      have z28_s_31 : (s_31.1 28 x1.toNatClampNeg).toInt = (s_29.1 28 x1.toNatClampNeg).toInt := by rw [hG_s_31.1 28 (by decide)]
      have hLV_s_31 : LV s_31 := LV.fr hG_s_31 (by decide) hLV_s_29
      exact hk_k_77 s_31 ⟨trivial, hB_s_31, hF_s_31, hLV_s_31, (by omega), (by omega)⟩

set_option maxHeartbeats 4000000 in
theorem s_X3_depthBehind {x1 : Int32} {σ : Sto} (hB : BX σ) (p_x1 : 0 ≤ x1.toInt ∧ x1.toInt ≤ 39) : OK (f_X3_depthBehind x1 σ) (fun v => ((-3) ≤ v.toInt ∧ v.toInt ≤ 8) ∧ (HD (σ.1 6 x1.toNatClampNeg).toInt (σ.1 8 x1.toNatClampNeg).toInt v.toInt)) := by
  unfold f_X3_depthBehind
  have hF : FR [] [] σ σ := FR.rf
  refine ok_ix ⟨by omega, by omega⟩ ?_
  have g_1 := gX_8 hB (x1.toNatClampNeg)
  refine ok_lt fun v_1 e_v_1 => ?_
  have b_v_1 : (-1) ≤ v_1.toInt ∧ v_1.toInt ≤ 6 := by rw [e_v_1]; exact gX_8 hB _
  refine ok_ix ⟨by omega, by omega⟩ ?_
  have g_2 := gX_6 hB (x1.toNatClampNeg)
  refine ok_lt fun v_2 e_v_2 => ?_
  have b_v_2 : 0 ≤ v_2.toInt ∧ v_2.toInt ≤ 255 := by rw [e_v_2]; exact gX_6 hB _
  have q_v_2 : v_2.toInt = (σ.1 6 x1.toNatClampNeg).toInt := by rw [e_v_2]
  refine ok_calp (s_X3_needs (x1 := v_2) (by omega)) (fun v_3 h_3 => ?_)
  obtain ⟨b_v_3, x_v_3⟩ := h_3
  (try dsimp only at b_v_3 x_v_3)
  refine ok_ix ⟨by omega, by omega⟩ ?_
  refine ok_lt fun v_4 e_v_4 => ?_
  have b_v_4 : 0 ≤ v_4.toInt ∧ v_4.toInt ≤ 255 := by rw [e_v_4]; exact gX_6 hB _
  have q_v_4 : v_4.toInt = (σ.1 6 x1.toNatClampNeg).toInt := by rw [e_v_4]
  refine ok_calp (s_X3_gives (x1 := v_4) (by omega)) (fun v_5 h_4 => ?_)
  obtain ⟨b_v_5, x_v_5⟩ := h_4
  (try dsimp only at b_v_5 x_v_5)
  have y3 : v_3.toInt = ndI (σ.1 6 x1.toNatClampNeg).toInt := by rw [x_v_3, e_v_2]
  have y5 : v_5.toInt = gvI (σ.1 6 x1.toNatClampNeg).toInt := by rw [x_v_5, e_v_4]
  have y1 : v_1.toInt = (σ.1 8 x1.toNatClampNeg).toInt := by rw [e_v_1]
  obtain ⟨t_5, ht_5, g_5⟩ : ∃ t : Int, (v_1 - v_3).toInt = t ∧ t = v_1.toInt - v_3.toInt := ⟨_, rfl, by have h9 := fb_subI (x := v_1) (y := v_3) (by omega) (by omega); exact h9⟩
  obtain ⟨t_6, ht_6, g_6⟩ : ∃ t : Int, ((v_1 - v_3) + v_5).toInt = t ∧ t = t_5 + v_5.toInt := ⟨_, rfl, by have h9 := fb_addI (x := (v_1 - v_3)) (y := v_5) (by rw [ht_5]; omega) (by rw [ht_5]; omega); rw [ht_5] at h9; exact h9⟩
  exact ok_ret ⟨(by (try dsimp only); rw [ht_6]; omega), (by (try dsimp only); unfold HD; omega)⟩

theorem s_X0_cut {σ : Sto} (hB : BX σ) : OK (f_X0_cut σ) (fun s => BX s ∧ FR [20, 21, 22, 23, 24, 25, 26, 27, 28, 29, 30, 31, 32, 33] [0] σ s) := sorry
theorem s_X8_allAreComeTo {σ : Sto} (hB : BX σ) : OK (f_X8_allAreComeTo σ) (fun r => (0 ≤ r.1.toInt ∧ r.1.toInt ≤ 1) ∧ BX r.2 ∧ FR [39, 40, 42, 43] [] σ r.2) := sorry
set_option maxHeartbeats 4000000 in
theorem s_J6_numberOfTrailingZeros_0f7a4 {x1 : Int32} : OK (f_J6_numberOfTrailingZeros_0f7a4 x1) (fun v => True) := by
  unfold f_J6_numberOfTrailingZeros_0f7a4
  have k_0 : (0 : Int32).toInt = 0 := by decide +kernel
  have k_1 : (1 : Int32).toInt = 1 := by decide +kernel
  have k_2 : (2 : Int32).toInt = 2 := by decide +kernel
  have k_4 : (4 : Int32).toInt = 4 := by decide +kernel
  have k_8 : (8 : Int32).toInt = 8 := by decide +kernel
  have k_16 : (16 : Int32).toInt = 16 := by decide +kernel
  have k_256 : (256 : Int32).toInt = 256 := by decide +kernel
  have k_65536 : (65536 : Int32).toInt = 65536 := by decide +kernel
  obtain ⟨t_1, ht_1, g_1⟩ : ∃ t : Int, ((x1 ^^^ (-1)) &&& (x1 - 1)).toInt = t ∧ -2147483648 ≤ t ∧ t ≤ 2147483647 := ⟨_, rfl, tI_rng _⟩
  refine ok_lt fun x0_1 e_x0_1 => ?_
  have q_x0_1 : x0_1.toInt = t_1 := by rw [e_x0_1]; exact ht_1
  refine ok_ite (fun c_2 => ?_) (fun c_2 => ?_)
  · rw [fa_lt] at c_2
    refine ok_jn ?_
    refine ok_ite (fun c_3 => ?_) (fun c_3 => ?_)
    · rw [fa_le] at c_3
      refine ok_jn ?_
      refine ok_ite (fun c_4 => ?_) (fun c_4 => ?_)
      · rw [fa_le] at c_4
        refine ok_jn ?_
        refine ok_ite (fun c_5 => ?_) (fun c_5 => ?_)
        · rw [fa_le] at c_5
          refine ok_jn ?_
          refine ok_ite (fun c_6 => ?_) (fun c_6 => ?_)
          · rw [fa_le] at c_6
            obtain ⟨t_7, ht_7, g_7⟩ : ∃ t : Int, ((x0_1.toUInt32 >>> ((1 : Int32).toUInt32 &&& (31 : Int32).toUInt32)).toInt32).toInt = t ∧ -2147483648 ≤ t ∧ t ≤ 2147483647 := ⟨_, rfl, tI_rng _⟩
            obtain ⟨t_8, ht_8, g_8⟩ : ∃ t : Int, ((1 : Int32) + (x0_1.toUInt32 >>> ((1 : Int32).toUInt32 &&& (31 : Int32).toUInt32)).toInt32).toInt = t ∧ -2147483648 ≤ t ∧ t ≤ 2147483647 := ⟨_, rfl, tI_rng _⟩
            exact ok_ret trivial
          · rw [fa_le] at c_6
            obtain ⟨t_9, ht_9, g_9⟩ : ∃ t : Int, ((1 : Int32) + 2).toInt = t ∧ t = (1 : Int32).toInt + (2 : Int32).toInt := ⟨_, rfl, by have h9 := fb_addI (x := (1 : Int32)) (y := (2 : Int32)) (by omega) (by omega); exact h9⟩
            refine ok_lt fun x1_8 e_x1_8 => ?_
            have q_x1_8 : x1_8.toInt = t_9 := by rw [e_x1_8]; exact ht_9
            obtain ⟨t_10, ht_10, g_10⟩ : ∃ t : Int, ((x0_1.toUInt32 >>> ((2 : Int32).toUInt32 &&& (31 : Int32).toUInt32)).toInt32).toInt = t ∧ -2147483648 ≤ t ∧ t ≤ 2147483647 := ⟨_, rfl, tI_rng _⟩
            refine ok_lt fun x0_9 e_x0_9 => ?_
            have q_x0_9 : x0_9.toInt = t_10 := by rw [e_x0_9]; exact ht_10
            obtain ⟨t_11, ht_11, g_11⟩ : ∃ t : Int, ((x0_9.toUInt32 >>> ((1 : Int32).toUInt32 &&& (31 : Int32).toUInt32)).toInt32).toInt = t ∧ -2147483648 ≤ t ∧ t ≤ 2147483647 := ⟨_, rfl, tI_rng _⟩
            obtain ⟨t_12, ht_12, g_12⟩ : ∃ t : Int, (x1_8 + (x0_9.toUInt32 >>> ((1 : Int32).toUInt32 &&& (31 : Int32).toUInt32)).toInt32).toInt = t ∧ -2147483648 ≤ t ∧ t ≤ 2147483647 := ⟨_, rfl, tI_rng _⟩
            exact ok_ret trivial
        · rw [fa_le] at c_5
          obtain ⟨t_13, ht_13, g_13⟩ : ∃ t : Int, ((1 : Int32) + 4).toInt = t ∧ t = (1 : Int32).toInt + (4 : Int32).toInt := ⟨_, rfl, by have h9 := fb_addI (x := (1 : Int32)) (y := (4 : Int32)) (by omega) (by omega); exact h9⟩
          refine ok_lt fun x1_11 e_x1_11 => ?_
          have q_x1_11 : x1_11.toInt = t_13 := by rw [e_x1_11]; exact ht_13
          obtain ⟨t_14, ht_14, g_14⟩ : ∃ t : Int, ((x0_1.toUInt32 >>> ((4 : Int32).toUInt32 &&& (31 : Int32).toUInt32)).toInt32).toInt = t ∧ -2147483648 ≤ t ∧ t ≤ 2147483647 := ⟨_, rfl, tI_rng _⟩
          refine ok_lt fun x0_12 e_x0_12 => ?_
          have q_x0_12 : x0_12.toInt = t_14 := by rw [e_x0_12]; exact ht_14
          refine ok_jn ?_
          refine ok_ite (fun c_15 => ?_) (fun c_15 => ?_)
          · rw [fa_le] at c_15
            obtain ⟨t_16, ht_16, g_16⟩ : ∃ t : Int, ((x0_12.toUInt32 >>> ((1 : Int32).toUInt32 &&& (31 : Int32).toUInt32)).toInt32).toInt = t ∧ -2147483648 ≤ t ∧ t ≤ 2147483647 := ⟨_, rfl, tI_rng _⟩
            obtain ⟨t_17, ht_17, g_17⟩ : ∃ t : Int, (x1_11 + (x0_12.toUInt32 >>> ((1 : Int32).toUInt32 &&& (31 : Int32).toUInt32)).toInt32).toInt = t ∧ -2147483648 ≤ t ∧ t ≤ 2147483647 := ⟨_, rfl, tI_rng _⟩
            exact ok_ret trivial
          · rw [fa_le] at c_15
            obtain ⟨t_18, ht_18, g_18⟩ : ∃ t : Int, (x1_11 + 2).toInt = t ∧ t = x1_11.toInt + (2 : Int32).toInt := ⟨_, rfl, by have h9 := fb_addI (x := x1_11) (y := (2 : Int32)) (by omega) (by omega); exact h9⟩
            refine ok_lt fun x1_8 e_x1_8 => ?_
            have q_x1_8 : x1_8.toInt = t_18 := by rw [e_x1_8]; exact ht_18
            obtain ⟨t_19, ht_19, g_19⟩ : ∃ t : Int, ((x0_12.toUInt32 >>> ((2 : Int32).toUInt32 &&& (31 : Int32).toUInt32)).toInt32).toInt = t ∧ -2147483648 ≤ t ∧ t ≤ 2147483647 := ⟨_, rfl, tI_rng _⟩
            refine ok_lt fun x0_9 e_x0_9 => ?_
            have q_x0_9 : x0_9.toInt = t_19 := by rw [e_x0_9]; exact ht_19
            obtain ⟨t_20, ht_20, g_20⟩ : ∃ t : Int, ((x0_9.toUInt32 >>> ((1 : Int32).toUInt32 &&& (31 : Int32).toUInt32)).toInt32).toInt = t ∧ -2147483648 ≤ t ∧ t ≤ 2147483647 := ⟨_, rfl, tI_rng _⟩
            obtain ⟨t_21, ht_21, g_21⟩ : ∃ t : Int, (x1_8 + (x0_9.toUInt32 >>> ((1 : Int32).toUInt32 &&& (31 : Int32).toUInt32)).toInt32).toInt = t ∧ -2147483648 ≤ t ∧ t ≤ 2147483647 := ⟨_, rfl, tI_rng _⟩
            exact ok_ret trivial
      · rw [fa_le] at c_4
        obtain ⟨t_22, ht_22, g_22⟩ : ∃ t : Int, ((1 : Int32) + 8).toInt = t ∧ t = (1 : Int32).toInt + (8 : Int32).toInt := ⟨_, rfl, by have h9 := fb_addI (x := (1 : Int32)) (y := (8 : Int32)) (by omega) (by omega); exact h9⟩
        refine ok_lt fun x1_14 e_x1_14 => ?_
        have q_x1_14 : x1_14.toInt = t_22 := by rw [e_x1_14]; exact ht_22
        obtain ⟨t_23, ht_23, g_23⟩ : ∃ t : Int, ((x0_1.toUInt32 >>> ((8 : Int32).toUInt32 &&& (31 : Int32).toUInt32)).toInt32).toInt = t ∧ -2147483648 ≤ t ∧ t ≤ 2147483647 := ⟨_, rfl, tI_rng _⟩
        refine ok_lt fun x0_15 e_x0_15 => ?_
        have q_x0_15 : x0_15.toInt = t_23 := by rw [e_x0_15]; exact ht_23
        refine ok_jn ?_
        refine ok_ite (fun c_24 => ?_) (fun c_24 => ?_)
        · rw [fa_le] at c_24
          refine ok_jn ?_
          refine ok_ite (fun c_25 => ?_) (fun c_25 => ?_)
          · rw [fa_le] at c_25
            obtain ⟨t_26, ht_26, g_26⟩ : ∃ t : Int, ((x0_15.toUInt32 >>> ((1 : Int32).toUInt32 &&& (31 : Int32).toUInt32)).toInt32).toInt = t ∧ -2147483648 ≤ t ∧ t ≤ 2147483647 := ⟨_, rfl, tI_rng _⟩
            obtain ⟨t_27, ht_27, g_27⟩ : ∃ t : Int, (x1_14 + (x0_15.toUInt32 >>> ((1 : Int32).toUInt32 &&& (31 : Int32).toUInt32)).toInt32).toInt = t ∧ -2147483648 ≤ t ∧ t ≤ 2147483647 := ⟨_, rfl, tI_rng _⟩
            exact ok_ret trivial
          · rw [fa_le] at c_25
            obtain ⟨t_28, ht_28, g_28⟩ : ∃ t : Int, (x1_14 + 2).toInt = t ∧ t = x1_14.toInt + (2 : Int32).toInt := ⟨_, rfl, by have h9 := fb_addI (x := x1_14) (y := (2 : Int32)) (by omega) (by omega); exact h9⟩
            refine ok_lt fun x1_8 e_x1_8 => ?_
            have q_x1_8 : x1_8.toInt = t_28 := by rw [e_x1_8]; exact ht_28
            obtain ⟨t_29, ht_29, g_29⟩ : ∃ t : Int, ((x0_15.toUInt32 >>> ((2 : Int32).toUInt32 &&& (31 : Int32).toUInt32)).toInt32).toInt = t ∧ -2147483648 ≤ t ∧ t ≤ 2147483647 := ⟨_, rfl, tI_rng _⟩
            refine ok_lt fun x0_9 e_x0_9 => ?_
            have q_x0_9 : x0_9.toInt = t_29 := by rw [e_x0_9]; exact ht_29
            obtain ⟨t_30, ht_30, g_30⟩ : ∃ t : Int, ((x0_9.toUInt32 >>> ((1 : Int32).toUInt32 &&& (31 : Int32).toUInt32)).toInt32).toInt = t ∧ -2147483648 ≤ t ∧ t ≤ 2147483647 := ⟨_, rfl, tI_rng _⟩
            obtain ⟨t_31, ht_31, g_31⟩ : ∃ t : Int, (x1_8 + (x0_9.toUInt32 >>> ((1 : Int32).toUInt32 &&& (31 : Int32).toUInt32)).toInt32).toInt = t ∧ -2147483648 ≤ t ∧ t ≤ 2147483647 := ⟨_, rfl, tI_rng _⟩
            exact ok_ret trivial
        · rw [fa_le] at c_24
          obtain ⟨t_32, ht_32, g_32⟩ : ∃ t : Int, (x1_14 + 4).toInt = t ∧ t = x1_14.toInt + (4 : Int32).toInt := ⟨_, rfl, by have h9 := fb_addI (x := x1_14) (y := (4 : Int32)) (by omega) (by omega); exact h9⟩
          refine ok_lt fun x1_11 e_x1_11 => ?_
          have q_x1_11 : x1_11.toInt = t_32 := by rw [e_x1_11]; exact ht_32
          obtain ⟨t_33, ht_33, g_33⟩ : ∃ t : Int, ((x0_15.toUInt32 >>> ((4 : Int32).toUInt32 &&& (31 : Int32).toUInt32)).toInt32).toInt = t ∧ -2147483648 ≤ t ∧ t ≤ 2147483647 := ⟨_, rfl, tI_rng _⟩
          refine ok_lt fun x0_12 e_x0_12 => ?_
          have q_x0_12 : x0_12.toInt = t_33 := by rw [e_x0_12]; exact ht_33
          refine ok_jn ?_
          refine ok_ite (fun c_34 => ?_) (fun c_34 => ?_)
          · rw [fa_le] at c_34
            obtain ⟨t_35, ht_35, g_35⟩ : ∃ t : Int, ((x0_12.toUInt32 >>> ((1 : Int32).toUInt32 &&& (31 : Int32).toUInt32)).toInt32).toInt = t ∧ -2147483648 ≤ t ∧ t ≤ 2147483647 := ⟨_, rfl, tI_rng _⟩
            obtain ⟨t_36, ht_36, g_36⟩ : ∃ t : Int, (x1_11 + (x0_12.toUInt32 >>> ((1 : Int32).toUInt32 &&& (31 : Int32).toUInt32)).toInt32).toInt = t ∧ -2147483648 ≤ t ∧ t ≤ 2147483647 := ⟨_, rfl, tI_rng _⟩
            exact ok_ret trivial
          · rw [fa_le] at c_34
            obtain ⟨t_37, ht_37, g_37⟩ : ∃ t : Int, (x1_11 + 2).toInt = t ∧ t = x1_11.toInt + (2 : Int32).toInt := ⟨_, rfl, by have h9 := fb_addI (x := x1_11) (y := (2 : Int32)) (by omega) (by omega); exact h9⟩
            refine ok_lt fun x1_8 e_x1_8 => ?_
            have q_x1_8 : x1_8.toInt = t_37 := by rw [e_x1_8]; exact ht_37
            obtain ⟨t_38, ht_38, g_38⟩ : ∃ t : Int, ((x0_12.toUInt32 >>> ((2 : Int32).toUInt32 &&& (31 : Int32).toUInt32)).toInt32).toInt = t ∧ -2147483648 ≤ t ∧ t ≤ 2147483647 := ⟨_, rfl, tI_rng _⟩
            refine ok_lt fun x0_9 e_x0_9 => ?_
            have q_x0_9 : x0_9.toInt = t_38 := by rw [e_x0_9]; exact ht_38
            obtain ⟨t_39, ht_39, g_39⟩ : ∃ t : Int, ((x0_9.toUInt32 >>> ((1 : Int32).toUInt32 &&& (31 : Int32).toUInt32)).toInt32).toInt = t ∧ -2147483648 ≤ t ∧ t ≤ 2147483647 := ⟨_, rfl, tI_rng _⟩
            obtain ⟨t_40, ht_40, g_40⟩ : ∃ t : Int, (x1_8 + (x0_9.toUInt32 >>> ((1 : Int32).toUInt32 &&& (31 : Int32).toUInt32)).toInt32).toInt = t ∧ -2147483648 ≤ t ∧ t ≤ 2147483647 := ⟨_, rfl, tI_rng _⟩
            exact ok_ret trivial
    · rw [fa_le] at c_3
      obtain ⟨t_41, ht_41, g_41⟩ : ∃ t : Int, ((1 : Int32) + 16).toInt = t ∧ t = (1 : Int32).toInt + (16 : Int32).toInt := ⟨_, rfl, by have h9 := fb_addI (x := (1 : Int32)) (y := (16 : Int32)) (by omega) (by omega); exact h9⟩
      refine ok_lt fun x1_17 e_x1_17 => ?_
      have q_x1_17 : x1_17.toInt = t_41 := by rw [e_x1_17]; exact ht_41
      obtain ⟨t_42, ht_42, g_42⟩ : ∃ t : Int, ((x0_1.toUInt32 >>> ((16 : Int32).toUInt32 &&& (31 : Int32).toUInt32)).toInt32).toInt = t ∧ -2147483648 ≤ t ∧ t ≤ 2147483647 := ⟨_, rfl, tI_rng _⟩
      refine ok_lt fun x0_18 e_x0_18 => ?_
      have q_x0_18 : x0_18.toInt = t_42 := by rw [e_x0_18]; exact ht_42
      refine ok_jn ?_
      refine ok_ite (fun c_43 => ?_) (fun c_43 => ?_)
      · rw [fa_le] at c_43
        refine ok_jn ?_
        refine ok_ite (fun c_44 => ?_) (fun c_44 => ?_)
        · rw [fa_le] at c_44
          refine ok_jn ?_
          refine ok_ite (fun c_45 => ?_) (fun c_45 => ?_)
          · rw [fa_le] at c_45
            obtain ⟨t_46, ht_46, g_46⟩ : ∃ t : Int, ((x0_18.toUInt32 >>> ((1 : Int32).toUInt32 &&& (31 : Int32).toUInt32)).toInt32).toInt = t ∧ -2147483648 ≤ t ∧ t ≤ 2147483647 := ⟨_, rfl, tI_rng _⟩
            obtain ⟨t_47, ht_47, g_47⟩ : ∃ t : Int, (x1_17 + (x0_18.toUInt32 >>> ((1 : Int32).toUInt32 &&& (31 : Int32).toUInt32)).toInt32).toInt = t ∧ -2147483648 ≤ t ∧ t ≤ 2147483647 := ⟨_, rfl, tI_rng _⟩
            exact ok_ret trivial
          · rw [fa_le] at c_45
            obtain ⟨t_48, ht_48, g_48⟩ : ∃ t : Int, (x1_17 + 2).toInt = t ∧ t = x1_17.toInt + (2 : Int32).toInt := ⟨_, rfl, by have h9 := fb_addI (x := x1_17) (y := (2 : Int32)) (by omega) (by omega); exact h9⟩
            refine ok_lt fun x1_8 e_x1_8 => ?_
            have q_x1_8 : x1_8.toInt = t_48 := by rw [e_x1_8]; exact ht_48
            obtain ⟨t_49, ht_49, g_49⟩ : ∃ t : Int, ((x0_18.toUInt32 >>> ((2 : Int32).toUInt32 &&& (31 : Int32).toUInt32)).toInt32).toInt = t ∧ -2147483648 ≤ t ∧ t ≤ 2147483647 := ⟨_, rfl, tI_rng _⟩
            refine ok_lt fun x0_9 e_x0_9 => ?_
            have q_x0_9 : x0_9.toInt = t_49 := by rw [e_x0_9]; exact ht_49
            obtain ⟨t_50, ht_50, g_50⟩ : ∃ t : Int, ((x0_9.toUInt32 >>> ((1 : Int32).toUInt32 &&& (31 : Int32).toUInt32)).toInt32).toInt = t ∧ -2147483648 ≤ t ∧ t ≤ 2147483647 := ⟨_, rfl, tI_rng _⟩
            obtain ⟨t_51, ht_51, g_51⟩ : ∃ t : Int, (x1_8 + (x0_9.toUInt32 >>> ((1 : Int32).toUInt32 &&& (31 : Int32).toUInt32)).toInt32).toInt = t ∧ -2147483648 ≤ t ∧ t ≤ 2147483647 := ⟨_, rfl, tI_rng _⟩
            exact ok_ret trivial
        · rw [fa_le] at c_44
          obtain ⟨t_52, ht_52, g_52⟩ : ∃ t : Int, (x1_17 + 4).toInt = t ∧ t = x1_17.toInt + (4 : Int32).toInt := ⟨_, rfl, by have h9 := fb_addI (x := x1_17) (y := (4 : Int32)) (by omega) (by omega); exact h9⟩
          refine ok_lt fun x1_11 e_x1_11 => ?_
          have q_x1_11 : x1_11.toInt = t_52 := by rw [e_x1_11]; exact ht_52
          obtain ⟨t_53, ht_53, g_53⟩ : ∃ t : Int, ((x0_18.toUInt32 >>> ((4 : Int32).toUInt32 &&& (31 : Int32).toUInt32)).toInt32).toInt = t ∧ -2147483648 ≤ t ∧ t ≤ 2147483647 := ⟨_, rfl, tI_rng _⟩
          refine ok_lt fun x0_12 e_x0_12 => ?_
          have q_x0_12 : x0_12.toInt = t_53 := by rw [e_x0_12]; exact ht_53
          refine ok_jn ?_
          refine ok_ite (fun c_54 => ?_) (fun c_54 => ?_)
          · rw [fa_le] at c_54
            obtain ⟨t_55, ht_55, g_55⟩ : ∃ t : Int, ((x0_12.toUInt32 >>> ((1 : Int32).toUInt32 &&& (31 : Int32).toUInt32)).toInt32).toInt = t ∧ -2147483648 ≤ t ∧ t ≤ 2147483647 := ⟨_, rfl, tI_rng _⟩
            obtain ⟨t_56, ht_56, g_56⟩ : ∃ t : Int, (x1_11 + (x0_12.toUInt32 >>> ((1 : Int32).toUInt32 &&& (31 : Int32).toUInt32)).toInt32).toInt = t ∧ -2147483648 ≤ t ∧ t ≤ 2147483647 := ⟨_, rfl, tI_rng _⟩
            exact ok_ret trivial
          · rw [fa_le] at c_54
            obtain ⟨t_57, ht_57, g_57⟩ : ∃ t : Int, (x1_11 + 2).toInt = t ∧ t = x1_11.toInt + (2 : Int32).toInt := ⟨_, rfl, by have h9 := fb_addI (x := x1_11) (y := (2 : Int32)) (by omega) (by omega); exact h9⟩
            refine ok_lt fun x1_8 e_x1_8 => ?_
            have q_x1_8 : x1_8.toInt = t_57 := by rw [e_x1_8]; exact ht_57
            obtain ⟨t_58, ht_58, g_58⟩ : ∃ t : Int, ((x0_12.toUInt32 >>> ((2 : Int32).toUInt32 &&& (31 : Int32).toUInt32)).toInt32).toInt = t ∧ -2147483648 ≤ t ∧ t ≤ 2147483647 := ⟨_, rfl, tI_rng _⟩
            refine ok_lt fun x0_9 e_x0_9 => ?_
            have q_x0_9 : x0_9.toInt = t_58 := by rw [e_x0_9]; exact ht_58
            obtain ⟨t_59, ht_59, g_59⟩ : ∃ t : Int, ((x0_9.toUInt32 >>> ((1 : Int32).toUInt32 &&& (31 : Int32).toUInt32)).toInt32).toInt = t ∧ -2147483648 ≤ t ∧ t ≤ 2147483647 := ⟨_, rfl, tI_rng _⟩
            obtain ⟨t_60, ht_60, g_60⟩ : ∃ t : Int, (x1_8 + (x0_9.toUInt32 >>> ((1 : Int32).toUInt32 &&& (31 : Int32).toUInt32)).toInt32).toInt = t ∧ -2147483648 ≤ t ∧ t ≤ 2147483647 := ⟨_, rfl, tI_rng _⟩
            exact ok_ret trivial
      · rw [fa_le] at c_43
        obtain ⟨t_61, ht_61, g_61⟩ : ∃ t : Int, (x1_17 + 8).toInt = t ∧ t = x1_17.toInt + (8 : Int32).toInt := ⟨_, rfl, by have h9 := fb_addI (x := x1_17) (y := (8 : Int32)) (by omega) (by omega); exact h9⟩
        refine ok_lt fun x1_14 e_x1_14 => ?_
        have q_x1_14 : x1_14.toInt = t_61 := by rw [e_x1_14]; exact ht_61
        obtain ⟨t_62, ht_62, g_62⟩ : ∃ t : Int, ((x0_18.toUInt32 >>> ((8 : Int32).toUInt32 &&& (31 : Int32).toUInt32)).toInt32).toInt = t ∧ -2147483648 ≤ t ∧ t ≤ 2147483647 := ⟨_, rfl, tI_rng _⟩
        refine ok_lt fun x0_15 e_x0_15 => ?_
        have q_x0_15 : x0_15.toInt = t_62 := by rw [e_x0_15]; exact ht_62
        refine ok_jn ?_
        refine ok_ite (fun c_63 => ?_) (fun c_63 => ?_)
        · rw [fa_le] at c_63
          refine ok_jn ?_
          refine ok_ite (fun c_64 => ?_) (fun c_64 => ?_)
          · rw [fa_le] at c_64
            obtain ⟨t_65, ht_65, g_65⟩ : ∃ t : Int, ((x0_15.toUInt32 >>> ((1 : Int32).toUInt32 &&& (31 : Int32).toUInt32)).toInt32).toInt = t ∧ -2147483648 ≤ t ∧ t ≤ 2147483647 := ⟨_, rfl, tI_rng _⟩
            obtain ⟨t_66, ht_66, g_66⟩ : ∃ t : Int, (x1_14 + (x0_15.toUInt32 >>> ((1 : Int32).toUInt32 &&& (31 : Int32).toUInt32)).toInt32).toInt = t ∧ -2147483648 ≤ t ∧ t ≤ 2147483647 := ⟨_, rfl, tI_rng _⟩
            exact ok_ret trivial
          · rw [fa_le] at c_64
            obtain ⟨t_67, ht_67, g_67⟩ : ∃ t : Int, (x1_14 + 2).toInt = t ∧ t = x1_14.toInt + (2 : Int32).toInt := ⟨_, rfl, by have h9 := fb_addI (x := x1_14) (y := (2 : Int32)) (by omega) (by omega); exact h9⟩
            refine ok_lt fun x1_8 e_x1_8 => ?_
            have q_x1_8 : x1_8.toInt = t_67 := by rw [e_x1_8]; exact ht_67
            obtain ⟨t_68, ht_68, g_68⟩ : ∃ t : Int, ((x0_15.toUInt32 >>> ((2 : Int32).toUInt32 &&& (31 : Int32).toUInt32)).toInt32).toInt = t ∧ -2147483648 ≤ t ∧ t ≤ 2147483647 := ⟨_, rfl, tI_rng _⟩
            refine ok_lt fun x0_9 e_x0_9 => ?_
            have q_x0_9 : x0_9.toInt = t_68 := by rw [e_x0_9]; exact ht_68
            obtain ⟨t_69, ht_69, g_69⟩ : ∃ t : Int, ((x0_9.toUInt32 >>> ((1 : Int32).toUInt32 &&& (31 : Int32).toUInt32)).toInt32).toInt = t ∧ -2147483648 ≤ t ∧ t ≤ 2147483647 := ⟨_, rfl, tI_rng _⟩
            obtain ⟨t_70, ht_70, g_70⟩ : ∃ t : Int, (x1_8 + (x0_9.toUInt32 >>> ((1 : Int32).toUInt32 &&& (31 : Int32).toUInt32)).toInt32).toInt = t ∧ -2147483648 ≤ t ∧ t ≤ 2147483647 := ⟨_, rfl, tI_rng _⟩
            exact ok_ret trivial
        · rw [fa_le] at c_63
          obtain ⟨t_71, ht_71, g_71⟩ : ∃ t : Int, (x1_14 + 4).toInt = t ∧ t = x1_14.toInt + (4 : Int32).toInt := ⟨_, rfl, by have h9 := fb_addI (x := x1_14) (y := (4 : Int32)) (by omega) (by omega); exact h9⟩
          refine ok_lt fun x1_11 e_x1_11 => ?_
          have q_x1_11 : x1_11.toInt = t_71 := by rw [e_x1_11]; exact ht_71
          obtain ⟨t_72, ht_72, g_72⟩ : ∃ t : Int, ((x0_15.toUInt32 >>> ((4 : Int32).toUInt32 &&& (31 : Int32).toUInt32)).toInt32).toInt = t ∧ -2147483648 ≤ t ∧ t ≤ 2147483647 := ⟨_, rfl, tI_rng _⟩
          refine ok_lt fun x0_12 e_x0_12 => ?_
          have q_x0_12 : x0_12.toInt = t_72 := by rw [e_x0_12]; exact ht_72
          refine ok_jn ?_
          refine ok_ite (fun c_73 => ?_) (fun c_73 => ?_)
          · rw [fa_le] at c_73
            obtain ⟨t_74, ht_74, g_74⟩ : ∃ t : Int, ((x0_12.toUInt32 >>> ((1 : Int32).toUInt32 &&& (31 : Int32).toUInt32)).toInt32).toInt = t ∧ -2147483648 ≤ t ∧ t ≤ 2147483647 := ⟨_, rfl, tI_rng _⟩
            obtain ⟨t_75, ht_75, g_75⟩ : ∃ t : Int, (x1_11 + (x0_12.toUInt32 >>> ((1 : Int32).toUInt32 &&& (31 : Int32).toUInt32)).toInt32).toInt = t ∧ -2147483648 ≤ t ∧ t ≤ 2147483647 := ⟨_, rfl, tI_rng _⟩
            exact ok_ret trivial
          · rw [fa_le] at c_73
            obtain ⟨t_76, ht_76, g_76⟩ : ∃ t : Int, (x1_11 + 2).toInt = t ∧ t = x1_11.toInt + (2 : Int32).toInt := ⟨_, rfl, by have h9 := fb_addI (x := x1_11) (y := (2 : Int32)) (by omega) (by omega); exact h9⟩
            refine ok_lt fun x1_8 e_x1_8 => ?_
            have q_x1_8 : x1_8.toInt = t_76 := by rw [e_x1_8]; exact ht_76
            obtain ⟨t_77, ht_77, g_77⟩ : ∃ t : Int, ((x0_12.toUInt32 >>> ((2 : Int32).toUInt32 &&& (31 : Int32).toUInt32)).toInt32).toInt = t ∧ -2147483648 ≤ t ∧ t ≤ 2147483647 := ⟨_, rfl, tI_rng _⟩
            refine ok_lt fun x0_9 e_x0_9 => ?_
            have q_x0_9 : x0_9.toInt = t_77 := by rw [e_x0_9]; exact ht_77
            obtain ⟨t_78, ht_78, g_78⟩ : ∃ t : Int, ((x0_9.toUInt32 >>> ((1 : Int32).toUInt32 &&& (31 : Int32).toUInt32)).toInt32).toInt = t ∧ -2147483648 ≤ t ∧ t ≤ 2147483647 := ⟨_, rfl, tI_rng _⟩
            obtain ⟨t_79, ht_79, g_79⟩ : ∃ t : Int, (x1_8 + (x0_9.toUInt32 >>> ((1 : Int32).toUInt32 &&& (31 : Int32).toUInt32)).toInt32).toInt = t ∧ -2147483648 ≤ t ∧ t ≤ 2147483647 := ⟨_, rfl, tI_rng _⟩
            exact ok_ret trivial
  · rw [fa_lt] at c_2
    obtain ⟨t_80, ht_80, g_80⟩ : ∃ t : Int, (x0_1 &&& 32).toInt = t ∧ 0 ≤ t ∧ t ≤ 32 := ⟨_, rfl, and_rng (x := x0_1) 32 rfl (by decide)⟩
    exact ok_ret trivial

set_option maxHeartbeats 4000000 in
theorem s_J13_numberOfTrailingZeros_95d88 {x1 : Int64} : OK (f_J13_numberOfTrailingZeros_95d88 x1) (fun v => True) := by
  unfold f_J13_numberOfTrailingZeros_95d88
  have k_0 : (0 : Int32).toInt = 0 := by decide +kernel
  have k_32 : (32 : Int32).toInt = 32 := by decide +kernel
  obtain ⟨t_1, ht_1, g_1⟩ : ∃ t : Int, (x1.toInt32).toInt = t ∧ -2147483648 ≤ t ∧ t ≤ 2147483647 := ⟨_, rfl, tI_rng _⟩
  refine ok_lt fun x2_1 e_x2_1 => ?_
  have q_x2_1 : x2_1.toInt = t_1 := by rw [e_x2_1]; exact ht_1
  refine ok_ite (fun c_2 => ?_) (fun c_2 => ?_)
  · rw [fa_eq] at c_2
    obtain ⟨t_3, ht_3, g_3⟩ : ∃ t : Int, (((x1.toUInt64 >>> (((32 : Int32).toInt64).toUInt64 &&& (63 : Int64).toUInt64)).toInt64).toInt32).toInt = t ∧ -2147483648 ≤ t ∧ t ≤ 2147483647 := ⟨_, rfl, tI_rng _⟩
    refine ok_calp (s_J6_numberOfTrailingZeros_0f7a4 (x1 := ((x1.toUInt64 >>> (((32 : Int32).toInt64).toUInt64 &&& (63 : Int64).toUInt64)).toInt64).toInt32) ) (fun v_3 h_4 => ?_)
    have b_v_3 := h_4
    (try dsimp only at b_v_3)
    obtain ⟨t_5, ht_5, g_5⟩ : ∃ t : Int, ((32 : Int32) + v_3).toInt = t ∧ -2147483648 ≤ t ∧ t ≤ 2147483647 := ⟨_, rfl, tI_rng _⟩
    exact ok_ret trivial
  · rw [fa_eq] at c_2
    refine ok_calp (s_J6_numberOfTrailingZeros_0f7a4 (x1 := x2_1) ) (fun v_4 h_6 => ?_)
    have b_v_4 := h_6
    (try dsimp only at b_v_4)
    exact ok_ret trivial

theorem s_X8_sharedBefore {x1 : Int32} {σ : Sto} (hB : BX σ) (p_x1 : 0 ≤ x1.toInt ∧ x1.toInt ≤ 39) : OK (f_X8_sharedBefore x1 σ) (fun v => True) := sorry
set_option maxHeartbeats 4000000 in
theorem s_X8_findDominators {σ : Sto} (hB : BX σ) : OK (f_X8_findDominators σ) (fun s => BX s ∧ FR [] [1, 5] σ s) := by
  unfold f_X8_findDominators
  have hF : FR [] [1, 5] σ σ := FR.rf
  have k_0 : (0 : Int32).toInt = 0 := by decide +kernel
  have k_1 : (1 : Int32).toInt = 1 := by decide +kernel
  have k_1000000 : (1000000 : Int32).toInt = 1000000 := by decide +kernel
  refine ok_itr2 (fun (n : Nat) (x1_1 : Int32) (s_1 : Sto) => n = (41 - x1_1.toInt).toNat ∧ (0 ≤ x1_1.toInt ∧ x1_1.toInt ≤ 40) ∧ (BX s_1) ∧ (FR [] [1, 5] σ s_1)) ?_ (n := _) ⟨rfl, (by omega), hB, hF⟩ (show _ < 10000000 by omega)
  intro a_2 n x1_1 s_1 hI ih_a_2
  obtain ⟨hn_a_2, b_x1_1, hB_s_1, hF_s_1⟩ := hI
  have g_2 := gX_20 hB_s_1 0
  have g_3 : (s_1.1 20 0).toInt = (σ.1 20 0).toInt := by rw [hF_s_1.1 20 (by decide)]
  have g_4 := gX_20 hB 0
  refine ok_ite (fun c_1 => ?_) (fun c_1 => ?_)
  · rw [fa_le] at c_1
    refine ok_itr2 (fun (n : Nat) (x1_3 : Int32) (s_3 : Sto) => n = (121 - x1_3.toInt).toNat ∧ (0 ≤ x1_3.toInt ∧ x1_3.toInt ≤ 120) ∧ (BX s_3) ∧ (FR [] [1, 5] σ s_3)) ?_ (n := _) ⟨rfl, (by omega), hB_s_1, hF_s_1⟩ (show _ < 10000000 by omega)
    intro a_45 n x1_3 s_3 hI ih_a_45
    obtain ⟨hn_a_45, b_x1_3, hB_s_3, hF_s_3⟩ := hI
    have g_6 := gX_27 hB_s_3 0
    have g_7 : (s_3.1 27 0).toInt = (σ.1 27 0).toInt := by rw [hF_s_3.1 27 (by decide)]
    have g_8 := gX_27 hB 0
    refine ok_ite (fun c_5 => ?_) (fun c_5 => ?_)
    · rw [fa_le] at c_5
      refine ok_ix ⟨by omega, by omega⟩ ?_
      refine ok_lt fun s_5 e_s_5 => ?_
      have hB_s_5 : BX s_5 := by rw [e_s_5]; exact BD.stl hB_s_3
      have hF_s_5 : FR [] [1, 5] σ s_5 := by rw [e_s_5]; exact FR.stl hF_s_3 (by decide)
      refine ok_itr3 (fun (n : Nat) (x1_6 : Int32) (x2_6 : Int32) (s_6 : Sto) => n = (1000001 - x2_6.toInt).toNat ∧ (0 ≤ x1_6.toInt ∧ x1_6.toInt ≤ 1) ∧ (0 ≤ x2_6.toInt ∧ x2_6.toInt ≤ 1000000) ∧ (BX s_6) ∧ (FR [] [1, 5] σ s_6)) ?_ (n := _) ⟨rfl, (by omega), (by omega), hB_s_5, hF_s_5⟩ (show _ < 10000000 by omega)
      intro a_110 n x1_6 x2_6 s_6 hI ih_a_110
      obtain ⟨hn_a_110, b_x1_6, b_x2_6, hB_s_6, hF_s_6⟩ := hI
      refine ok_ite (fun c_9 => ?_) (fun c_9 => ?_)
      · rw [fa_le] at c_9
        exact ok_ret ⟨hB_s_6, hF_s_6⟩
      · rw [fa_le] at c_9
        refine ok_ite (fun c_10 => ?_) (fun c_10 => ?_)
        · rw [fa_eq] at c_10
          exact ok_ret ⟨hB_s_6, hF_s_6⟩
        · rw [fa_eq] at c_10
          refine ok_itr3 (fun (n : Nat) (x1_9 : Int32) (x3_9 : Int32) (s_9 : Sto) => n = (41 - x3_9.toInt).toNat ∧ (0 ≤ x1_9.toInt ∧ x1_9.toInt ≤ 1) ∧ (1 ≤ x3_9.toInt ∧ x3_9.toInt ≤ 40) ∧ (BX s_9) ∧ (FR [] [1, 5] σ s_9)) ?_ (n := _) ⟨rfl, (by omega), (by omega), hB_s_6, hF_s_6⟩ (show _ < 10000000 by omega)
          intro a_124 n x1_9 x3_9 s_9 hI ih_a_124
          obtain ⟨hn_a_124, b_x1_9, b_x3_9, hB_s_9, hF_s_9⟩ := hI
          have g_12 := gX_20 hB_s_9 0
          have g_13 : (s_9.1 20 0).toInt = (σ.1 20 0).toInt := by rw [hF_s_9.1 20 (by decide)]
          refine ok_ite (fun c_11 => ?_) (fun c_11 => ?_)
          · rw [fa_le] at c_11
            obtain ⟨t_14, ht_14, g_14⟩ : ∃ t : Int, (x2_6 + 1).toInt = t ∧ t = x2_6.toInt + (1 : Int32).toInt := ⟨_, rfl, by have h9 := fb_addI (x := x2_6) (y := (1 : Int32)) (by omega) (by omega); exact h9⟩
            refine ok_lt fun x2_11 e_x2_11 => ?_
            have q_x2_11 : x2_11.toInt = t_14 := by rw [e_x2_11]; exact ht_14
            exact ih_a_110 _ x1_9 x2_11 s_9 (by rw [hn_a_110]; omega) ⟨rfl, (by omega), (by omega), hB_s_9, hF_s_9⟩
          · rw [fa_le] at c_11
            refine ok_ix ⟨by omega, by omega⟩ ?_
            have g_15 := gX_39 hB_s_9 (x3_9.toNatClampNeg)
            refine ok_lt fun v_12 e_v_12 => ?_
            have b_v_12 : 0 ≤ v_12.toInt ∧ v_12.toInt ≤ 39 := by rw [e_v_12]; exact gX_39 hB_s_9 _
            refine ok_calp (s_X8_sharedBefore (x1 := v_12) (σ := s_9) hB_s_9 (by omega)) (fun v_13 h_16 => ?_)
            refine ok_lt fun x5_14 e_x5_14 => ?_
            refine ok_jn ?_
            refine ok_jn ?_
            refine ok_ite (fun c_17 => ?_) (fun c_17 => ?_)
            · rw [fa_eq] at c_17
              refine ok_ix ⟨by omega, by omega⟩ ?_
              refine ok_lt fun v_20 e_v_20 => ?_
              obtain ⟨t_19, ht_19, g_19⟩ : ∃ t : Int, (lg_cmp x5_14 v_20).toInt = t ∧ -2147483648 ≤ t ∧ t ≤ 2147483647 := ⟨_, rfl, tI_rng _⟩
              refine ok_ite (fun c_18 => ?_) (fun c_18 => ?_)
              · rw [lg_cmp_eq] at c_18
                refine ok_ix ⟨by omega, by omega⟩ ?_
                refine ok_lt fun s_16 e_s_16 => ?_
                have hB_s_16 : BX s_16 := by rw [e_s_16]; exact BD.stl hB_s_9
                have hF_s_16 : FR [] [1, 5] σ s_16 := by rw [e_s_16]; exact FR.stl hF_s_9 (by decide)
                obtain ⟨t_20, ht_20, g_20⟩ : ∃ t : Int, (x3_9 + 1).toInt = t ∧ t = x3_9.toInt + (1 : Int32).toInt := ⟨_, rfl, by have h9 := fb_addI (x := x3_9) (y := (1 : Int32)) (by omega) (by omega); exact h9⟩
                refine ok_lt fun x3_17 e_x3_17 => ?_
                have q_x3_17 : x3_17.toInt = t_20 := by rw [e_x3_17]; exact ht_20
                exact ih_a_124 _ (0 : Int32) x3_17 s_16 (by rw [hn_a_124]; omega) ⟨rfl, (by omega), (by omega), hB_s_16, hF_s_16⟩
              · rw [lg_cmp_eq] at c_18
                refine ok_ix ⟨by omega, by omega⟩ ?_
                refine ok_lt fun s_16 e_s_16 => ?_
                have hB_s_16 : BX s_16 := by rw [e_s_16]; exact BD.stl hB_s_9
                have hF_s_16 : FR [] [1, 5] σ s_16 := by rw [e_s_16]; exact FR.stl hF_s_9 (by decide)
                obtain ⟨t_21, ht_21, g_21⟩ : ∃ t : Int, (x3_9 + 1).toInt = t ∧ t = x3_9.toInt + (1 : Int32).toInt := ⟨_, rfl, by have h9 := fb_addI (x := x3_9) (y := (1 : Int32)) (by omega) (by omega); exact h9⟩
                refine ok_lt fun x3_17 e_x3_17 => ?_
                have q_x3_17 : x3_17.toInt = t_21 := by rw [e_x3_17]; exact ht_21
                exact ih_a_124 _ (1 : Int32) x3_17 s_16 (by rw [hn_a_124]; omega) ⟨rfl, (by omega), (by omega), hB_s_16, hF_s_16⟩
            · rw [fa_eq] at c_17
              refine ok_ix ⟨by omega, by omega⟩ ?_
              refine ok_lt fun s_16 e_s_16 => ?_
              have hB_s_16 : BX s_16 := by rw [e_s_16]; exact BD.stl hB_s_9
              have hF_s_16 : FR [] [1, 5] σ s_16 := by rw [e_s_16]; exact FR.stl hF_s_9 (by decide)
              obtain ⟨t_22, ht_22, g_22⟩ : ∃ t : Int, (x3_9 + 1).toInt = t ∧ t = x3_9.toInt + (1 : Int32).toInt := ⟨_, rfl, by have h9 := fb_addI (x := x3_9) (y := (1 : Int32)) (by omega) (by omega); exact h9⟩
              refine ok_lt fun x3_17 e_x3_17 => ?_
              have q_x3_17 : x3_17.toInt = t_22 := by rw [e_x3_17]; exact ht_22
              exact ih_a_124 _ (1 : Int32) x3_17 s_16 (by rw [hn_a_124]; omega) ⟨rfl, (by omega), (by omega), hB_s_16, hF_s_16⟩
    · rw [fa_le] at c_5
      refine ok_ix ⟨by omega, by omega⟩ ?_
      have g_23 := gX_37 hB_s_3 (x1_3.toNatClampNeg)
      refine ok_lt fun v_22 e_v_22 => ?_
      have b_v_22 : 0 ≤ v_22.toInt ∧ v_22.toInt ≤ 1 := by rw [e_v_22]; exact gX_37 hB_s_3 _
      refine ok_jn ?_
      refine ok_ite (fun c_24 => ?_) (fun c_24 => ?_)
      · rw [fa_eq] at c_24
        refine ok_ix ⟨by omega, by omega⟩ ?_
        have g_25 := gX_30 hB_s_3 (x1_3.toNatClampNeg)
        refine ok_lt fun v_26 e_v_26 => ?_
        have b_v_26 : 0 ≤ v_26.toInt ∧ v_26.toInt ≤ 39 := by rw [e_v_26]; exact gX_30 hB_s_3 _
        refine ok_ix ⟨by omega, by omega⟩ ?_
        refine ok_lt fun v_27 e_v_27 => ?_
        refine ok_ix ⟨by omega, by omega⟩ ?_
        have g_26 := gX_29 hB_s_3 (x1_3.toNatClampNeg)
        refine ok_lt fun v_28 e_v_28 => ?_
        have b_v_28 : 0 ≤ v_28.toInt ∧ v_28.toInt ≤ 39 := by rw [e_v_28]; exact gX_29 hB_s_3 _
        refine ok_ix ⟨by omega, by omega⟩ ?_
        refine ok_lt fun s_29 e_s_29 => ?_
        have hB_s_29 : BX s_29 := by rw [e_s_29]; exact BD.stl hB_s_3
        have hF_s_29 : FR [] [1, 5] σ s_29 := by rw [e_s_29]; exact FR.stl hF_s_3 (by decide)
        obtain ⟨t_27, ht_27, g_27⟩ : ∃ t : Int, (x1_3 + 1).toInt = t ∧ t = x1_3.toInt + (1 : Int32).toInt := ⟨_, rfl, by have h9 := fb_addI (x := x1_3) (y := (1 : Int32)) (by omega) (by omega); exact h9⟩
        refine ok_lt fun x1_24 e_x1_24 => ?_
        have q_x1_24 : x1_24.toInt = t_27 := by rw [e_x1_24]; exact ht_27
        exact ih_a_45 _ x1_24 s_29 (by rw [hn_a_45]; omega) ⟨rfl, (by omega), hB_s_29, hF_s_29⟩
      · rw [fa_eq] at c_24
        obtain ⟨t_28, ht_28, g_28⟩ : ∃ t : Int, (x1_3 + 1).toInt = t ∧ t = x1_3.toInt + (1 : Int32).toInt := ⟨_, rfl, by have h9 := fb_addI (x := x1_3) (y := (1 : Int32)) (by omega) (by omega); exact h9⟩
        refine ok_lt fun x1_24 e_x1_24 => ?_
        have q_x1_24 : x1_24.toInt = t_28 := by rw [e_x1_24]; exact ht_28
        exact ih_a_45 _ x1_24 s_3 (by rw [hn_a_45]; omega) ⟨rfl, (by omega), hB_s_3, hF_s_3⟩
  · rw [fa_le] at c_1
    refine ok_ix ⟨by omega, by omega⟩ ?_
    refine ok_lt fun s_30 e_s_30 => ?_
    have hB_s_30 : BX s_30 := by rw [e_s_30]; exact BD.stl hB_s_1
    have hF_s_30 : FR [] [1, 5] σ s_30 := by rw [e_s_30]; exact FR.stl hF_s_1 (by decide)
    refine ok_ix ⟨by omega, by omega⟩ ?_
    refine ok_lt fun s_31 e_s_31 => ?_
    have hB_s_31 : BX s_31 := by rw [e_s_31]; exact BD.stl hB_s_30
    have hF_s_31 : FR [] [1, 5] σ s_31 := by rw [e_s_31]; exact FR.stl hF_s_30 (by decide)
    obtain ⟨t_29, ht_29, g_29⟩ : ∃ t : Int, (x1_1 + 1).toInt = t ∧ t = x1_1.toInt + (1 : Int32).toInt := ⟨_, rfl, by have h9 := fb_addI (x := x1_1) (y := (1 : Int32)) (by omega) (by omega); exact h9⟩
    refine ok_lt fun x1_32 e_x1_32 => ?_
    have q_x1_32 : x1_32.toInt = t_29 := by rw [e_x1_32]; exact ht_29
    exact ih_a_2 _ x1_32 s_31 (by rw [hn_a_2]; omega) ⟨rfl, (by omega), hB_s_31, hF_s_31⟩

set_option maxHeartbeats 4000000 in
theorem s_X8_isBack {x1 : Int32} {σ : Sto} (hB : BX σ) (p_x1 : 0 ≤ x1.toInt ∧ x1.toInt ≤ 119) : OK (f_X8_isBack x1 σ) (fun v => (0 ≤ v.toInt ∧ v.toInt ≤ 1)) := by
  unfold f_X8_isBack
  have hF : FR [] [] σ σ := FR.rf
  have k_0 : (0 : Int32).toInt = 0 := by decide +kernel
  have k_1 : (1 : Int32).toInt = 1 := by decide +kernel
  refine ok_ix ⟨by omega, by omega⟩ ?_
  have g_1 := gX_29 hB (x1.toNatClampNeg)
  refine ok_lt fun v_1 e_v_1 => ?_
  have b_v_1 : 0 ≤ v_1.toInt ∧ v_1.toInt ≤ 39 := by rw [e_v_1]; exact gX_29 hB _
  refine ok_ix ⟨by omega, by omega⟩ ?_
  refine ok_lt fun v_2 e_v_2 => ?_
  refine ok_ix ⟨by omega, by omega⟩ ?_
  have g_2 := gX_30 hB (x1.toNatClampNeg)
  refine ok_lt fun v_3 e_v_3 => ?_
  have b_v_3 : 0 ≤ v_3.toInt ∧ v_3.toInt ≤ 39 := by rw [e_v_3]; exact gX_30 hB _
  refine ok_calp (s_X11_isIn (x1 := v_2) (x2 := v_3) ) (fun v_4 h_3 => ?_)
  have b_v_4 := h_3
  (try dsimp only at b_v_4)
  refine ok_bz (by rw [fa_eq, fa_eq]; omega) ?_
  exact ok_ret (by (try dsimp only); omega)

set_option maxHeartbeats 4000000 in
theorem s_X8_isReducedNow {σ : Sto} (hB : BX σ) : OK (f_X8_isReducedNow σ) (fun r => (0 ≤ r.1.toInt ∧ r.1.toInt ≤ 1) ∧ BX r.2 ∧ FR [39, 40, 42, 43] [1, 5] σ r.2) := by
  unfold f_X8_isReducedNow
  have hF : FR [39, 40, 42, 43] [1, 5] σ σ := FR.rf
  have k_0 : (0 : Int32).toInt = 0 := by decide +kernel
  have k_1 : (1 : Int32).toInt = 1 := by decide +kernel
  refine ok_calv (s_X8_allAreComeTo  (σ := σ) hB) (fun v_1 s_1 h_1 => ?_)
  obtain ⟨b_v_1, hB_s_1, hG_s_1⟩ := h_1
  (try dsimp only at b_v_1 hB_s_1 hG_s_1)
  have hF_s_1 : FR [39, 40, 42, 43] [1, 5] σ s_1 := FR.cal hF hG_s_1 rfl rfl
  refine ok_ite (fun c_2 => ?_) (fun c_2 => ?_)
  · rw [fa_eq] at c_2
    exact ok_ret ⟨(by (try dsimp only); omega), hB_s_1, hF_s_1⟩
  · rw [fa_eq] at c_2
    refine ok_cals (s_X8_findDominators  (σ := s_1) hB_s_1) (fun s_3 h_3 => ?_)
    obtain ⟨hB_s_3, hG_s_3⟩ := h_3
    (try dsimp only at hB_s_3 hG_s_3)
    have hF_s_3 : FR [39, 40, 42, 43] [1, 5] σ s_3 := FR.cal hF_s_1 hG_s_3 rfl rfl
    refine ok_itr1 (fun (n : Nat) (x1_4 : Int32) => n = (121 - x1_4.toInt).toNat ∧ (0 ≤ x1_4.toInt ∧ x1_4.toInt ≤ 120)) ?_ (n := _) ⟨rfl, (by omega)⟩ (show _ < 10000000 by omega)
    intro a_15 n x1_4 hI ih_a_15
    obtain ⟨hn_a_15, b_x1_4⟩ := hI
    have g_5 := gX_27 hB_s_3 0
    have g_6 : (s_3.1 27 0).toInt = (σ.1 27 0).toInt := by rw [hF_s_3.1 27 (by decide)]
    have g_7 := gX_27 hB 0
    refine ok_ite (fun c_4 => ?_) (fun c_4 => ?_)
    · rw [fa_le] at c_4
      exact ok_ret ⟨(by (try dsimp only); omega), hB_s_3, hF_s_3⟩
    · rw [fa_le] at c_4
      refine ok_ix ⟨by omega, by omega⟩ ?_
      have g_8 := gX_30 hB_s_3 (x1_4.toNatClampNeg)
      refine ok_lt fun v_6 e_v_6 => ?_
      have b_v_6 : 0 ≤ v_6.toInt ∧ v_6.toInt ≤ 39 := by rw [e_v_6]; exact gX_30 hB_s_3 _
      refine ok_ix ⟨by omega, by omega⟩ ?_
      have g_9 := gX_40 hB_s_3 (v_6.toNatClampNeg)
      refine ok_lt fun v_7 e_v_7 => ?_
      have b_v_7 : 0 ≤ v_7.toInt ∧ v_7.toInt ≤ 39 := by rw [e_v_7]; exact gX_40 hB_s_3 _
      refine ok_ix ⟨by omega, by omega⟩ ?_
      have g_10 := gX_29 hB_s_3 (x1_4.toNatClampNeg)
      refine ok_lt fun v_8 e_v_8 => ?_
      have b_v_8 : 0 ≤ v_8.toInt ∧ v_8.toInt ≤ 39 := by rw [e_v_8]; exact gX_29 hB_s_3 _
      refine ok_ix ⟨by omega, by omega⟩ ?_
      have g_11 := gX_40 hB_s_3 (v_8.toNatClampNeg)
      refine ok_lt fun v_9 e_v_9 => ?_
      have b_v_9 : 0 ≤ v_9.toInt ∧ v_9.toInt ≤ 39 := by rw [e_v_9]; exact gX_40 hB_s_3 _
      refine ok_jn ?_
      refine ok_ite (fun c_12 => ?_) (fun c_12 => ?_)
      · rw [fa_lt] at c_12
        refine ok_ix ⟨by omega, by omega⟩ ?_
        have g_13 := gX_37 hB_s_3 (x1_4.toNatClampNeg)
        refine ok_lt fun v_11 e_v_11 => ?_
        have b_v_11 : 0 ≤ v_11.toInt ∧ v_11.toInt ≤ 1 := by rw [e_v_11]; exact gX_37 hB_s_3 _
        refine ok_jn ?_
        refine ok_ite (fun c_14 => ?_) (fun c_14 => ?_)
        · rw [fa_eq] at c_14
          refine ok_ite (fun c_15 => ?_) (fun c_15 => ?_)
          · rw [fa_eq] at c_15
            obtain ⟨t_16, ht_16, g_16⟩ : ∃ t : Int, (x1_4 + 1).toInt = t ∧ t = x1_4.toInt + (1 : Int32).toInt := ⟨_, rfl, by have h9 := fb_addI (x := x1_4) (y := (1 : Int32)) (by omega) (by omega); exact h9⟩
            refine ok_lt fun x1_13 e_x1_13 => ?_
            have q_x1_13 : x1_13.toInt = t_16 := by rw [e_x1_13]; exact ht_16
            exact ih_a_15 _ x1_13 (by rw [hn_a_15]; omega) ⟨rfl, (by omega)⟩
          · rw [fa_eq] at c_15
            exfalso; omega
        · rw [fa_eq] at c_14
          obtain ⟨t_17, ht_17, g_17⟩ : ∃ t : Int, (x1_4 + 1).toInt = t ∧ t = x1_4.toInt + (1 : Int32).toInt := ⟨_, rfl, by have h9 := fb_addI (x := x1_4) (y := (1 : Int32)) (by omega) (by omega); exact h9⟩
          refine ok_lt fun x1_13 e_x1_13 => ?_
          have q_x1_13 : x1_13.toInt = t_17 := by rw [e_x1_13]; exact ht_17
          exact ih_a_15 _ x1_13 (by rw [hn_a_15]; omega) ⟨rfl, (by omega)⟩
      · rw [fa_lt] at c_12
        refine ok_ix ⟨by omega, by omega⟩ ?_
        have g_18 := gX_37 hB_s_3 (x1_4.toNatClampNeg)
        refine ok_lt fun v_11 e_v_11 => ?_
        have b_v_11 : 0 ≤ v_11.toInt ∧ v_11.toInt ≤ 1 := by rw [e_v_11]; exact gX_37 hB_s_3 _
        refine ok_jn ?_
        refine ok_ite (fun c_19 => ?_) (fun c_19 => ?_)
        · rw [fa_eq] at c_19
          refine ok_ite (fun c_20 => ?_) (fun c_20 => ?_)
          · rw [fa_eq] at c_20
            exfalso; omega
          · rw [fa_eq] at c_20
            refine ok_calp (s_X8_isBack (x1 := x1_4) (σ := s_3) hB_s_3 (by omega)) (fun v_16 h_21 => ?_)
            have b_v_16 := h_21
            (try dsimp only at b_v_16)
            refine ok_ite (fun c_22 => ?_) (fun c_22 => ?_)
            · rw [fa_eq] at c_22
              exact ok_ret ⟨(by (try dsimp only); omega), hB_s_3, hF_s_3⟩
            · rw [fa_eq] at c_22
              obtain ⟨t_23, ht_23, g_23⟩ : ∃ t : Int, (x1_4 + 1).toInt = t ∧ t = x1_4.toInt + (1 : Int32).toInt := ⟨_, rfl, by have h9 := fb_addI (x := x1_4) (y := (1 : Int32)) (by omega) (by omega); exact h9⟩
              refine ok_lt fun x1_13 e_x1_13 => ?_
              have q_x1_13 : x1_13.toInt = t_23 := by rw [e_x1_13]; exact ht_23
              exact ih_a_15 _ x1_13 (by rw [hn_a_15]; omega) ⟨rfl, (by omega)⟩
        · rw [fa_eq] at c_19
          obtain ⟨t_24, ht_24, g_24⟩ : ∃ t : Int, (x1_4 + 1).toInt = t ∧ t = x1_4.toInt + (1 : Int32).toInt := ⟨_, rfl, by have h9 := fb_addI (x := x1_4) (y := (1 : Int32)) (by omega) (by omega); exact h9⟩
          refine ok_lt fun x1_13 e_x1_13 => ?_
          have q_x1_13 : x1_13.toInt = t_24 := by rw [e_x1_13]; exact ht_24
          exact ih_a_15 _ x1_13 (by rw [hn_a_15]; omega) ⟨rfl, (by omega)⟩

set_option maxHeartbeats 4000000 in
theorem s_X8_findAbove {σ : Sto} (hB : BX σ) : OK (f_X8_findAbove σ) (fun s => BX s ∧ FR [41] [] σ s) := by
  unfold f_X8_findAbove
  have hF : FR [41] [] σ σ := FR.rf
  have k_m1 : ((-1) : Int32).toInt = -1 := by decide +kernel
  have k_0 : (0 : Int32).toInt = 0 := by decide +kernel
  have k_1 : (1 : Int32).toInt = 1 := by decide +kernel
  refine ok_itr2 (fun (n : Nat) (x1_1 : Int32) (s_1 : Sto) => n = (41 - x1_1.toInt).toNat ∧ (0 ≤ x1_1.toInt ∧ x1_1.toInt ≤ 40) ∧ (BX s_1) ∧ (FR [41] [] σ s_1)) ?_ (n := _) ⟨rfl, (by omega), hB, hF⟩ (show _ < 10000000 by omega)
  intro a_2 n x1_1 s_1 hI ih_a_2
  obtain ⟨hn_a_2, b_x1_1, hB_s_1, hF_s_1⟩ := hI
  have g_2 := gX_20 hB_s_1 0
  have g_3 : (s_1.1 20 0).toInt = (σ.1 20 0).toInt := by rw [hF_s_1.1 20 (by decide)]
  have g_4 := gX_20 hB 0
  refine ok_ite (fun c_1 => ?_) (fun c_1 => ?_)
  · rw [fa_le] at c_1
    exact ok_ret ⟨hB_s_1, hF_s_1⟩
  · rw [fa_le] at c_1
    refine ok_ix ⟨by omega, by omega⟩ ?_
    refine ok_lt fun s_3 e_s_3 => ?_
    have hB_s_3 : BX s_3 := by rw [e_s_3]; exact pX_41 hB_s_1 (by omega)
    have hF_s_3 : FR [41] [] σ s_3 := by rw [e_s_3]; exact FR.st hF_s_1 (by decide)
    refine ok_ix ⟨by omega, by omega⟩ ?_
    refine ok_lt fun v_4 e_v_4 => ?_
    refine ok_calp (s_J13_bitCount_95d88 (x1 := v_4) ) (fun v_5 h_5 => ?_)
    have b_v_5 := h_5
    (try dsimp only at b_v_5)
    obtain ⟨t_6, ht_6, g_6⟩ : ∃ t : Int, (v_5 - 1).toInt = t ∧ t = v_5.toInt - (1 : Int32).toInt := ⟨_, rfl, by have h9 := fb_subI (x := v_5) (y := (1 : Int32)) (by omega) (by omega); exact h9⟩
    refine ok_lt fun x2_6 e_x2_6 => ?_
    have q_x2_6 : x2_6.toInt = t_6 := by rw [e_x2_6]; exact ht_6
    refine ok_itr2 (fun (n : Nat) (x3_7 : Int32) (s_7 : Sto) => n = (41 - x3_7.toInt).toNat ∧ (0 ≤ x3_7.toInt ∧ x3_7.toInt ≤ 40) ∧ (BX s_7) ∧ (FR [41] [] σ s_7)) ?_ (n := _) ⟨rfl, (by omega), hB_s_3, hF_s_3⟩ (show _ < 10000000 by omega)
    intro a_34 n x3_7 s_7 hI ih_a_34
    obtain ⟨hn_a_34, b_x3_7, hB_s_7, hF_s_7⟩ := hI
    have g_8 := gX_20 hB_s_7 0
    have g_9 : (s_7.1 20 0).toInt = (σ.1 20 0).toInt := by rw [hF_s_7.1 20 (by decide)]
    refine ok_ite (fun c_7 => ?_) (fun c_7 => ?_)
    · rw [fa_le] at c_7
      obtain ⟨t_10, ht_10, g_10⟩ : ∃ t : Int, (x1_1 + 1).toInt = t ∧ t = x1_1.toInt + (1 : Int32).toInt := ⟨_, rfl, by have h9 := fb_addI (x := x1_1) (y := (1 : Int32)) (by omega) (by omega); exact h9⟩
      refine ok_lt fun x1_9 e_x1_9 => ?_
      have q_x1_9 : x1_9.toInt = t_10 := by rw [e_x1_9]; exact ht_10
      exact ih_a_2 _ x1_9 s_7 (by rw [hn_a_2]; omega) ⟨rfl, (by omega), hB_s_7, hF_s_7⟩
    · rw [fa_le] at c_7
      refine ok_jn ?_
      refine ok_ite (fun c_11 => ?_) (fun c_11 => ?_)
      · rw [fa_eq] at c_11
        obtain ⟨t_12, ht_12, g_12⟩ : ∃ t : Int, (x3_7 + 1).toInt = t ∧ t = x3_7.toInt + (1 : Int32).toInt := ⟨_, rfl, by have h9 := fb_addI (x := x3_7) (y := (1 : Int32)) (by omega) (by omega); exact h9⟩
        refine ok_lt fun x3_11 e_x3_11 => ?_
        have q_x3_11 : x3_11.toInt = t_12 := by rw [e_x3_11]; exact ht_12
        exact ih_a_34 _ x3_11 s_7 (by rw [hn_a_34]; omega) ⟨rfl, (by omega), hB_s_7, hF_s_7⟩
      · rw [fa_eq] at c_11
        refine ok_ix ⟨by omega, by omega⟩ ?_
        refine ok_lt fun v_13 e_v_13 => ?_
        refine ok_calp (s_X11_isIn (x1 := v_13) (x2 := x3_7) ) (fun v_14 h_13 => ?_)
        have b_v_14 := h_13
        (try dsimp only at b_v_14)
        refine ok_ite (fun c_14 => ?_) (fun c_14 => ?_)
        · rw [fa_eq] at c_14
          obtain ⟨t_15, ht_15, g_15⟩ : ∃ t : Int, (x3_7 + 1).toInt = t ∧ t = x3_7.toInt + (1 : Int32).toInt := ⟨_, rfl, by have h9 := fb_addI (x := x3_7) (y := (1 : Int32)) (by omega) (by omega); exact h9⟩
          refine ok_lt fun x3_11 e_x3_11 => ?_
          have q_x3_11 : x3_11.toInt = t_15 := by rw [e_x3_11]; exact ht_15
          exact ih_a_34 _ x3_11 s_7 (by rw [hn_a_34]; omega) ⟨rfl, (by omega), hB_s_7, hF_s_7⟩
        · rw [fa_eq] at c_14
          refine ok_ix ⟨by omega, by omega⟩ ?_
          refine ok_lt fun v_16 e_v_16 => ?_
          refine ok_calp (s_J13_bitCount_95d88 (x1 := v_16) ) (fun v_17 h_16 => ?_)
          have b_v_17 := h_16
          (try dsimp only at b_v_17)
          refine ok_ite (fun c_17 => ?_) (fun c_17 => ?_)
          · rw [fa_eq] at c_17
            refine ok_ix ⟨by omega, by omega⟩ ?_
            refine ok_lt fun s_19 e_s_19 => ?_
            have hB_s_19 : BX s_19 := by rw [e_s_19]; exact pX_41 hB_s_7 (by omega)
            have hF_s_19 : FR [41] [] σ s_19 := by rw [e_s_19]; exact FR.st hF_s_7 (by decide)
            obtain ⟨t_18, ht_18, g_18⟩ : ∃ t : Int, (x3_7 + 1).toInt = t ∧ t = x3_7.toInt + (1 : Int32).toInt := ⟨_, rfl, by have h9 := fb_addI (x := x3_7) (y := (1 : Int32)) (by omega) (by omega); exact h9⟩
            refine ok_lt fun x3_11 e_x3_11 => ?_
            have q_x3_11 : x3_11.toInt = t_18 := by rw [e_x3_11]; exact ht_18
            exact ih_a_34 _ x3_11 s_19 (by rw [hn_a_34]; omega) ⟨rfl, (by omega), hB_s_19, hF_s_19⟩
          · rw [fa_eq] at c_17
            obtain ⟨t_19, ht_19, g_19⟩ : ∃ t : Int, (x3_7 + 1).toInt = t ∧ t = x3_7.toInt + (1 : Int32).toInt := ⟨_, rfl, by have h9 := fb_addI (x := x3_7) (y := (1 : Int32)) (by omega) (by omega); exact h9⟩
            refine ok_lt fun x3_11 e_x3_11 => ?_
            have q_x3_11 : x3_11.toInt = t_19 := by rw [e_x3_11]; exact ht_19
            exact ih_a_34 _ x3_11 s_7 (by rw [hn_a_34]; omega) ⟨rfl, (by omega), hB_s_7, hF_s_7⟩

set_option maxHeartbeats 4000000 in
theorem s_X8_comingBack {x1 : Int32} {x2 : Int32} {σ : Sto} (hB : BX σ) (p_x1 : 0 ≤ x1.toInt ∧ x1.toInt ≤ 39) (p_x2 : 0 ≤ x2.toInt ∧ x2.toInt ≤ 39) : OK (f_X8_comingBack x1 x2 σ) (fun v => True) := by
  unfold f_X8_comingBack
  have hF : FR [] [] σ σ := FR.rf
  have k_0 : (0 : Int32).toInt = 0 := by decide +kernel
  have k_1 : (1 : Int32).toInt = 1 := by decide +kernel
  refine ok_lt fun x3_1 e_x3_1 => ?_
  refine ok_itr3 (fun (n : Nat) (x3_2 : Int64) (x5_2 : Int64) (x7_2 : Int32) => n = (42 - x7_2.toInt).toNat ∧ (0 ≤ x7_2.toInt ∧ x7_2.toInt ≤ 41)) ?_ (n := _) ⟨rfl, (by omega)⟩ (show _ < 10000000 by omega)
  intro a_14 n x3_2 x5_2 x7_2 hI ih_a_14
  obtain ⟨hn_a_14, b_x7_2⟩ := hI
  have g_2 := gX_20 hB 0
  refine ok_ite (fun c_1 => ?_) (fun c_1 => ?_)
  · rw [fa_lt] at c_1
    exact ok_ret trivial
  · rw [fa_lt] at c_1
    obtain ⟨t_4, ht_4, g_4⟩ : ∃ t : Int, (lg_cmp x5_2 x3_2).toInt = t ∧ -2147483648 ≤ t ∧ t ≤ 2147483647 := ⟨_, rfl, tI_rng _⟩
    refine ok_ite (fun c_3 => ?_) (fun c_3 => ?_)
    · rw [lg_cmp_eq] at c_3
      exact ok_ret trivial
    · rw [lg_cmp_eq] at c_3
      refine ok_itr2 (fun (n : Nat) (x3_5 : Int64) (x8_5 : Int32) => n = (41 - x8_5.toInt).toNat ∧ (0 ≤ x8_5.toInt ∧ x8_5.toInt ≤ 40)) ?_ (n := _) ⟨rfl, (by omega)⟩ (show _ < 10000000 by omega)
      intro a_39 n x3_5 x8_5 hI ih_a_39
      obtain ⟨hn_a_39, b_x8_5⟩ := hI
      refine ok_ite (fun c_5 => ?_) (fun c_5 => ?_)
      · rw [fa_le] at c_5
        obtain ⟨t_6, ht_6, g_6⟩ : ∃ t : Int, (x7_2 + 1).toInt = t ∧ t = x7_2.toInt + (1 : Int32).toInt := ⟨_, rfl, by have h9 := fb_addI (x := x7_2) (y := (1 : Int32)) (by omega) (by omega); exact h9⟩
        refine ok_lt fun x7_7 e_x7_7 => ?_
        have q_x7_7 : x7_7.toInt = t_6 := by rw [e_x7_7]; exact ht_6
        exact ih_a_14 _ x3_5 x3_2 x7_7 (by rw [hn_a_14]; omega) ⟨rfl, (by omega)⟩
      · rw [fa_le] at c_5
        refine ok_jn ?_
        refine ok_ite (fun c_7 => ?_) (fun c_7 => ?_)
        · rw [fa_eq] at c_7
          obtain ⟨t_8, ht_8, g_8⟩ : ∃ t : Int, (x8_5 + 1).toInt = t ∧ t = x8_5.toInt + (1 : Int32).toInt := ⟨_, rfl, by have h9 := fb_addI (x := x8_5) (y := (1 : Int32)) (by omega) (by omega); exact h9⟩
          refine ok_lt fun x8_9 e_x8_9 => ?_
          have q_x8_9 : x8_9.toInt = t_8 := by rw [e_x8_9]; exact ht_8
          exact ih_a_39 _ x3_5 x8_9 (by rw [hn_a_39]; omega) ⟨rfl, (by omega)⟩
        · rw [fa_eq] at c_7
          refine ok_calp (s_X11_isIn (x1 := x3_5) (x2 := x8_5) ) (fun v_11 h_9 => ?_)
          have b_v_11 := h_9
          (try dsimp only at b_v_11)
          refine ok_ite (fun c_10 => ?_) (fun c_10 => ?_)
          · rw [fa_eq] at c_10
            obtain ⟨t_11, ht_11, g_11⟩ : ∃ t : Int, (x8_5 + 1).toInt = t ∧ t = x8_5.toInt + (1 : Int32).toInt := ⟨_, rfl, by have h9 := fb_addI (x := x8_5) (y := (1 : Int32)) (by omega) (by omega); exact h9⟩
            refine ok_lt fun x8_9 e_x8_9 => ?_
            have q_x8_9 : x8_9.toInt = t_11 := by rw [e_x8_9]; exact ht_11
            exact ih_a_39 _ x3_5 x8_9 (by rw [hn_a_39]; omega) ⟨rfl, (by omega)⟩
          · rw [fa_eq] at c_10
            refine ok_ix ⟨by omega, by omega⟩ ?_
            refine ok_lt fun v_13 e_v_13 => ?_
            refine ok_lt fun x3_14 e_x3_14 => ?_
            obtain ⟨t_12, ht_12, g_12⟩ : ∃ t : Int, (x8_5 + 1).toInt = t ∧ t = x8_5.toInt + (1 : Int32).toInt := ⟨_, rfl, by have h9 := fb_addI (x := x8_5) (y := (1 : Int32)) (by omega) (by omega); exact h9⟩
            refine ok_lt fun x8_9 e_x8_9 => ?_
            have q_x8_9 : x8_9.toInt = t_12 := by rw [e_x8_9]; exact ht_12
            exact ih_a_39 _ x3_14 x8_9 (by rw [hn_a_39]; omega) ⟨rfl, (by omega)⟩

set_option maxHeartbeats 4000000 in
theorem s_X8_findLoops {σ : Sto} (hB : BX σ) : OK (f_X8_findLoops σ) (fun s => BX s ∧ FR [] [2, 3] σ s) := by
  unfold f_X8_findLoops
  have hF : FR [] [2, 3] σ σ := FR.rf
  have k_0 : (0 : Int32).toInt = 0 := by decide +kernel
  have k_1 : (1 : Int32).toInt = 1 := by decide +kernel
  refine ok_lt fun s_1 e_s_1 => ?_
  have hB_s_1 : BX s_1 := by rw [e_s_1]; exact BD.stl hB
  have hF_s_1 : FR [] [2, 3] σ s_1 := by rw [e_s_1]; exact FR.stl hF (by decide)
  refine ok_itr2 (fun (n : Nat) (x1_2 : Int32) (s_2 : Sto) => n = (41 - x1_2.toInt).toNat ∧ (0 ≤ x1_2.toInt ∧ x1_2.toInt ≤ 40) ∧ (BX s_2) ∧ (FR [] [2, 3] σ s_2)) ?_ (n := _) ⟨rfl, (by omega), hB_s_1, hF_s_1⟩ (show _ < 10000000 by omega)
  intro a_7 n x1_2 s_2 hI ih_a_7
  obtain ⟨hn_a_7, b_x1_2, hB_s_2, hF_s_2⟩ := hI
  have g_2 := gX_20 hB_s_2 0
  have g_3 : (s_2.1 20 0).toInt = (σ.1 20 0).toInt := by rw [hF_s_2.1 20 (by decide)]
  have g_4 := gX_20 hB 0
  refine ok_ite (fun c_1 => ?_) (fun c_1 => ?_)
  · rw [fa_le] at c_1
    refine ok_itr2 (fun (n : Nat) (x1_4 : Int32) (s_4 : Sto) => n = (121 - x1_4.toInt).toNat ∧ (0 ≤ x1_4.toInt ∧ x1_4.toInt ≤ 120) ∧ (BX s_4) ∧ (FR [] [2, 3] σ s_4)) ?_ (n := _) ⟨rfl, (by omega), hB_s_2, hF_s_2⟩ (show _ < 10000000 by omega)
    intro a_33 n x1_4 s_4 hI ih_a_33
    obtain ⟨hn_a_33, b_x1_4, hB_s_4, hF_s_4⟩ := hI
    have g_6 := gX_27 hB_s_4 0
    have g_7 : (s_4.1 27 0).toInt = (σ.1 27 0).toInt := by rw [hF_s_4.1 27 (by decide)]
    have g_8 := gX_27 hB 0
    refine ok_ite (fun c_5 => ?_) (fun c_5 => ?_)
    · rw [fa_le] at c_5
      exact ok_ret ⟨hB_s_4, hF_s_4⟩
    · rw [fa_le] at c_5
      refine ok_ix ⟨by omega, by omega⟩ ?_
      have g_9 := gX_38 hB_s_4 (x1_4.toNatClampNeg)
      refine ok_lt fun v_6 e_v_6 => ?_
      have b_v_6 : 0 ≤ v_6.toInt ∧ v_6.toInt ≤ 1 := by rw [e_v_6]; exact gX_38 hB_s_4 _
      refine ok_jn ?_
      refine ok_ite (fun c_10 => ?_) (fun c_10 => ?_)
      · rw [fa_eq] at c_10
        obtain ⟨t_11, ht_11, g_11⟩ : ∃ t : Int, (x1_4 + 1).toInt = t ∧ t = x1_4.toInt + (1 : Int32).toInt := ⟨_, rfl, by have h9 := fb_addI (x := x1_4) (y := (1 : Int32)) (by omega) (by omega); exact h9⟩
        refine ok_lt fun x1_8 e_x1_8 => ?_
        have q_x1_8 : x1_8.toInt = t_11 := by rw [e_x1_8]; exact ht_11
        exact ih_a_33 _ x1_8 s_4 (by rw [hn_a_33]; omega) ⟨rfl, (by omega), hB_s_4, hF_s_4⟩
      · rw [fa_eq] at c_10
        refine ok_ix ⟨by omega, by omega⟩ ?_
        have g_12 := gX_37 hB_s_4 (x1_4.toNatClampNeg)
        refine ok_lt fun v_10 e_v_10 => ?_
        have b_v_10 : 0 ≤ v_10.toInt ∧ v_10.toInt ≤ 1 := by rw [e_v_10]; exact gX_37 hB_s_4 _
        refine ok_ite (fun c_13 => ?_) (fun c_13 => ?_)
        · rw [fa_eq] at c_13
          refine ok_ix ⟨by omega, by omega⟩ ?_
          have g_14 := gX_30 hB_s_4 (x1_4.toNatClampNeg)
          refine ok_lt fun v_12 e_v_12 => ?_
          have b_v_12 : 0 ≤ v_12.toInt ∧ v_12.toInt ≤ 39 := by rw [e_v_12]; exact gX_30 hB_s_4 _
          refine ok_lt fun s_13 e_s_13 => ?_
          have hB_s_13 : BX s_13 := by rw [e_s_13]; exact BD.stl hB_s_4
          have hF_s_13 : FR [] [2, 3] σ s_13 := by rw [e_s_13]; exact FR.stl hF_s_4 (by decide)
          refine ok_ix ⟨by omega, by omega⟩ ?_
          refine ok_lt fun v_14 e_v_14 => ?_
          refine ok_ix ⟨by omega, by omega⟩ ?_
          have g_15 := gX_29 hB_s_13 (x1_4.toNatClampNeg)
          refine ok_lt fun v_15 e_v_15 => ?_
          have b_v_15 : 0 ≤ v_15.toInt ∧ v_15.toInt ≤ 39 := by rw [e_v_15]; exact gX_29 hB_s_13 _
          refine ok_calp (s_X8_comingBack (x1 := v_12) (x2 := v_15) (σ := s_13) hB_s_13 (by omega) (by omega)) (fun v_16 h_16 => ?_)
          refine ok_ix ⟨by omega, by omega⟩ ?_
          refine ok_lt fun s_17 e_s_17 => ?_
          have hB_s_17 : BX s_17 := by rw [e_s_17]; exact BD.stl hB_s_13
          have hF_s_17 : FR [] [2, 3] σ s_17 := by rw [e_s_17]; exact FR.stl hF_s_13 (by decide)
          obtain ⟨t_17, ht_17, g_17⟩ : ∃ t : Int, (x1_4 + 1).toInt = t ∧ t = x1_4.toInt + (1 : Int32).toInt := ⟨_, rfl, by have h9 := fb_addI (x := x1_4) (y := (1 : Int32)) (by omega) (by omega); exact h9⟩
          refine ok_lt fun x1_8 e_x1_8 => ?_
          have q_x1_8 : x1_8.toInt = t_17 := by rw [e_x1_8]; exact ht_17
          exact ih_a_33 _ x1_8 s_17 (by rw [hn_a_33]; omega) ⟨rfl, (by omega), hB_s_17, hF_s_17⟩
        · rw [fa_eq] at c_13
          obtain ⟨t_18, ht_18, g_18⟩ : ∃ t : Int, (x1_4 + 1).toInt = t ∧ t = x1_4.toInt + (1 : Int32).toInt := ⟨_, rfl, by have h9 := fb_addI (x := x1_4) (y := (1 : Int32)) (by omega) (by omega); exact h9⟩
          refine ok_lt fun x1_8 e_x1_8 => ?_
          have q_x1_8 : x1_8.toInt = t_18 := by rw [e_x1_8]; exact ht_18
          exact ih_a_33 _ x1_8 s_4 (by rw [hn_a_33]; omega) ⟨rfl, (by omega), hB_s_4, hF_s_4⟩
  · rw [fa_le] at c_1
    refine ok_ix ⟨by omega, by omega⟩ ?_
    refine ok_lt fun s_18 e_s_18 => ?_
    have hB_s_18 : BX s_18 := by rw [e_s_18]; exact BD.stl hB_s_2
    have hF_s_18 : FR [] [2, 3] σ s_18 := by rw [e_s_18]; exact FR.stl hF_s_2 (by decide)
    obtain ⟨t_19, ht_19, g_19⟩ : ∃ t : Int, (x1_2 + 1).toInt = t ∧ t = x1_2.toInt + (1 : Int32).toInt := ⟨_, rfl, by have h9 := fb_addI (x := x1_2) (y := (1 : Int32)) (by omega) (by omega); exact h9⟩
    refine ok_lt fun x1_19 e_x1_19 => ?_
    have q_x1_19 : x1_19.toInt = t_19 := by rw [e_x1_19]; exact ht_19
    exact ih_a_7 _ x1_19 s_18 (by rw [hn_a_7]; omega) ⟨rfl, (by omega), hB_s_18, hF_s_18⟩

set_option maxHeartbeats 4000000 in
theorem s_X8_findMerges {σ : Sto} (hB : BX σ) : OK (f_X8_findMerges σ) (fun s => BX s ∧ FR [] [4] σ s) := by
  unfold f_X8_findMerges
  have hF : FR [] [4] σ σ := FR.rf
  have k_0 : (0 : Int32).toInt = 0 := by decide +kernel
  have k_1 : (1 : Int32).toInt = 1 := by decide +kernel
  refine ok_lt fun s_1 e_s_1 => ?_
  have hB_s_1 : BX s_1 := by rw [e_s_1]; exact BD.stl hB
  have hF_s_1 : FR [] [4] σ s_1 := by rw [e_s_1]; exact FR.stl hF (by decide)
  refine ok_itr3 (fun (n : Nat) (x1_2 : Int64) (x3_2 : Int32) (s_2 : Sto) => n = (121 - x3_2.toInt).toNat ∧ (0 ≤ x3_2.toInt ∧ x3_2.toInt ≤ 120) ∧ (BX s_2) ∧ (FR [] [4] σ s_2)) ?_ (n := _) ⟨rfl, (by omega), hB_s_1, hF_s_1⟩ (show _ < 10000000 by omega)
  intro a_9 n x1_2 x3_2 s_2 hI ih_a_9
  obtain ⟨hn_a_9, b_x3_2, hB_s_2, hF_s_2⟩ := hI
  have g_2 := gX_27 hB_s_2 0
  have g_3 : (s_2.1 27 0).toInt = (σ.1 27 0).toInt := by rw [hF_s_2.1 27 (by decide)]
  have g_4 := gX_27 hB 0
  refine ok_ite (fun c_1 => ?_) (fun c_1 => ?_)
  · rw [fa_le] at c_1
    exact ok_ret ⟨hB_s_2, hF_s_2⟩
  · rw [fa_le] at c_1
    refine ok_ix ⟨by omega, by omega⟩ ?_
    have g_5 := gX_30 hB_s_2 (x3_2.toNatClampNeg)
    refine ok_lt fun v_4 e_v_4 => ?_
    have b_v_4 : 0 ≤ v_4.toInt ∧ v_4.toInt ≤ 39 := by rw [e_v_4]; exact gX_30 hB_s_2 _
    refine ok_lt fun x4_5 e_x4_5 => ?_
    refine ok_ix ⟨by omega, by omega⟩ ?_
    have g_6 := gX_31 hB_s_2 (x3_2.toNatClampNeg)
    refine ok_lt fun v_6 e_v_6 => ?_
    have b_v_6 : 0 ≤ v_6.toInt ∧ v_6.toInt ≤ 1 := by rw [e_v_6]; exact gX_31 hB_s_2 _
    refine ok_jn ?_
    refine ok_ite (fun c_7 => ?_) (fun c_7 => ?_)
    · rw [fa_eq] at c_7
      refine ok_ix ⟨by omega, by omega⟩ ?_
      have g_8 := gX_37 hB_s_2 (x3_2.toNatClampNeg)
      refine ok_lt fun v_8 e_v_8 => ?_
      have b_v_8 : 0 ≤ v_8.toInt ∧ v_8.toInt ≤ 1 := by rw [e_v_8]; exact gX_37 hB_s_2 _
      refine ok_jn ?_
      refine ok_ite (fun c_9 => ?_) (fun c_9 => ?_)
      · rw [fa_eq] at c_9
        refine ok_ix ⟨by omega, by omega⟩ ?_
        have g_10 := gX_38 hB_s_2 (x3_2.toNatClampNeg)
        refine ok_lt fun v_12 e_v_12 => ?_
        have b_v_12 : 0 ≤ v_12.toInt ∧ v_12.toInt ≤ 1 := by rw [e_v_12]; exact gX_38 hB_s_2 _
        refine ok_ite (fun c_11 => ?_) (fun c_11 => ?_)
        · rw [fa_eq] at c_11
          refine ok_lt fun s_14 e_s_14 => ?_
          have hB_s_14 : BX s_14 := by rw [e_s_14]; exact BD.stl hB_s_2
          have hF_s_14 : FR [] [4] σ s_14 := by rw [e_s_14]; exact FR.stl hF_s_2 (by decide)
          refine ok_lt fun x1_15 e_x1_15 => ?_
          obtain ⟨t_12, ht_12, g_12⟩ : ∃ t : Int, (x3_2 + 1).toInt = t ∧ t = x3_2.toInt + (1 : Int32).toInt := ⟨_, rfl, by have h9 := fb_addI (x := x3_2) (y := (1 : Int32)) (by omega) (by omega); exact h9⟩
          refine ok_lt fun x3_10 e_x3_10 => ?_
          have q_x3_10 : x3_10.toInt = t_12 := by rw [e_x3_10]; exact ht_12
          exact ih_a_9 _ x1_15 x3_10 s_14 (by rw [hn_a_9]; omega) ⟨rfl, (by omega), hB_s_14, hF_s_14⟩
        · rw [fa_eq] at c_11
          obtain ⟨t_13, ht_13, g_13⟩ : ∃ t : Int, (x3_2 + 1).toInt = t ∧ t = x3_2.toInt + (1 : Int32).toInt := ⟨_, rfl, by have h9 := fb_addI (x := x3_2) (y := (1 : Int32)) (by omega) (by omega); exact h9⟩
          refine ok_lt fun x3_10 e_x3_10 => ?_
          have q_x3_10 : x3_10.toInt = t_13 := by rw [e_x3_10]; exact ht_13
          exact ih_a_9 _ x1_2 x3_10 s_2 (by rw [hn_a_9]; omega) ⟨rfl, (by omega), hB_s_2, hF_s_2⟩
      · rw [fa_eq] at c_9
        obtain ⟨t_14, ht_14, g_14⟩ : ∃ t : Int, (x3_2 + 1).toInt = t ∧ t = x3_2.toInt + (1 : Int32).toInt := ⟨_, rfl, by have h9 := fb_addI (x := x3_2) (y := (1 : Int32)) (by omega) (by omega); exact h9⟩
        refine ok_lt fun x3_10 e_x3_10 => ?_
        have q_x3_10 : x3_10.toInt = t_14 := by rw [e_x3_10]; exact ht_14
        exact ih_a_9 _ x1_2 x3_10 s_2 (by rw [hn_a_9]; omega) ⟨rfl, (by omega), hB_s_2, hF_s_2⟩
    · rw [fa_eq] at c_7
      refine ok_lt fun s_17 e_s_17 => ?_
      have hB_s_17 : BX s_17 := by rw [e_s_17]; exact BD.stl hB_s_2
      have hF_s_17 : FR [] [4] σ s_17 := by rw [e_s_17]; exact FR.stl hF_s_2 (by decide)
      refine ok_ix ⟨by omega, by omega⟩ ?_
      have g_15 := gX_37 hB_s_17 (x3_2.toNatClampNeg)
      refine ok_lt fun v_8 e_v_8 => ?_
      have b_v_8 : 0 ≤ v_8.toInt ∧ v_8.toInt ≤ 1 := by rw [e_v_8]; exact gX_37 hB_s_17 _
      refine ok_jn ?_
      refine ok_ite (fun c_16 => ?_) (fun c_16 => ?_)
      · rw [fa_eq] at c_16
        refine ok_ix ⟨by omega, by omega⟩ ?_
        have g_17 := gX_38 hB_s_17 (x3_2.toNatClampNeg)
        refine ok_lt fun v_12 e_v_12 => ?_
        have b_v_12 : 0 ≤ v_12.toInt ∧ v_12.toInt ≤ 1 := by rw [e_v_12]; exact gX_38 hB_s_17 _
        refine ok_ite (fun c_18 => ?_) (fun c_18 => ?_)
        · rw [fa_eq] at c_18
          refine ok_lt fun s_14 e_s_14 => ?_
          have hB_s_14 : BX s_14 := by rw [e_s_14]; exact BD.stl hB_s_17
          have hF_s_14 : FR [] [4] σ s_14 := by rw [e_s_14]; exact FR.stl hF_s_17 (by decide)
          refine ok_lt fun x1_15 e_x1_15 => ?_
          obtain ⟨t_19, ht_19, g_19⟩ : ∃ t : Int, (x3_2 + 1).toInt = t ∧ t = x3_2.toInt + (1 : Int32).toInt := ⟨_, rfl, by have h9 := fb_addI (x := x3_2) (y := (1 : Int32)) (by omega) (by omega); exact h9⟩
          refine ok_lt fun x3_10 e_x3_10 => ?_
          have q_x3_10 : x3_10.toInt = t_19 := by rw [e_x3_10]; exact ht_19
          exact ih_a_9 _ x1_15 x3_10 s_14 (by rw [hn_a_9]; omega) ⟨rfl, (by omega), hB_s_14, hF_s_14⟩
        · rw [fa_eq] at c_18
          obtain ⟨t_20, ht_20, g_20⟩ : ∃ t : Int, (x3_2 + 1).toInt = t ∧ t = x3_2.toInt + (1 : Int32).toInt := ⟨_, rfl, by have h9 := fb_addI (x := x3_2) (y := (1 : Int32)) (by omega) (by omega); exact h9⟩
          refine ok_lt fun x3_10 e_x3_10 => ?_
          have q_x3_10 : x3_10.toInt = t_20 := by rw [e_x3_10]; exact ht_20
          exact ih_a_9 _ x1_2 x3_10 s_17 (by rw [hn_a_9]; omega) ⟨rfl, (by omega), hB_s_17, hF_s_17⟩
      · rw [fa_eq] at c_16
        obtain ⟨t_21, ht_21, g_21⟩ : ∃ t : Int, (x3_2 + 1).toInt = t ∧ t = x3_2.toInt + (1 : Int32).toInt := ⟨_, rfl, by have h9 := fb_addI (x := x3_2) (y := (1 : Int32)) (by omega) (by omega); exact h9⟩
        refine ok_lt fun x3_10 e_x3_10 => ?_
        have q_x3_10 : x3_10.toInt = t_21 := by rw [e_x3_10]; exact ht_21
        exact ih_a_9 _ x1_2 x3_10 s_17 (by rw [hn_a_9]; omega) ⟨rfl, (by omega), hB_s_17, hF_s_17⟩

set_option maxHeartbeats 4000000 in
theorem s_X8_findCandidates {σ : Sto} (hB : BX σ) : OK (f_X8_findCandidates σ) (fun s => BX s ∧ FR [44, 45] [] σ s) := by
  unfold f_X8_findCandidates
  have hF : FR [44, 45] [] σ σ := FR.rf
  have k_0 : (0 : Int32).toInt = 0 := by decide +kernel
  have k_1 : (1 : Int32).toInt = 1 := by decide +kernel
  have k_2 : (2 : Int32).toInt = 2 := by decide +kernel
  refine ok_lt fun s_1 e_s_1 => ?_
  have hB_s_1 : BX s_1 := by rw [e_s_1]; exact pX_45 hB (by omega)
  have hF_s_1 : FR [44, 45] [] σ s_1 := by rw [e_s_1]; exact FR.st hF (by decide)
  have w_s_1_45 : (s_1.1 45 0).toInt = (0 : Int32).toInt := by rw [e_s_1, sti_s]
  refine ok_itr2 (fun (n : Nat) (x1_2 : Int32) (s_2 : Sto) => n = (121 - x1_2.toInt).toNat ∧ (0 ≤ x1_2.toInt ∧ x1_2.toInt ≤ 120) ∧ (BX s_2) ∧ (FR [44, 45] [] σ s_2) ∧ ((s_2.1 45 0).toInt ≤ x1_2.toInt)) ?_ (n := _) ⟨rfl, (by omega), hB_s_1, hF_s_1, (by omega)⟩ (show _ < 10000000 by omega)
  intro a_7 n x1_2 s_2 hI ih_a_7
  obtain ⟨hn_a_7, b_x1_2, hB_s_2, hF_s_2, hle⟩ := hI
  have g_2 := gX_27 hB_s_2 0
  have g_3 : (s_2.1 27 0).toInt = (σ.1 27 0).toInt := by rw [hF_s_2.1 27 (by decide)]
  have g_4 := gX_27 hB 0
  refine ok_ite (fun c_1 => ?_) (fun c_1 => ?_)
  · rw [fa_le] at c_1
    exact ok_ret ⟨hB_s_2, hF_s_2⟩
  · rw [fa_le] at c_1
    refine ok_ix ⟨by omega, by omega⟩ ?_
    have g_5 := gX_30 hB_s_2 (x1_2.toNatClampNeg)
    refine ok_lt fun v_4 e_v_4 => ?_
    have b_v_4 : 0 ≤ v_4.toInt ∧ v_4.toInt ≤ 39 := by rw [e_v_4]; exact gX_30 hB_s_2 _
    refine ok_ix ⟨by omega, by omega⟩ ?_
    refine ok_lt fun v_5 e_v_5 => ?_
    refine ok_calp (s_J13_bitCount_95d88 (x1 := v_5) ) (fun v_6 h_6 => ?_)
    have b_v_6 := h_6
    (try dsimp only at b_v_6)
    refine ok_jn ?_
    refine ok_ite (fun c_7 => ?_) (fun c_7 => ?_)
    · rw [fa_le] at c_7
      refine ok_ix ⟨by omega, by omega⟩ ?_
      have g_8 := gX_31 hB_s_2 (x1_2.toNatClampNeg)
      refine ok_lt fun v_8 e_v_8 => ?_
      have b_v_8 : 0 ≤ v_8.toInt ∧ v_8.toInt ≤ 1 := by rw [e_v_8]; exact gX_31 hB_s_2 _
      refine ok_jn ?_
      refine ok_ite (fun c_9 => ?_) (fun c_9 => ?_)
      · rw [fa_eq] at c_9
        refine ok_calp (s_X8_isBack (x1 := x1_2) (σ := s_2) hB_s_2 (by omega)) (fun v_12 h_10 => ?_)
        have b_v_12 := h_10
        (try dsimp only at b_v_12)
        refine ok_ite (fun c_11 => ?_) (fun c_11 => ?_)
        · rw [fa_eq] at c_11
          refine ok_ite (fun c_12 => ?_) (fun c_12 => ?_)
          · rw [fa_eq] at c_12
            have g_13 := gX_45 hB_s_2 0
            refine ok_ix ⟨by omega, by omega⟩ ?_
            refine ok_lt fun s_15 e_s_15 => ?_
            have hB_s_15 : BX s_15 := by rw [e_s_15]; exact pX_44 hB_s_2 (by omega)
            have hF_s_15 : FR [44, 45] [] σ s_15 := by rw [e_s_15]; exact FR.st hF_s_2 (by decide)
            have w_s_15_45 : (s_15.1 45 0).toInt = (s_2.1 45 0).toInt := by rw [e_s_15]; rfl
            have g_14 := gX_45 hB_s_15 0
            obtain ⟨t_15, ht_15, g_15⟩ : ∃ t : Int, ((s_15.1 45 0) + 1).toInt = t ∧ t = (s_15.1 45 0).toInt + (1 : Int32).toInt := ⟨_, rfl, by have h9 := fb_addI (x := (s_15.1 45 0)) (y := (1 : Int32)) (by omega) (by omega); exact h9⟩
            refine ok_lt fun s_16 e_s_16 => ?_
            have hB_s_16 : BX s_16 := by rw [e_s_16]; exact pX_45 hB_s_15 (by rw [ht_15]; omega)
            have hF_s_16 : FR [44, 45] [] σ s_16 := by rw [e_s_16]; exact FR.st hF_s_15 (by decide)
            have w_s_16_45 : (s_16.1 45 0).toInt = t_15 := by rw [e_s_16, sti_s, ht_15]
            obtain ⟨t_16, ht_16, g_16⟩ : ∃ t : Int, (x1_2 + 1).toInt = t ∧ t = x1_2.toInt + (1 : Int32).toInt := ⟨_, rfl, by have h9 := fb_addI (x := x1_2) (y := (1 : Int32)) (by omega) (by omega); exact h9⟩
            refine ok_lt fun x1_10 e_x1_10 => ?_
            have q_x1_10 : x1_10.toInt = t_16 := by rw [e_x1_10]; exact ht_16
            exact ih_a_7 _ x1_10 s_16 (by rw [hn_a_7]; omega) ⟨rfl, (by omega), hB_s_16, hF_s_16, (by omega)⟩
          · rw [fa_eq] at c_12
            exfalso; omega
        · rw [fa_eq] at c_11
          obtain ⟨t_17, ht_17, g_17⟩ : ∃ t : Int, (x1_2 + 1).toInt = t ∧ t = x1_2.toInt + (1 : Int32).toInt := ⟨_, rfl, by have h9 := fb_addI (x := x1_2) (y := (1 : Int32)) (by omega) (by omega); exact h9⟩
          refine ok_lt fun x1_10 e_x1_10 => ?_
          have q_x1_10 : x1_10.toInt = t_17 := by rw [e_x1_10]; exact ht_17
          exact ih_a_7 _ x1_10 s_2 (by rw [hn_a_7]; omega) ⟨rfl, (by omega), hB_s_2, hF_s_2, (by omega)⟩
      · rw [fa_eq] at c_9
        obtain ⟨t_18, ht_18, g_18⟩ : ∃ t : Int, (x1_2 + 1).toInt = t ∧ t = x1_2.toInt + (1 : Int32).toInt := ⟨_, rfl, by have h9 := fb_addI (x := x1_2) (y := (1 : Int32)) (by omega) (by omega); exact h9⟩
        refine ok_lt fun x1_10 e_x1_10 => ?_
        have q_x1_10 : x1_10.toInt = t_18 := by rw [e_x1_10]; exact ht_18
        exact ih_a_7 _ x1_10 s_2 (by rw [hn_a_7]; omega) ⟨rfl, (by omega), hB_s_2, hF_s_2, (by omega)⟩
    · rw [fa_le] at c_7
      refine ok_ix ⟨by omega, by omega⟩ ?_
      have g_19 := gX_31 hB_s_2 (x1_2.toNatClampNeg)
      refine ok_lt fun v_8 e_v_8 => ?_
      have b_v_8 : 0 ≤ v_8.toInt ∧ v_8.toInt ≤ 1 := by rw [e_v_8]; exact gX_31 hB_s_2 _
      refine ok_jn ?_
      refine ok_ite (fun c_20 => ?_) (fun c_20 => ?_)
      · rw [fa_eq] at c_20
        refine ok_calp (s_X8_isBack (x1 := x1_2) (σ := s_2) hB_s_2 (by omega)) (fun v_12 h_21 => ?_)
        have b_v_12 := h_21
        (try dsimp only at b_v_12)
        refine ok_ite (fun c_22 => ?_) (fun c_22 => ?_)
        · rw [fa_eq] at c_22
          refine ok_ite (fun c_23 => ?_) (fun c_23 => ?_)
          · rw [fa_eq] at c_23
            exfalso; omega
          · rw [fa_eq] at c_23
            obtain ⟨t_24, ht_24, g_24⟩ : ∃ t : Int, (x1_2 + 1).toInt = t ∧ t = x1_2.toInt + (1 : Int32).toInt := ⟨_, rfl, by have h9 := fb_addI (x := x1_2) (y := (1 : Int32)) (by omega) (by omega); exact h9⟩
            refine ok_lt fun x1_10 e_x1_10 => ?_
            have q_x1_10 : x1_10.toInt = t_24 := by rw [e_x1_10]; exact ht_24
            exact ih_a_7 _ x1_10 s_2 (by rw [hn_a_7]; omega) ⟨rfl, (by omega), hB_s_2, hF_s_2, (by omega)⟩
        · rw [fa_eq] at c_22
          obtain ⟨t_25, ht_25, g_25⟩ : ∃ t : Int, (x1_2 + 1).toInt = t ∧ t = x1_2.toInt + (1 : Int32).toInt := ⟨_, rfl, by have h9 := fb_addI (x := x1_2) (y := (1 : Int32)) (by omega) (by omega); exact h9⟩
          refine ok_lt fun x1_10 e_x1_10 => ?_
          have q_x1_10 : x1_10.toInt = t_25 := by rw [e_x1_10]; exact ht_25
          exact ih_a_7 _ x1_10 s_2 (by rw [hn_a_7]; omega) ⟨rfl, (by omega), hB_s_2, hF_s_2, (by omega)⟩
      · rw [fa_eq] at c_20
        obtain ⟨t_26, ht_26, g_26⟩ : ∃ t : Int, (x1_2 + 1).toInt = t ∧ t = x1_2.toInt + (1 : Int32).toInt := ⟨_, rfl, by have h9 := fb_addI (x := x1_2) (y := (1 : Int32)) (by omega) (by omega); exact h9⟩
        refine ok_lt fun x1_10 e_x1_10 => ?_
        have q_x1_10 : x1_10.toInt = t_26 := by rw [e_x1_10]; exact ht_26
        exact ih_a_7 _ x1_10 s_2 (by rw [hn_a_7]; omega) ⟨rfl, (by omega), hB_s_2, hF_s_2, (by omega)⟩

set_option maxHeartbeats 4000000 in
theorem s_X8_oneJumpIsEnough {σ : Sto} (hB : BX σ) : OK (f_X8_oneJumpIsEnough σ) (fun r => (0 ≤ r.1.toInt ∧ r.1.toInt ≤ 1) ∧ BX r.2 ∧ FR [36, 37, 39, 40, 42, 43] [1, 5] σ r.2) := by
  unfold f_X8_oneJumpIsEnough
  have hF : FR [36, 37, 39, 40, 42, 43] [1, 5] σ σ := FR.rf
  have k_0 : (0 : Int32).toInt = 0 := by decide +kernel
  have k_1 : (1 : Int32).toInt = 1 := by decide +kernel
  refine ok_itr2 (fun (n : Nat) (x1_1 : Int32) (s_1 : Sto) => n = (121 - x1_1.toInt).toNat ∧ (0 ≤ x1_1.toInt ∧ x1_1.toInt ≤ 120) ∧ (BX s_1) ∧ (FR [36, 37, 39, 40, 42, 43] [1, 5] σ s_1)) ?_ (n := _) ⟨rfl, (by omega), hB, hF⟩ (show _ < 10000000 by omega)
  intro a_2 n x1_1 s_1 hI ih_a_2
  obtain ⟨hn_a_2, b_x1_1, hB_s_1, hF_s_1⟩ := hI
  have g_2 := gX_45 hB_s_1 0
  have g_3 : (s_1.1 45 0).toInt = (σ.1 45 0).toInt := by rw [hF_s_1.1 45 (by decide)]
  have g_4 := gX_45 hB 0
  refine ok_ite (fun c_1 => ?_) (fun c_1 => ?_)
  · rw [fa_le] at c_1
    exact ok_ret ⟨(by (try dsimp only); omega), hB_s_1, hF_s_1⟩
  · rw [fa_le] at c_1
    refine ok_ix ⟨by omega, by omega⟩ ?_
    have g_5 := gX_44 hB_s_1 (x1_1.toNatClampNeg)
    refine ok_lt fun v_3 e_v_3 => ?_
    have b_v_3 : 0 ≤ v_3.toInt ∧ v_3.toInt ≤ 119 := by rw [e_v_3]; exact gX_44 hB_s_1 _
    have q_v_3 : v_3.toInt = (σ.1 44 (x1_1.toNatClampNeg)).toInt := by rw [e_v_3, hF_s_1.1 44 (by decide)]
    refine ok_ix ⟨by omega, by omega⟩ ?_
    refine ok_lt fun s_4 e_s_4 => ?_
    have hB_s_4 : BX s_4 := by rw [e_s_4]; exact pX_37 hB_s_1 (by omega)
    have hF_s_4 : FR [36, 37, 39, 40, 42, 43] [1, 5] σ s_4 := by rw [e_s_4]; exact FR.st hF_s_1 (by decide)
    refine ok_calv (s_X8_isReducedNow  (σ := s_4) hB_s_4) (fun v_5 s_5 h_6 => ?_)
    obtain ⟨b_v_5, hB_s_5, hG_s_5⟩ := h_6
    (try dsimp only at b_v_5 hB_s_5 hG_s_5)
    have hF_s_5 : FR [36, 37, 39, 40, 42, 43] [1, 5] σ s_5 := FR.cal hF_s_4 hG_s_5 rfl rfl
    refine ok_ite (fun c_7 => ?_) (fun c_7 => ?_)
    · rw [fa_eq] at c_7
      refine ok_ix ⟨by omega, by omega⟩ ?_
      have g_8 := gX_44 hB_s_5 (x1_1.toNatClampNeg)
      refine ok_lt fun v_7 e_v_7 => ?_
      have b_v_7 : 0 ≤ v_7.toInt ∧ v_7.toInt ≤ 119 := by rw [e_v_7]; exact gX_44 hB_s_5 _
      have q_v_7 : v_7.toInt = (σ.1 44 (x1_1.toNatClampNeg)).toInt := by rw [e_v_7, hF_s_5.1 44 (by decide)]
      refine ok_ix ⟨by omega, by omega⟩ ?_
      refine ok_lt fun s_8 e_s_8 => ?_
      have hB_s_8 : BX s_8 := by rw [e_s_8]; exact pX_37 hB_s_5 (by omega)
      have hF_s_8 : FR [36, 37, 39, 40, 42, 43] [1, 5] σ s_8 := by rw [e_s_8]; exact FR.st hF_s_5 (by decide)
      obtain ⟨t_9, ht_9, g_9⟩ : ∃ t : Int, (x1_1 + 1).toInt = t ∧ t = x1_1.toInt + (1 : Int32).toInt := ⟨_, rfl, by have h9 := fb_addI (x := x1_1) (y := (1 : Int32)) (by omega) (by omega); exact h9⟩
      refine ok_lt fun x1_9 e_x1_9 => ?_
      have q_x1_9 : x1_9.toInt = t_9 := by rw [e_x1_9]; exact ht_9
      exact ih_a_2 _ x1_9 s_8 (by rw [hn_a_2]; omega) ⟨rfl, (by omega), hB_s_8, hF_s_8⟩
    · rw [fa_eq] at c_7
      refine ok_lt fun s_10 e_s_10 => ?_
      have hB_s_10 : BX s_10 := by rw [e_s_10]; exact pX_36 hB_s_5 (by omega)
      have hF_s_10 : FR [36, 37, 39, 40, 42, 43] [1, 5] σ s_10 := by rw [e_s_10]; exact FR.st hF_s_5 (by decide)
      exact ok_ret ⟨(by (try dsimp only); omega), hB_s_10, hF_s_10⟩

set_option maxHeartbeats 4000000 in
theorem s_X8_twoJumpsAreEnough {σ : Sto} (hB : BX σ) : OK (f_X8_twoJumpsAreEnough σ) (fun r => (0 ≤ r.1.toInt ∧ r.1.toInt ≤ 1) ∧ BX r.2 ∧ FR [36, 37, 39, 40, 42, 43] [1, 5] σ r.2) := by
  unfold f_X8_twoJumpsAreEnough
  have hF : FR [36, 37, 39, 40, 42, 43] [1, 5] σ σ := FR.rf
  have k_0 : (0 : Int32).toInt = 0 := by decide +kernel
  have k_1 : (1 : Int32).toInt = 1 := by decide +kernel
  have k_2 : (2 : Int32).toInt = 2 := by decide +kernel
  refine ok_itr2 (fun (n : Nat) (x1_1 : Int32) (s_1 : Sto) => n = (121 - x1_1.toInt).toNat ∧ (0 ≤ x1_1.toInt ∧ x1_1.toInt ≤ 120) ∧ (BX s_1) ∧ (FR [36, 37, 39, 40, 42, 43] [1, 5] σ s_1)) ?_ (n := _) ⟨rfl, (by omega), hB, hF⟩ (show _ < 10000000 by omega)
  intro a_2 n x1_1 s_1 hI ih_a_2
  obtain ⟨hn_a_2, b_x1_1, hB_s_1, hF_s_1⟩ := hI
  have g_2 := gX_45 hB_s_1 0
  have g_3 : (s_1.1 45 0).toInt = (σ.1 45 0).toInt := by rw [hF_s_1.1 45 (by decide)]
  have g_4 := gX_45 hB 0
  refine ok_ite (fun c_1 => ?_) (fun c_1 => ?_)
  · rw [fa_le] at c_1
    exact ok_ret ⟨(by (try dsimp only); omega), hB_s_1, hF_s_1⟩
  · rw [fa_le] at c_1
    refine ok_ix ⟨by omega, by omega⟩ ?_
    have g_5 := gX_44 hB_s_1 (x1_1.toNatClampNeg)
    refine ok_lt fun v_3 e_v_3 => ?_
    have b_v_3 : 0 ≤ v_3.toInt ∧ v_3.toInt ≤ 119 := by rw [e_v_3]; exact gX_44 hB_s_1 _
    have q_v_3 : v_3.toInt = (σ.1 44 (x1_1.toNatClampNeg)).toInt := by rw [e_v_3, hF_s_1.1 44 (by decide)]
    refine ok_ix ⟨by omega, by omega⟩ ?_
    refine ok_lt fun s_4 e_s_4 => ?_
    have hB_s_4 : BX s_4 := by rw [e_s_4]; exact pX_37 hB_s_1 (by omega)
    have hF_s_4 : FR [36, 37, 39, 40, 42, 43] [1, 5] σ s_4 := by rw [e_s_4]; exact FR.st hF_s_1 (by decide)
    obtain ⟨t_6, ht_6, g_6⟩ : ∃ t : Int, (x1_1 + 1).toInt = t ∧ t = x1_1.toInt + (1 : Int32).toInt := ⟨_, rfl, by have h9 := fb_addI (x := x1_1) (y := (1 : Int32)) (by omega) (by omega); exact h9⟩
    refine ok_lt fun x2_5 e_x2_5 => ?_
    have q_x2_5 : x2_5.toInt = t_6 := by rw [e_x2_5]; exact ht_6
    refine ok_itr2 (fun (n : Nat) (x2_6 : Int32) (s_6 : Sto) => n = (121 - x2_6.toInt).toNat ∧ (1 ≤ x2_6.toInt ∧ x2_6.toInt ≤ 120) ∧ (BX s_6) ∧ (FR [36, 37, 39, 40, 42, 43] [1, 5] σ s_6)) ?_ (n := _) ⟨rfl, (by omega), hB_s_4, hF_s_4⟩ (show _ < 10000000 by omega)
    intro a_26 n x2_6 s_6 hI ih_a_26
    obtain ⟨hn_a_26, b_x2_6, hB_s_6, hF_s_6⟩ := hI
    have g_8 := gX_45 hB_s_6 0
    have g_9 : (s_6.1 45 0).toInt = (σ.1 45 0).toInt := by rw [hF_s_6.1 45 (by decide)]
    refine ok_ite (fun c_7 => ?_) (fun c_7 => ?_)
    · rw [fa_le] at c_7
      refine ok_ix ⟨by omega, by omega⟩ ?_
      have g_10 := gX_44 hB_s_6 (x1_1.toNatClampNeg)
      refine ok_lt fun v_8 e_v_8 => ?_
      have b_v_8 : 0 ≤ v_8.toInt ∧ v_8.toInt ≤ 119 := by rw [e_v_8]; exact gX_44 hB_s_6 _
      have q_v_8 : v_8.toInt = (σ.1 44 (x1_1.toNatClampNeg)).toInt := by rw [e_v_8, hF_s_6.1 44 (by decide)]
      refine ok_ix ⟨by omega, by omega⟩ ?_
      refine ok_lt fun s_9 e_s_9 => ?_
      have hB_s_9 : BX s_9 := by rw [e_s_9]; exact pX_37 hB_s_6 (by omega)
      have hF_s_9 : FR [36, 37, 39, 40, 42, 43] [1, 5] σ s_9 := by rw [e_s_9]; exact FR.st hF_s_6 (by decide)
      refine ok_lt fun x1_10 e_x1_10 => ?_
      have q_x1_10 : x1_10.toInt = t_6 := by rw [e_x1_10]; exact ht_6
      exact ih_a_2 _ x1_10 s_9 (by rw [hn_a_2]; omega) ⟨rfl, (by omega), hB_s_9, hF_s_9⟩
    · rw [fa_le] at c_7
      refine ok_ix ⟨by omega, by omega⟩ ?_
      have g_11 := gX_44 hB_s_6 (x2_6.toNatClampNeg)
      refine ok_lt fun v_11 e_v_11 => ?_
      have b_v_11 : 0 ≤ v_11.toInt ∧ v_11.toInt ≤ 119 := by rw [e_v_11]; exact gX_44 hB_s_6 _
      have q_v_11 : v_11.toInt = (σ.1 44 (x2_6.toNatClampNeg)).toInt := by rw [e_v_11, hF_s_6.1 44 (by decide)]
      refine ok_ix ⟨by omega, by omega⟩ ?_
      refine ok_lt fun s_12 e_s_12 => ?_
      have hB_s_12 : BX s_12 := by rw [e_s_12]; exact pX_37 hB_s_6 (by omega)
      have hF_s_12 : FR [36, 37, 39, 40, 42, 43] [1, 5] σ s_12 := by rw [e_s_12]; exact FR.st hF_s_6 (by decide)
      refine ok_calv (s_X8_isReducedNow  (σ := s_12) hB_s_12) (fun v_13 s_13 h_12 => ?_)
      obtain ⟨b_v_13, hB_s_13, hG_s_13⟩ := h_12
      (try dsimp only at b_v_13 hB_s_13 hG_s_13)
      have hF_s_13 : FR [36, 37, 39, 40, 42, 43] [1, 5] σ s_13 := FR.cal hF_s_12 hG_s_13 rfl rfl
      refine ok_ite (fun c_13 => ?_) (fun c_13 => ?_)
      · rw [fa_eq] at c_13
        refine ok_ix ⟨by omega, by omega⟩ ?_
        have g_14 := gX_44 hB_s_13 (x2_6.toNatClampNeg)
        refine ok_lt fun v_15 e_v_15 => ?_
        have b_v_15 : 0 ≤ v_15.toInt ∧ v_15.toInt ≤ 119 := by rw [e_v_15]; exact gX_44 hB_s_13 _
        have q_v_15 : v_15.toInt = (σ.1 44 (x2_6.toNatClampNeg)).toInt := by rw [e_v_15, hF_s_13.1 44 (by decide)]
        refine ok_ix ⟨by omega, by omega⟩ ?_
        refine ok_lt fun s_16 e_s_16 => ?_
        have hB_s_16 : BX s_16 := by rw [e_s_16]; exact pX_37 hB_s_13 (by omega)
        have hF_s_16 : FR [36, 37, 39, 40, 42, 43] [1, 5] σ s_16 := by rw [e_s_16]; exact FR.st hF_s_13 (by decide)
        obtain ⟨t_15, ht_15, g_15⟩ : ∃ t : Int, (x2_6 + 1).toInt = t ∧ t = x2_6.toInt + (1 : Int32).toInt := ⟨_, rfl, by have h9 := fb_addI (x := x2_6) (y := (1 : Int32)) (by omega) (by omega); exact h9⟩
        refine ok_lt fun x2_17 e_x2_17 => ?_
        have q_x2_17 : x2_17.toInt = t_15 := by rw [e_x2_17]; exact ht_15
        exact ih_a_26 _ x2_17 s_16 (by rw [hn_a_26]; omega) ⟨rfl, (by omega), hB_s_16, hF_s_16⟩
      · rw [fa_eq] at c_13
        refine ok_lt fun s_18 e_s_18 => ?_
        have hB_s_18 : BX s_18 := by rw [e_s_18]; exact pX_36 hB_s_13 (by omega)
        have hF_s_18 : FR [36, 37, 39, 40, 42, 43] [1, 5] σ s_18 := by rw [e_s_18]; exact FR.st hF_s_13 (by decide)
        exact ok_ret ⟨(by (try dsimp only); omega), hB_s_18, hF_s_18⟩

set_option maxHeartbeats 4000000 in
theorem s_X8_form {σ : Sto} (hB : BX σ) : OK (f_X8_form σ) (fun s => BX s ∧ FR [34, 35, 36, 37, 38, 39, 40, 41, 42, 43, 44, 45] [1, 2, 3, 4, 5] σ s) := by
  unfold f_X8_form
  have hF : FR [34, 35, 36, 37, 38, 39, 40, 41, 42, 43, 44, 45] [1, 2, 3, 4, 5] σ σ := FR.rf
  have k_0 : (0 : Int32).toInt = 0 := by decide +kernel
  have k_1 : (1 : Int32).toInt = 1 := by decide +kernel
  have k_120 : (120 : Int32).toInt = 120 := by decide +kernel
  refine ok_itr2 (fun (n : Nat) (x1_1 : Int32) (s_1 : Sto) => n = (121 - x1_1.toInt).toNat ∧ (0 ≤ x1_1.toInt ∧ x1_1.toInt ≤ 120) ∧ (BX s_1) ∧ (FR [34, 35, 36, 37, 38, 39, 40, 41, 42, 43, 44, 45] [1, 2, 3, 4, 5] σ s_1)) ?_ (n := _) ⟨rfl, (by omega), hB, hF⟩ (show _ < 10000000 by omega)
  intro a_2 n x1_1 s_1 hI ih_a_2
  obtain ⟨hn_a_2, b_x1_1, hB_s_1, hF_s_1⟩ := hI
  refine ok_ite (fun c_1 => ?_) (fun c_1 => ?_)
  · rw [fa_le] at c_1
    refine ok_lt fun s_3 e_s_3 => ?_
    have hB_s_3 : BX s_3 := by rw [e_s_3]; exact pX_36 hB_s_1 (by omega)
    have hF_s_3 : FR [34, 35, 36, 37, 38, 39, 40, 41, 42, 43, 44, 45] [1, 2, 3, 4, 5] σ s_3 := by rw [e_s_3]; exact FR.st hF_s_1 (by decide)
    have w_s_3_35 : (s_3.1 35 0).toInt = (s_1.1 35 0).toInt := by rw [e_s_3]; rfl
    refine ok_calv (s_X8_isReducedNow  (σ := s_3) hB_s_3) (fun v_4 s_4 h_2 => ?_)
    obtain ⟨b_v_4, hB_s_4, hG_s_4⟩ := h_2
    (try dsimp only at b_v_4 hB_s_4 hG_s_4)
    have hF_s_4 : FR [34, 35, 36, 37, 38, 39, 40, 41, 42, 43, 44, 45] [1, 2, 3, 4, 5] σ s_4 := FR.cal hF_s_3 hG_s_4 rfl rfl
    have w_s_4_35 : (s_4.1 35 0).toInt = (s_3.1 35 0).toInt := by rw [hG_s_4.1 35 (by decide)]
    refine ok_bz (by rw [fa_eq, fa_eq]; omega) ?_
    refine ok_lt fun s_5 e_s_5 => ?_
    have hB_s_5 : BX s_5 := by rw [e_s_5]; exact pX_35 hB_s_4 (by omega)
    have hF_s_5 : FR [34, 35, 36, 37, 38, 39, 40, 41, 42, 43, 44, 45] [1, 2, 3, 4, 5] σ s_5 := by rw [e_s_5]; exact FR.st hF_s_4 (by decide)
    have w_s_5_35 : (s_5.1 35 0).toInt = v_4.toInt := by rw [e_s_5, sti_s]
    refine ok_lt fun s_7 e_s_7 => ?_
    have hB_s_7 : BX s_7 := by rw [e_s_7]; exact pX_34 hB_s_5 (by omega)
    have hF_s_7 : FR [34, 35, 36, 37, 38, 39, 40, 41, 42, 43, 44, 45] [1, 2, 3, 4, 5] σ s_7 := by rw [e_s_7]; exact FR.st hF_s_5 (by decide)
    have w_s_7_35 : (s_7.1 35 0).toInt = (s_5.1 35 0).toInt := by rw [e_s_7]; rfl
    refine ok_jn ?_
    have g_4 := gX_35 hB_s_7 0
    refine ok_ite (fun c_3 => ?_) (fun c_3 => ?_)
    · rw [fa_eq] at c_3
      refine ok_cals (s_X8_findCandidates  (σ := s_7) hB_s_7) (fun s_19 h_5 => ?_)
      obtain ⟨hB_s_19, hG_s_19⟩ := h_5
      (try dsimp only at hB_s_19 hG_s_19)
      have hF_s_19 : FR [34, 35, 36, 37, 38, 39, 40, 41, 42, 43, 44, 45] [1, 2, 3, 4, 5] σ s_19 := FR.cal hF_s_7 hG_s_19 rfl rfl
      have w_s_19_35 : (s_19.1 35 0).toInt = (s_7.1 35 0).toInt := by rw [hG_s_19.1 35 (by decide)]
      refine ok_calv (s_X8_oneJumpIsEnough  (σ := s_19) hB_s_19) (fun v_20 s_20 h_6 => ?_)
      obtain ⟨b_v_20, hB_s_20, hG_s_20⟩ := h_6
      (try dsimp only at b_v_20 hB_s_20 hG_s_20)
      have hF_s_20 : FR [34, 35, 36, 37, 38, 39, 40, 41, 42, 43, 44, 45] [1, 2, 3, 4, 5] σ s_20 := FR.cal hF_s_19 hG_s_20 rfl rfl
      have w_s_20_35 : (s_20.1 35 0).toInt = (s_19.1 35 0).toInt := by rw [hG_s_20.1 35 (by decide)]
      refine ok_ite (fun c_7 => ?_) (fun c_7 => ?_)
      · rw [fa_eq] at c_7
        refine ok_calv (s_X8_twoJumpsAreEnough  (σ := s_20) hB_s_20) (fun v_22 s_22 h_8 => ?_)
        obtain ⟨b_v_22, hB_s_22, hG_s_22⟩ := h_8
        (try dsimp only at b_v_22 hB_s_22 hG_s_22)
        have hF_s_22 : FR [34, 35, 36, 37, 38, 39, 40, 41, 42, 43, 44, 45] [1, 2, 3, 4, 5] σ s_22 := FR.cal hF_s_20 hG_s_22 rfl rfl
        have w_s_22_35 : (s_22.1 35 0).toInt = (s_20.1 35 0).toInt := by rw [hG_s_22.1 35 (by decide)]
        refine ok_ite (fun c_9 => ?_) (fun c_9 => ?_)
        · rw [fa_eq] at c_9
          refine ok_lt fun s_24 e_s_24 => ?_
          have hB_s_24 : BX s_24 := by rw [e_s_24]; exact pX_34 hB_s_22 (by omega)
          have hF_s_24 : FR [34, 35, 36, 37, 38, 39, 40, 41, 42, 43, 44, 45] [1, 2, 3, 4, 5] σ s_24 := by rw [e_s_24]; exact FR.st hF_s_22 (by decide)
          have w_s_24_35 : (s_24.1 35 0).toInt = (s_22.1 35 0).toInt := by rw [e_s_24]; rfl
          refine ok_calv (s_X8_isReducedNow  (σ := s_24) hB_s_24) (fun v_25 s_25 h_10 => ?_)
          obtain ⟨b_v_25, hB_s_25, hG_s_25⟩ := h_10
          (try dsimp only at b_v_25 hB_s_25 hG_s_25)
          have hF_s_25 : FR [34, 35, 36, 37, 38, 39, 40, 41, 42, 43, 44, 45] [1, 2, 3, 4, 5] σ s_25 := FR.cal hF_s_24 hG_s_25 rfl rfl
          have w_s_25_35 : (s_25.1 35 0).toInt = (s_24.1 35 0).toInt := by rw [hG_s_25.1 35 (by decide)]
          refine ok_itr2 (fun (n : Nat) (x1_9 : Int32) (s_9 : Sto) => n = (121 - x1_9.toInt).toNat ∧ (0 ≤ x1_9.toInt ∧ x1_9.toInt ≤ 120) ∧ (BX s_9) ∧ (FR [34, 35, 36, 37, 38, 39, 40, 41, 42, 43, 44, 45] [1, 2, 3, 4, 5] σ s_9)) ?_ (n := _) ⟨rfl, (by omega), hB_s_25, hF_s_25⟩ (show _ < 10000000 by omega)
          intro a_76 n x1_9 s_9 hI ih_a_76
          obtain ⟨hn_a_76, b_x1_9, hB_s_9, hF_s_9⟩ := hI
          have g_12 := gX_27 hB_s_9 0
          have g_13 : (s_9.1 27 0).toInt = (σ.1 27 0).toInt := by rw [hF_s_9.1 27 (by decide)]
          have g_14 := gX_27 hB 0
          refine ok_ite (fun c_11 => ?_) (fun c_11 => ?_)
          · rw [fa_le] at c_11
            refine ok_cals (s_X8_findAbove  (σ := s_9) hB_s_9) (fun s_11 h_15 => ?_)
            obtain ⟨hB_s_11, hG_s_11⟩ := h_15
            (try dsimp only at hB_s_11 hG_s_11)
            have hF_s_11 : FR [34, 35, 36, 37, 38, 39, 40, 41, 42, 43, 44, 45] [1, 2, 3, 4, 5] σ s_11 := FR.cal hF_s_9 hG_s_11 rfl rfl
            have w_s_11_35 : (s_11.1 35 0).toInt = (s_9.1 35 0).toInt := by rw [hG_s_11.1 35 (by decide)]
            refine ok_cals (s_X8_findLoops  (σ := s_11) hB_s_11) (fun s_12 h_16 => ?_)
            obtain ⟨hB_s_12, hG_s_12⟩ := h_16
            (try dsimp only at hB_s_12 hG_s_12)
            have hF_s_12 : FR [34, 35, 36, 37, 38, 39, 40, 41, 42, 43, 44, 45] [1, 2, 3, 4, 5] σ s_12 := FR.cal hF_s_11 hG_s_12 rfl rfl
            have w_s_12_35 : (s_12.1 35 0).toInt = (s_11.1 35 0).toInt := by rw [hG_s_12.1 35 (by decide)]
            refine ok_cals (s_X8_findMerges  (σ := s_12) hB_s_12) (fun s_13 h_17 => ?_)
            obtain ⟨hB_s_13, hG_s_13⟩ := h_17
            (try dsimp only at hB_s_13 hG_s_13)
            have hF_s_13 : FR [34, 35, 36, 37, 38, 39, 40, 41, 42, 43, 44, 45] [1, 2, 3, 4, 5] σ s_13 := FR.cal hF_s_12 hG_s_13 rfl rfl
            have w_s_13_35 : (s_13.1 35 0).toInt = (s_12.1 35 0).toInt := by rw [hG_s_13.1 35 (by decide)]
            exact ok_ret ⟨hB_s_13, hF_s_13⟩
          · rw [fa_le] at c_11
            refine ok_calp (s_X8_isBack (x1 := x1_9) (σ := s_9) hB_s_9 (by omega)) (fun v_14 h_18 => ?_)
            have b_v_14 := h_18
            (try dsimp only at b_v_14)
            refine ok_bz (by rw [fa_eq, fa_eq]; omega) ?_
            refine ok_ix ⟨by omega, by omega⟩ ?_
            refine ok_lt fun s_15 e_s_15 => ?_
            have hB_s_15 : BX s_15 := by rw [e_s_15]; exact pX_38 hB_s_9 (by omega)
            have hF_s_15 : FR [34, 35, 36, 37, 38, 39, 40, 41, 42, 43, 44, 45] [1, 2, 3, 4, 5] σ s_15 := by rw [e_s_15]; exact FR.st hF_s_9 (by decide)
            have w_s_15_35 : (s_15.1 35 0).toInt = (s_9.1 35 0).toInt := by rw [e_s_15]; rfl
            obtain ⟨t_19, ht_19, g_19⟩ : ∃ t : Int, (x1_9 + 1).toInt = t ∧ t = x1_9.toInt + (1 : Int32).toInt := ⟨_, rfl, by have h9 := fb_addI (x := x1_9) (y := (1 : Int32)) (by omega) (by omega); exact h9⟩
            refine ok_lt fun x1_17 e_x1_17 => ?_
            have q_x1_17 : x1_17.toInt = t_19 := by rw [e_x1_17]; exact ht_19
            exact ih_a_76 _ x1_17 s_15 (by rw [hn_a_76]; omega) ⟨rfl, (by omega), hB_s_15, hF_s_15⟩
        · rw [fa_eq] at c_9
          refine ok_itr2 (fun (n : Nat) (x1_9 : Int32) (s_9 : Sto) => n = (121 - x1_9.toInt).toNat ∧ (0 ≤ x1_9.toInt ∧ x1_9.toInt ≤ 120) ∧ (BX s_9) ∧ (FR [34, 35, 36, 37, 38, 39, 40, 41, 42, 43, 44, 45] [1, 2, 3, 4, 5] σ s_9)) ?_ (n := _) ⟨rfl, (by omega), hB_s_22, hF_s_22⟩ (show _ < 10000000 by omega)
          intro a_76 n x1_9 s_9 hI ih_a_76
          obtain ⟨hn_a_76, b_x1_9, hB_s_9, hF_s_9⟩ := hI
          have g_21 := gX_27 hB_s_9 0
          have g_22 : (s_9.1 27 0).toInt = (σ.1 27 0).toInt := by rw [hF_s_9.1 27 (by decide)]
          have g_23 := gX_27 hB 0
          refine ok_ite (fun c_20 => ?_) (fun c_20 => ?_)
          · rw [fa_le] at c_20
            refine ok_cals (s_X8_findAbove  (σ := s_9) hB_s_9) (fun s_11 h_24 => ?_)
            obtain ⟨hB_s_11, hG_s_11⟩ := h_24
            (try dsimp only at hB_s_11 hG_s_11)
            have hF_s_11 : FR [34, 35, 36, 37, 38, 39, 40, 41, 42, 43, 44, 45] [1, 2, 3, 4, 5] σ s_11 := FR.cal hF_s_9 hG_s_11 rfl rfl
            have w_s_11_35 : (s_11.1 35 0).toInt = (s_9.1 35 0).toInt := by rw [hG_s_11.1 35 (by decide)]
            refine ok_cals (s_X8_findLoops  (σ := s_11) hB_s_11) (fun s_12 h_25 => ?_)
            obtain ⟨hB_s_12, hG_s_12⟩ := h_25
            (try dsimp only at hB_s_12 hG_s_12)
            have hF_s_12 : FR [34, 35, 36, 37, 38, 39, 40, 41, 42, 43, 44, 45] [1, 2, 3, 4, 5] σ s_12 := FR.cal hF_s_11 hG_s_12 rfl rfl
            have w_s_12_35 : (s_12.1 35 0).toInt = (s_11.1 35 0).toInt := by rw [hG_s_12.1 35 (by decide)]
            refine ok_cals (s_X8_findMerges  (σ := s_12) hB_s_12) (fun s_13 h_26 => ?_)
            obtain ⟨hB_s_13, hG_s_13⟩ := h_26
            (try dsimp only at hB_s_13 hG_s_13)
            have hF_s_13 : FR [34, 35, 36, 37, 38, 39, 40, 41, 42, 43, 44, 45] [1, 2, 3, 4, 5] σ s_13 := FR.cal hF_s_12 hG_s_13 rfl rfl
            have w_s_13_35 : (s_13.1 35 0).toInt = (s_12.1 35 0).toInt := by rw [hG_s_13.1 35 (by decide)]
            exact ok_ret ⟨hB_s_13, hF_s_13⟩
          · rw [fa_le] at c_20
            refine ok_calp (s_X8_isBack (x1 := x1_9) (σ := s_9) hB_s_9 (by omega)) (fun v_14 h_27 => ?_)
            have b_v_14 := h_27
            (try dsimp only at b_v_14)
            refine ok_bz (by rw [fa_eq, fa_eq]; omega) ?_
            refine ok_ix ⟨by omega, by omega⟩ ?_
            refine ok_lt fun s_15 e_s_15 => ?_
            have hB_s_15 : BX s_15 := by rw [e_s_15]; exact pX_38 hB_s_9 (by omega)
            have hF_s_15 : FR [34, 35, 36, 37, 38, 39, 40, 41, 42, 43, 44, 45] [1, 2, 3, 4, 5] σ s_15 := by rw [e_s_15]; exact FR.st hF_s_9 (by decide)
            have w_s_15_35 : (s_15.1 35 0).toInt = (s_9.1 35 0).toInt := by rw [e_s_15]; rfl
            obtain ⟨t_28, ht_28, g_28⟩ : ∃ t : Int, (x1_9 + 1).toInt = t ∧ t = x1_9.toInt + (1 : Int32).toInt := ⟨_, rfl, by have h9 := fb_addI (x := x1_9) (y := (1 : Int32)) (by omega) (by omega); exact h9⟩
            refine ok_lt fun x1_17 e_x1_17 => ?_
            have q_x1_17 : x1_17.toInt = t_28 := by rw [e_x1_17]; exact ht_28
            exact ih_a_76 _ x1_17 s_15 (by rw [hn_a_76]; omega) ⟨rfl, (by omega), hB_s_15, hF_s_15⟩
      · rw [fa_eq] at c_7
        refine ok_itr2 (fun (n : Nat) (x1_9 : Int32) (s_9 : Sto) => n = (121 - x1_9.toInt).toNat ∧ (0 ≤ x1_9.toInt ∧ x1_9.toInt ≤ 120) ∧ (BX s_9) ∧ (FR [34, 35, 36, 37, 38, 39, 40, 41, 42, 43, 44, 45] [1, 2, 3, 4, 5] σ s_9)) ?_ (n := _) ⟨rfl, (by omega), hB_s_20, hF_s_20⟩ (show _ < 10000000 by omega)
        intro a_76 n x1_9 s_9 hI ih_a_76
        obtain ⟨hn_a_76, b_x1_9, hB_s_9, hF_s_9⟩ := hI
        have g_30 := gX_27 hB_s_9 0
        have g_31 : (s_9.1 27 0).toInt = (σ.1 27 0).toInt := by rw [hF_s_9.1 27 (by decide)]
        have g_32 := gX_27 hB 0
        refine ok_ite (fun c_29 => ?_) (fun c_29 => ?_)
        · rw [fa_le] at c_29
          refine ok_cals (s_X8_findAbove  (σ := s_9) hB_s_9) (fun s_11 h_33 => ?_)
          obtain ⟨hB_s_11, hG_s_11⟩ := h_33
          (try dsimp only at hB_s_11 hG_s_11)
          have hF_s_11 : FR [34, 35, 36, 37, 38, 39, 40, 41, 42, 43, 44, 45] [1, 2, 3, 4, 5] σ s_11 := FR.cal hF_s_9 hG_s_11 rfl rfl
          have w_s_11_35 : (s_11.1 35 0).toInt = (s_9.1 35 0).toInt := by rw [hG_s_11.1 35 (by decide)]
          refine ok_cals (s_X8_findLoops  (σ := s_11) hB_s_11) (fun s_12 h_34 => ?_)
          obtain ⟨hB_s_12, hG_s_12⟩ := h_34
          (try dsimp only at hB_s_12 hG_s_12)
          have hF_s_12 : FR [34, 35, 36, 37, 38, 39, 40, 41, 42, 43, 44, 45] [1, 2, 3, 4, 5] σ s_12 := FR.cal hF_s_11 hG_s_12 rfl rfl
          have w_s_12_35 : (s_12.1 35 0).toInt = (s_11.1 35 0).toInt := by rw [hG_s_12.1 35 (by decide)]
          refine ok_cals (s_X8_findMerges  (σ := s_12) hB_s_12) (fun s_13 h_35 => ?_)
          obtain ⟨hB_s_13, hG_s_13⟩ := h_35
          (try dsimp only at hB_s_13 hG_s_13)
          have hF_s_13 : FR [34, 35, 36, 37, 38, 39, 40, 41, 42, 43, 44, 45] [1, 2, 3, 4, 5] σ s_13 := FR.cal hF_s_12 hG_s_13 rfl rfl
          have w_s_13_35 : (s_13.1 35 0).toInt = (s_12.1 35 0).toInt := by rw [hG_s_13.1 35 (by decide)]
          exact ok_ret ⟨hB_s_13, hF_s_13⟩
        · rw [fa_le] at c_29
          refine ok_calp (s_X8_isBack (x1 := x1_9) (σ := s_9) hB_s_9 (by omega)) (fun v_14 h_36 => ?_)
          have b_v_14 := h_36
          (try dsimp only at b_v_14)
          refine ok_bz (by rw [fa_eq, fa_eq]; omega) ?_
          refine ok_ix ⟨by omega, by omega⟩ ?_
          refine ok_lt fun s_15 e_s_15 => ?_
          have hB_s_15 : BX s_15 := by rw [e_s_15]; exact pX_38 hB_s_9 (by omega)
          have hF_s_15 : FR [34, 35, 36, 37, 38, 39, 40, 41, 42, 43, 44, 45] [1, 2, 3, 4, 5] σ s_15 := by rw [e_s_15]; exact FR.st hF_s_9 (by decide)
          have w_s_15_35 : (s_15.1 35 0).toInt = (s_9.1 35 0).toInt := by rw [e_s_15]; rfl
          obtain ⟨t_37, ht_37, g_37⟩ : ∃ t : Int, (x1_9 + 1).toInt = t ∧ t = x1_9.toInt + (1 : Int32).toInt := ⟨_, rfl, by have h9 := fb_addI (x := x1_9) (y := (1 : Int32)) (by omega) (by omega); exact h9⟩
          refine ok_lt fun x1_17 e_x1_17 => ?_
          have q_x1_17 : x1_17.toInt = t_37 := by rw [e_x1_17]; exact ht_37
          exact ih_a_76 _ x1_17 s_15 (by rw [hn_a_76]; omega) ⟨rfl, (by omega), hB_s_15, hF_s_15⟩
    · rw [fa_eq] at c_3
      refine ok_itr2 (fun (n : Nat) (x1_9 : Int32) (s_9 : Sto) => n = (121 - x1_9.toInt).toNat ∧ (0 ≤ x1_9.toInt ∧ x1_9.toInt ≤ 120) ∧ (BX s_9) ∧ (FR [34, 35, 36, 37, 38, 39, 40, 41, 42, 43, 44, 45] [1, 2, 3, 4, 5] σ s_9)) ?_ (n := _) ⟨rfl, (by omega), hB_s_7, hF_s_7⟩ (show _ < 10000000 by omega)
      intro a_76 n x1_9 s_9 hI ih_a_76
      obtain ⟨hn_a_76, b_x1_9, hB_s_9, hF_s_9⟩ := hI
      have g_39 := gX_27 hB_s_9 0
      have g_40 : (s_9.1 27 0).toInt = (σ.1 27 0).toInt := by rw [hF_s_9.1 27 (by decide)]
      have g_41 := gX_27 hB 0
      refine ok_ite (fun c_38 => ?_) (fun c_38 => ?_)
      · rw [fa_le] at c_38
        refine ok_cals (s_X8_findAbove  (σ := s_9) hB_s_9) (fun s_11 h_42 => ?_)
        obtain ⟨hB_s_11, hG_s_11⟩ := h_42
        (try dsimp only at hB_s_11 hG_s_11)
        have hF_s_11 : FR [34, 35, 36, 37, 38, 39, 40, 41, 42, 43, 44, 45] [1, 2, 3, 4, 5] σ s_11 := FR.cal hF_s_9 hG_s_11 rfl rfl
        have w_s_11_35 : (s_11.1 35 0).toInt = (s_9.1 35 0).toInt := by rw [hG_s_11.1 35 (by decide)]
        refine ok_cals (s_X8_findLoops  (σ := s_11) hB_s_11) (fun s_12 h_43 => ?_)
        obtain ⟨hB_s_12, hG_s_12⟩ := h_43
        (try dsimp only at hB_s_12 hG_s_12)
        have hF_s_12 : FR [34, 35, 36, 37, 38, 39, 40, 41, 42, 43, 44, 45] [1, 2, 3, 4, 5] σ s_12 := FR.cal hF_s_11 hG_s_12 rfl rfl
        have w_s_12_35 : (s_12.1 35 0).toInt = (s_11.1 35 0).toInt := by rw [hG_s_12.1 35 (by decide)]
        refine ok_cals (s_X8_findMerges  (σ := s_12) hB_s_12) (fun s_13 h_44 => ?_)
        obtain ⟨hB_s_13, hG_s_13⟩ := h_44
        (try dsimp only at hB_s_13 hG_s_13)
        have hF_s_13 : FR [34, 35, 36, 37, 38, 39, 40, 41, 42, 43, 44, 45] [1, 2, 3, 4, 5] σ s_13 := FR.cal hF_s_12 hG_s_13 rfl rfl
        have w_s_13_35 : (s_13.1 35 0).toInt = (s_12.1 35 0).toInt := by rw [hG_s_13.1 35 (by decide)]
        exact ok_ret ⟨hB_s_13, hF_s_13⟩
      · rw [fa_le] at c_38
        refine ok_calp (s_X8_isBack (x1 := x1_9) (σ := s_9) hB_s_9 (by omega)) (fun v_14 h_45 => ?_)
        have b_v_14 := h_45
        (try dsimp only at b_v_14)
        refine ok_bz (by rw [fa_eq, fa_eq]; omega) ?_
        refine ok_ix ⟨by omega, by omega⟩ ?_
        refine ok_lt fun s_15 e_s_15 => ?_
        have hB_s_15 : BX s_15 := by rw [e_s_15]; exact pX_38 hB_s_9 (by omega)
        have hF_s_15 : FR [34, 35, 36, 37, 38, 39, 40, 41, 42, 43, 44, 45] [1, 2, 3, 4, 5] σ s_15 := by rw [e_s_15]; exact FR.st hF_s_9 (by decide)
        have w_s_15_35 : (s_15.1 35 0).toInt = (s_9.1 35 0).toInt := by rw [e_s_15]; rfl
        obtain ⟨t_46, ht_46, g_46⟩ : ∃ t : Int, (x1_9 + 1).toInt = t ∧ t = x1_9.toInt + (1 : Int32).toInt := ⟨_, rfl, by have h9 := fb_addI (x := x1_9) (y := (1 : Int32)) (by omega) (by omega); exact h9⟩
        refine ok_lt fun x1_17 e_x1_17 => ?_
        have q_x1_17 : x1_17.toInt = t_46 := by rw [e_x1_17]; exact ht_46
        exact ih_a_76 _ x1_17 s_15 (by rw [hn_a_76]; omega) ⟨rfl, (by omega), hB_s_15, hF_s_15⟩
  · rw [fa_le] at c_1
    refine ok_ix ⟨by omega, by omega⟩ ?_
    refine ok_lt fun s_26 e_s_26 => ?_
    have hB_s_26 : BX s_26 := by rw [e_s_26]; exact pX_37 hB_s_1 (by omega)
    have hF_s_26 : FR [34, 35, 36, 37, 38, 39, 40, 41, 42, 43, 44, 45] [1, 2, 3, 4, 5] σ s_26 := by rw [e_s_26]; exact FR.st hF_s_1 (by decide)
    have w_s_26_35 : (s_26.1 35 0).toInt = (s_1.1 35 0).toInt := by rw [e_s_26]; rfl
    obtain ⟨t_47, ht_47, g_47⟩ : ∃ t : Int, (x1_1 + 1).toInt = t ∧ t = x1_1.toInt + (1 : Int32).toInt := ⟨_, rfl, by have h9 := fb_addI (x := x1_1) (y := (1 : Int32)) (by omega) (by omega); exact h9⟩
    refine ok_lt fun x1_27 e_x1_27 => ?_
    have q_x1_27 : x1_27.toInt = t_47 := by rw [e_x1_27]; exact ht_47
    exact ih_a_2 _ x1_27 s_26 (by rw [hn_a_2]; omega) ⟨rfl, (by omega), hB_s_26, hF_s_26⟩

set_option maxHeartbeats 4000000 in
theorem s_X7_isName {x1 : Int32} {σ : Sto} (hB : BX σ) (p_x1 : 0 ≤ x1.toInt ∧ x1.toInt ≤ 511) : OK (f_X7_isName x1 σ) (fun v => (0 ≤ v.toInt ∧ v.toInt ≤ 1)) := by
  unfold f_X7_isName
  have hF : FR [] [] σ σ := FR.rf
  have k_0 : (0 : Int32).toInt = 0 := by decide +kernel
  have k_1 : (1 : Int32).toInt = 1 := by decide +kernel
  have k_84 : (84 : Int32).toInt = 84 := by decide +kernel
  have k_88 : (88 : Int32).toInt = 88 := by decide +kernel
  have k_108 : (108 : Int32).toInt = 108 := by decide +kernel
  refine ok_ix ⟨by omega, by omega⟩ ?_
  have g_1 := gX_47 hB (x1.toNatClampNeg)
  refine ok_lt fun v_1 e_v_1 => ?_
  have b_v_1 : 0 ≤ v_1.toInt ∧ v_1.toInt ≤ 255 := by rw [e_v_1]; exact gX_47 hB _
  have q_v_1 : v_1.toInt = (σ.1 47 x1.toNatClampNeg).toInt := by rw [e_v_1]
  refine ok_jn ?_
  refine ok_ite (fun c_2 => ?_) (fun c_2 => ?_)
  · rw [fa_eq] at c_2
    exact ok_ret (by (try dsimp only); omega)
  · rw [fa_eq] at c_2
    refine ok_ix ⟨by omega, by omega⟩ ?_
    refine ok_lt fun v_4 e_v_4 => ?_
    have b_v_4 : 0 ≤ v_4.toInt ∧ v_4.toInt ≤ 255 := by rw [e_v_4]; exact gX_47 hB _
    have q_v_4 : v_4.toInt = (σ.1 47 x1.toNatClampNeg).toInt := by rw [e_v_4]
    refine ok_ite (fun c_3 => ?_) (fun c_3 => ?_)
    · rw [fa_eq] at c_3
      exact ok_ret (by (try dsimp only); omega)
    · rw [fa_eq] at c_3
      refine ok_ix ⟨by omega, by omega⟩ ?_
      refine ok_lt fun v_6 e_v_6 => ?_
      have b_v_6 : 0 ≤ v_6.toInt ∧ v_6.toInt ≤ 255 := by rw [e_v_6]; exact gX_47 hB _
      have q_v_6 : v_6.toInt = (σ.1 47 x1.toNatClampNeg).toInt := by rw [e_v_6]
      refine ok_ite (fun c_4 => ?_) (fun c_4 => ?_)
      · rw [fa_eq] at c_4
        exact ok_ret (by (try dsimp only); omega)
      · rw [fa_eq] at c_4
        exact ok_ret (by (try dsimp only); omega)

set_option maxHeartbeats 4000000 in
theorem s_X11_isUnary {x1 : Int32} (p_x1 : 0 ≤ x1.toInt ∧ x1.toInt ≤ 255) : OK (f_X11_isUnary x1) (fun v => (0 ≤ v.toInt ∧ v.toInt ≤ 1) ∧ ((v.toInt = 1 ↔ opU x1))) := by
  unfold f_X11_isUnary
  have k_0 : (0 : Int32).toInt = 0 := by decide +kernel
  have k_1 : (1 : Int32).toInt = 1 := by decide +kernel
  have k_33 : (33 : Int32).toInt = 33 := by decide +kernel
  have k_110 : (110 : Int32).toInt = 110 := by decide +kernel
  refine ok_jn ?_
  refine ok_ite (fun c_1 => ?_) (fun c_1 => ?_)
  · rw [fa_eq] at c_1
    exact ok_ret ⟨(by (try dsimp only); omega), (by (try dsimp only); unfold opU; omega)⟩
  · rw [fa_eq] at c_1
    refine ok_ite (fun c_2 => ?_) (fun c_2 => ?_)
    · rw [fa_eq] at c_2
      exact ok_ret ⟨(by (try dsimp only); omega), (by (try dsimp only); unfold opU; omega)⟩
    · rw [fa_eq] at c_2
      exact ok_ret ⟨(by (try dsimp only); omega), (by (try dsimp only); unfold opU; omega)⟩

set_option maxHeartbeats 4000000 in
theorem s_X1_tellWithin {x1 : Int32} {σ : Sto} (hB : BX σ) (hPI : PI σ) (p_x1 : 0 ≤ x1.toInt ∧ x1.toInt ≤ 511) : OK (f_X1_tellWithin x1 σ) (fun s => BX s ∧ FR [62] [] σ s) := by
  unfold f_X1_tellWithin
  have hF : FR [62] [] σ σ := FR.rf
  have k_0 : (0 : Int32).toInt = 0 := by decide +kernel
  have k_1 : (1 : Int32).toInt = 1 := by decide +kernel
  refine ok_ix ⟨by omega, by omega⟩ ?_
  have g_1 := gX_47 hB (x1.toNatClampNeg)
  refine ok_lt fun v_1 e_v_1 => ?_
  have b_v_1 : 0 ≤ v_1.toInt ∧ v_1.toInt ≤ 255 := by rw [e_v_1]; exact gX_47 hB _
  have q_v_1 : v_1.toInt = (σ.1 47 x1.toNatClampNeg).toInt := by rw [e_v_1]
  refine ok_calp (s_X11_isBinary (x1 := v_1) ) (fun v_2 h_2 => ?_)
  obtain ⟨b_v_2, x_v_2⟩ := h_2
  (try dsimp only at b_v_2 x_v_2)
  have hb2 : v_2.toInt = 1 → v_1.toInt ≠ 107 := fun h => by have h9 := x_v_2.mp h; unfold opB at h9; omega
  refine ok_jn ?_
  refine ok_jn ?_
  refine ok_ite (fun c_3 => ?_) (fun c_3 => ?_)
  · rw [fa_eq] at c_3
    refine ok_ix ⟨by omega, by omega⟩ ?_
    refine ok_lt fun v_11 e_v_11 => ?_
    have b_v_11 : 0 ≤ v_11.toInt ∧ v_11.toInt ≤ 255 := by rw [e_v_11]; exact gX_47 hB _
    have q_v_11 : v_11.toInt = (σ.1 47 x1.toNatClampNeg).toInt := by rw [e_v_11]
    refine ok_calp (s_X11_isUnary (x1 := v_11) (by omega)) (fun v_12 h_4 => ?_)
    obtain ⟨b_v_12, x_v_12⟩ := h_4
    (try dsimp only at b_v_12 x_v_12)
    have hb12 : v_12.toInt = 1 → v_11.toInt ≠ 107 := fun h => by have h9 := x_v_12.mp h; unfold opU at h9; omega
    refine ok_ite (fun c_5 => ?_) (fun c_5 => ?_)
    · rw [fa_eq] at c_5
      refine ok_ite (fun c_6 => ?_) (fun c_6 => ?_)
      · rw [fa_eq] at c_6
        exact ok_ret ⟨hB, hF⟩
      · rw [fa_eq] at c_6
        exfalso; omega
    · rw [fa_eq] at c_5
      refine ok_ix ⟨by omega, by omega⟩ ?_
      have g_7 := gX_48 hB (x1.toNatClampNeg)
      refine ok_lt fun v_8 e_v_8 => ?_
      have b_v_8 : 0 ≤ v_8.toInt ∧ v_8.toInt ≤ 999 := by rw [e_v_8]; exact gX_48 hB _
      have y1 : (σ.1 47 x1.toNatClampNeg).toInt ≠ 107 → v_8.toInt ≤ 511 := by rw [e_v_8]; exact (hPI _).1
      refine ok_ix ⟨by omega, by omega⟩ ?_
      refine ok_lt fun s_9 e_s_9 => ?_
      have hB_s_9 : BX s_9 := by rw [e_s_9]; exact pX_62 hB (by omega)
      have hF_s_9 : FR [62] [] σ s_9 := by rw [e_s_9]; exact FR.st hF (by decide)
      have hPI_s_9 : PI s_9 := by rw [e_s_9]; exact PI.st1 (by decide) hPI
      refine ok_ite (fun c_8 => ?_) (fun c_8 => ?_)
      · rw [fa_eq] at c_8
        exact ok_ret ⟨hB_s_9, hF_s_9⟩
      · rw [fa_eq] at c_8
        exfalso; omega
  · rw [fa_eq] at c_3
    refine ok_ix ⟨by omega, by omega⟩ ?_
    have g_9 := gX_48 hB (x1.toNatClampNeg)
    refine ok_lt fun v_8 e_v_8 => ?_
    have b_v_8 : 0 ≤ v_8.toInt ∧ v_8.toInt ≤ 999 := by rw [e_v_8]; exact gX_48 hB _
    have y1 : (σ.1 47 x1.toNatClampNeg).toInt ≠ 107 → v_8.toInt ≤ 511 := by rw [e_v_8]; exact (hPI _).1
    refine ok_ix ⟨by omega, by omega⟩ ?_
    refine ok_lt fun s_9 e_s_9 => ?_
    have hB_s_9 : BX s_9 := by rw [e_s_9]; exact pX_62 hB (by omega)
    have hF_s_9 : FR [62] [] σ s_9 := by rw [e_s_9]; exact FR.st hF (by decide)
    have hPI_s_9 : PI s_9 := by rw [e_s_9]; exact PI.st1 (by decide) hPI
    refine ok_ite (fun c_10 => ?_) (fun c_10 => ?_)
    · rw [fa_eq] at c_10
      exfalso; omega
    · rw [fa_eq] at c_10
      refine ok_ix ⟨by omega, by omega⟩ ?_
      have g_11 := gX_49 hB_s_9 (x1.toNatClampNeg)
      refine ok_lt fun v_5 e_v_5 => ?_
      have b_v_5 : 0 ≤ v_5.toInt ∧ v_5.toInt ≤ 511 := by rw [e_v_5]; exact gX_49 hB_s_9 _
      refine ok_ix ⟨by omega, by omega⟩ ?_
      refine ok_lt fun s_6 e_s_6 => ?_
      have hB_s_6 : BX s_6 := by rw [e_s_6]; exact pX_62 hB_s_9 (by omega)
      have hF_s_6 : FR [62] [] σ s_6 := by rw [e_s_6]; exact FR.st hF_s_9 (by decide)
      have hPI_s_6 : PI s_6 := by rw [e_s_6]; exact PI.st1 (by decide) hPI_s_9
      exact ok_ret ⟨hB_s_6, hF_s_6⟩

set_option maxHeartbeats 4000000 in
theorem s_X1_countUnlike {σ : Sto} (hB : BX σ) (hPI : PI σ) : OK (f_X1_countUnlike σ) (fun s => BX s ∧ FR [59, 62] [] σ s) := by
  unfold f_X1_countUnlike
  have hF : FR [59, 62] [] σ σ := FR.rf
  have k_m1 : ((-1) : Int32).toInt = -1 := by decide +kernel
  have k_0 : (0 : Int32).toInt = 0 := by decide +kernel
  have k_1 : (1 : Int32).toInt = 1 := by decide +kernel
  have g9 := gX_46 hB 0
  refine ok_itr2 (fun (n : Nat) (x1_1 : Int32) (s_1 : Sto) => n = (513 - x1_1.toInt).toNat ∧ (0 ≤ x1_1.toInt ∧ x1_1.toInt ≤ 512) ∧ (BX s_1) ∧ (FR [59, 62] [] σ s_1) ∧ (PI s_1)) ?_ (n := _) ⟨rfl, (by omega), hB, hF, hPI⟩ (show _ < 10000000 by omega)
  intro a_2 n x1_1 s_1 hI ih_a_2
  obtain ⟨hn_a_2, b_x1_1, hB_s_1, hF_s_1, hPI_s_1⟩ := hI
  have g_2 := gX_46 hB_s_1 0
  have g_3 : (s_1.1 46 0).toInt = (σ.1 46 0).toInt := by rw [hF_s_1.1 46 (by decide)]
  have g_4 := gX_46 hB 0
  refine ok_ite (fun c_1 => ?_) (fun c_1 => ?_)
  · rw [fa_le] at c_1
    refine ok_itr2 (fun (n : Nat) (x1_3 : Int32) (s_3 : Sto) => n = (321 - x1_3.toInt).toNat ∧ (0 ≤ x1_3.toInt ∧ x1_3.toInt ≤ 320) ∧ (BX s_3) ∧ (FR [59, 62] [] σ s_3) ∧ (PI s_3)) ?_ (n := _) ⟨rfl, (by omega), hB_s_1, hF_s_1, hPI_s_1⟩ (show _ < 10000000 by omega)
    intro a_28 n x1_3 s_3 hI ih_a_28
    obtain ⟨hn_a_28, b_x1_3, hB_s_3, hF_s_3, hPI_s_3⟩ := hI
    have g_6 := gX_52 hB_s_3 0
    have g_7 : (s_3.1 52 0).toInt = (σ.1 52 0).toInt := by rw [hF_s_3.1 52 (by decide)]
    have g_8 := gX_52 hB 0
    refine ok_ite (fun c_5 => ?_) (fun c_5 => ?_)
    · rw [fa_le] at c_5
      refine ok_itr2 (fun (n : Nat) (x1_5 : Int32) (s_5 : Sto) => n = (41 - x1_5.toInt).toNat ∧ (0 ≤ x1_5.toInt ∧ x1_5.toInt ≤ 40) ∧ (BX s_5) ∧ (FR [59, 62] [] σ s_5) ∧ (PI s_5)) ?_ (n := _) ⟨rfl, (by omega), hB_s_3, hF_s_3, hPI_s_3⟩ (show _ < 10000000 by omega)
      intro a_66 n x1_5 s_5 hI ih_a_66
      obtain ⟨hn_a_66, b_x1_5, hB_s_5, hF_s_5, hPI_s_5⟩ := hI
      have g_10 := gX_20 hB_s_5 0
      have g_11 : (s_5.1 20 0).toInt = (σ.1 20 0).toInt := by rw [hF_s_5.1 20 (by decide)]
      have g_12 := gX_20 hB 0
      refine ok_ite (fun c_9 => ?_) (fun c_9 => ?_)
      · rw [fa_le] at c_9
        refine ok_lt fun s_7 e_s_7 => ?_
        have hB_s_7 : BX s_7 := by rw [e_s_7]; exact pX_59 hB_s_5 (by omega)
        have hF_s_7 : FR [59, 62] [] σ s_7 := by rw [e_s_7]; exact FR.st hF_s_5 (by decide)
        have w_s_7_59 : (s_7.1 59 0).toInt = (0 : Int32).toInt := by rw [e_s_7, sti_s]
        have hPI_s_7 : PI s_7 := by rw [e_s_7]; exact PI.st1 (by decide) hPI_s_5
        have g_13 := gX_46 hB_s_7 0
        have g_14 : (s_7.1 46 0).toInt = (σ.1 46 0).toInt := by rw [hF_s_7.1 46 (by decide)]
        obtain ⟨t_15, ht_15, g_15⟩ : ∃ t : Int, ((s_7.1 46 0) - 1).toInt = t ∧ t = (s_7.1 46 0).toInt - (1 : Int32).toInt := ⟨_, rfl, by have h9 := fb_subI (x := (s_7.1 46 0)) (y := (1 : Int32)) (by omega) (by omega); exact h9⟩
        refine ok_lt fun x1_8 e_x1_8 => ?_
        have q_x1_8 : x1_8.toInt = t_15 := by rw [e_x1_8]; exact ht_15
        refine ok_itr2 (fun (n : Nat) (x1_9 : Int32) (s_9 : Sto) => n = (x1_9.toInt - (-2)).toNat ∧ ((-1) ≤ x1_9.toInt ∧ x1_9.toInt ≤ 511) ∧ (BX s_9) ∧ (FR [59, 62] [] σ s_9) ∧ (PI s_9) ∧ ((s_9.1 59 0).toInt + x1_9.toInt ≤ 511)) ?_ (n := _) ⟨rfl, (by omega), hB_s_7, hF_s_7, hPI_s_7, (by omega)⟩ (show _ < 10000000 by omega)
        intro a_120 n x1_9 s_9 hI ih_a_120
        obtain ⟨hn_a_120, b_x1_9, hB_s_9, hF_s_9, hPI_s_9, hun⟩ := hI
        refine ok_ite (fun c_16 => ?_) (fun c_16 => ?_)
        · rw [fa_lt] at c_16
          exact ok_ret ⟨hB_s_9, hF_s_9⟩
        · rw [fa_lt] at c_16
          refine ok_ix ⟨by omega, by omega⟩ ?_
          have g_17 := gX_62 hB_s_9 (x1_9.toNatClampNeg)
          refine ok_lt fun v_11 e_v_11 => ?_
          have b_v_11 : 0 ≤ v_11.toInt ∧ v_11.toInt ≤ 1 := by rw [e_v_11]; exact gX_62 hB_s_9 _
          refine ok_jn ?_
          refine ok_ite (fun c_18 => ?_) (fun c_18 => ?_)
          · rw [fa_eq] at c_18
            obtain ⟨t_19, ht_19, g_19⟩ : ∃ t : Int, (x1_9 + (-1)).toInt = t ∧ t = x1_9.toInt + ((-1) : Int32).toInt := ⟨_, rfl, by have h9 := fb_addI (x := x1_9) (y := ((-1) : Int32)) (by omega) (by omega); exact h9⟩
            refine ok_lt fun x1_13 e_x1_13 => ?_
            have q_x1_13 : x1_13.toInt = t_19 := by rw [e_x1_13]; exact ht_19
            exact ih_a_120 _ x1_13 s_9 (by rw [hn_a_120]; omega) ⟨rfl, (by omega), hB_s_9, hF_s_9, hPI_s_9, (by omega)⟩
          · rw [fa_eq] at c_18
            refine ok_calp (s_X7_isName (x1 := x1_9) (σ := s_9) hB_s_9 (by omega)) (fun v_15 h_20 => ?_)
            have b_v_15 := h_20
            (try dsimp only at b_v_15)
            refine ok_ite (fun c_21 => ?_) (fun c_21 => ?_)
            · rw [fa_eq] at c_21
              have g_22 := gX_59 hB_s_9 0
              obtain ⟨t_23, ht_23, g_23⟩ : ∃ t : Int, ((s_9.1 59 0) + 1).toInt = t ∧ t = (s_9.1 59 0).toInt + (1 : Int32).toInt := ⟨_, rfl, by have h9 := fb_addI (x := (s_9.1 59 0)) (y := (1 : Int32)) (by omega) (by omega); exact h9⟩
              refine ok_lt fun s_17 e_s_17 => ?_
              have hB_s_17 : BX s_17 := by rw [e_s_17]; exact pX_59 hB_s_9 (by rw [ht_23]; omega)
              have hF_s_17 : FR [59, 62] [] σ s_17 := by rw [e_s_17]; exact FR.st hF_s_9 (by decide)
              have w_s_17_59 : (s_17.1 59 0).toInt = t_23 := by rw [e_s_17, sti_s, ht_23]
              have hPI_s_17 : PI s_17 := by rw [e_s_17]; exact PI.st1 (by decide) hPI_s_9
              refine ok_cals (s_X1_tellWithin (x1 := x1_9) (σ := s_17) hB_s_17 hPI_s_17 (by omega)) (fun s_18 h_24 => ?_)
              obtain ⟨hB_s_18, hG_s_18⟩ := h_24
              (try dsimp only at hB_s_18 hG_s_18)
              have hF_s_18 : FR [59, 62] [] σ s_18 := FR.cal hF_s_17 hG_s_18 rfl rfl
              have w_s_18_59 : (s_18.1 59 0).toInt = (s_17.1 59 0).toInt := by rw [hG_s_18.1 59 (by decide)]
              have hPI_s_18 : PI s_18 := PI.fr hG_s_18 (by decide) hPI_s_17
              obtain ⟨t_25, ht_25, g_25⟩ : ∃ t : Int, (x1_9 + (-1)).toInt = t ∧ t = x1_9.toInt + ((-1) : Int32).toInt := ⟨_, rfl, by have h9 := fb_addI (x := x1_9) (y := ((-1) : Int32)) (by omega) (by omega); exact h9⟩
              refine ok_lt fun x1_13 e_x1_13 => ?_
              have q_x1_13 : x1_13.toInt = t_25 := by rw [e_x1_13]; exact ht_25
              exact ih_a_120 _ x1_13 s_18 (by rw [hn_a_120]; omega) ⟨rfl, (by omega), hB_s_18, hF_s_18, hPI_s_18, (by omega)⟩
            · rw [fa_eq] at c_21
              obtain ⟨t_26, ht_26, g_26⟩ : ∃ t : Int, (x1_9 + (-1)).toInt = t ∧ t = x1_9.toInt + ((-1) : Int32).toInt := ⟨_, rfl, by have h9 := fb_addI (x := x1_9) (y := ((-1) : Int32)) (by omega) (by omega); exact h9⟩
              refine ok_lt fun x1_13 e_x1_13 => ?_
              have q_x1_13 : x1_13.toInt = t_26 := by rw [e_x1_13]; exact ht_26
              exact ih_a_120 _ x1_13 s_9 (by rw [hn_a_120]; omega) ⟨rfl, (by omega), hB_s_9, hF_s_9, hPI_s_9, (by omega)⟩
      · rw [fa_le] at c_9
        refine ok_ix ⟨by omega, by omega⟩ ?_
        have g_27 := gX_57 hB_s_5 (x1_5.toNatClampNeg)
        refine ok_lt fun v_19 e_v_19 => ?_
        have b_v_19 : (-1) ≤ v_19.toInt ∧ v_19.toInt ≤ 511 := by rw [e_v_19]; exact gX_57 hB_s_5 _
        have q_v_19 : v_19.toInt = (σ.1 57 (x1_5.toNatClampNeg)).toInt := by rw [e_v_19, hF_s_5.1 57 (by decide)]
        refine ok_jn ?_
        refine ok_ite (fun c_28 => ?_) (fun c_28 => ?_)
        · rw [fa_eq] at c_28
          obtain ⟨t_29, ht_29, g_29⟩ : ∃ t : Int, (x1_5 + 1).toInt = t ∧ t = x1_5.toInt + (1 : Int32).toInt := ⟨_, rfl, by have h9 := fb_addI (x := x1_5) (y := (1 : Int32)) (by omega) (by omega); exact h9⟩
          refine ok_lt fun x1_21 e_x1_21 => ?_
          have q_x1_21 : x1_21.toInt = t_29 := by rw [e_x1_21]; exact ht_29
          exact ih_a_66 _ x1_21 s_5 (by rw [hn_a_66]; omega) ⟨rfl, (by omega), hB_s_5, hF_s_5, hPI_s_5⟩
        · rw [fa_eq] at c_28
          refine ok_ix ⟨by omega, by omega⟩ ?_
          refine ok_lt fun v_23 e_v_23 => ?_
          have b_v_23 : (-1) ≤ v_23.toInt ∧ v_23.toInt ≤ 511 := by rw [e_v_23]; exact gX_57 hB_s_5 _
          have q_v_23 : v_23.toInt = (σ.1 57 (x1_5.toNatClampNeg)).toInt := by rw [e_v_23, hF_s_5.1 57 (by decide)]
          refine ok_ix ⟨by omega, by omega⟩ ?_
          refine ok_lt fun s_24 e_s_24 => ?_
          have hB_s_24 : BX s_24 := by rw [e_s_24]; exact pX_62 hB_s_5 (by omega)
          have hF_s_24 : FR [59, 62] [] σ s_24 := by rw [e_s_24]; exact FR.st hF_s_5 (by decide)
          have w_s_24_59 : (s_24.1 59 0).toInt = (s_5.1 59 0).toInt := by rw [e_s_24]; rfl
          have hPI_s_24 : PI s_24 := by rw [e_s_24]; exact PI.st1 (by decide) hPI_s_5
          obtain ⟨t_30, ht_30, g_30⟩ : ∃ t : Int, (x1_5 + 1).toInt = t ∧ t = x1_5.toInt + (1 : Int32).toInt := ⟨_, rfl, by have h9 := fb_addI (x := x1_5) (y := (1 : Int32)) (by omega) (by omega); exact h9⟩
          refine ok_lt fun x1_21 e_x1_21 => ?_
          have q_x1_21 : x1_21.toInt = t_30 := by rw [e_x1_21]; exact ht_30
          exact ih_a_66 _ x1_21 s_24 (by rw [hn_a_66]; omega) ⟨rfl, (by omega), hB_s_24, hF_s_24, hPI_s_24⟩
    · rw [fa_le] at c_5
      refine ok_ix ⟨by omega, by omega⟩ ?_
      have g_31 := gX_55 hB_s_3 (x1_3.toNatClampNeg)
      refine ok_lt fun v_25 e_v_25 => ?_
      have b_v_25 : (-1) ≤ v_25.toInt ∧ v_25.toInt ≤ 511 := by rw [e_v_25]; exact gX_55 hB_s_3 _
      have q_v_25 : v_25.toInt = (σ.1 55 (x1_3.toNatClampNeg)).toInt := by rw [e_v_25, hF_s_3.1 55 (by decide)]
      refine ok_jn ?_
      refine ok_ite (fun c_32 => ?_) (fun c_32 => ?_)
      · rw [fa_eq] at c_32
        obtain ⟨t_33, ht_33, g_33⟩ : ∃ t : Int, (x1_3 + 1).toInt = t ∧ t = x1_3.toInt + (1 : Int32).toInt := ⟨_, rfl, by have h9 := fb_addI (x := x1_3) (y := (1 : Int32)) (by omega) (by omega); exact h9⟩
        refine ok_lt fun x1_27 e_x1_27 => ?_
        have q_x1_27 : x1_27.toInt = t_33 := by rw [e_x1_27]; exact ht_33
        exact ih_a_28 _ x1_27 s_3 (by rw [hn_a_28]; omega) ⟨rfl, (by omega), hB_s_3, hF_s_3, hPI_s_3⟩
      · rw [fa_eq] at c_32
        refine ok_ix ⟨by omega, by omega⟩ ?_
        refine ok_lt fun v_29 e_v_29 => ?_
        have b_v_29 : (-1) ≤ v_29.toInt ∧ v_29.toInt ≤ 511 := by rw [e_v_29]; exact gX_55 hB_s_3 _
        have q_v_29 : v_29.toInt = (σ.1 55 (x1_3.toNatClampNeg)).toInt := by rw [e_v_29, hF_s_3.1 55 (by decide)]
        refine ok_ix ⟨by omega, by omega⟩ ?_
        refine ok_lt fun s_30 e_s_30 => ?_
        have hB_s_30 : BX s_30 := by rw [e_s_30]; exact pX_62 hB_s_3 (by omega)
        have hF_s_30 : FR [59, 62] [] σ s_30 := by rw [e_s_30]; exact FR.st hF_s_3 (by decide)
        have w_s_30_59 : (s_30.1 59 0).toInt = (s_3.1 59 0).toInt := by rw [e_s_30]; rfl
        have hPI_s_30 : PI s_30 := by rw [e_s_30]; exact PI.st1 (by decide) hPI_s_3
        obtain ⟨t_34, ht_34, g_34⟩ : ∃ t : Int, (x1_3 + 1).toInt = t ∧ t = x1_3.toInt + (1 : Int32).toInt := ⟨_, rfl, by have h9 := fb_addI (x := x1_3) (y := (1 : Int32)) (by omega) (by omega); exact h9⟩
        refine ok_lt fun x1_27 e_x1_27 => ?_
        have q_x1_27 : x1_27.toInt = t_34 := by rw [e_x1_27]; exact ht_34
        exact ih_a_28 _ x1_27 s_30 (by rw [hn_a_28]; omega) ⟨rfl, (by omega), hB_s_30, hF_s_30, hPI_s_30⟩
  · rw [fa_le] at c_1
    refine ok_ix ⟨by omega, by omega⟩ ?_
    refine ok_lt fun s_31 e_s_31 => ?_
    have hB_s_31 : BX s_31 := by rw [e_s_31]; exact pX_62 hB_s_1 (by omega)
    have hF_s_31 : FR [59, 62] [] σ s_31 := by rw [e_s_31]; exact FR.st hF_s_1 (by decide)
    have w_s_31_59 : (s_31.1 59 0).toInt = (s_1.1 59 0).toInt := by rw [e_s_31]; rfl
    have hPI_s_31 : PI s_31 := by rw [e_s_31]; exact PI.st1 (by decide) hPI_s_1
    obtain ⟨t_35, ht_35, g_35⟩ : ∃ t : Int, (x1_1 + 1).toInt = t ∧ t = x1_1.toInt + (1 : Int32).toInt := ⟨_, rfl, by have h9 := fb_addI (x := x1_1) (y := (1 : Int32)) (by omega) (by omega); exact h9⟩
    refine ok_lt fun x1_32 e_x1_32 => ?_
    have q_x1_32 : x1_32.toInt = t_35 := by rw [e_x1_32]; exact ht_35
    exact ih_a_2 _ x1_32 s_31 (by rw [hn_a_2]; omega) ⟨rfl, (by omega), hB_s_31, hF_s_31, hPI_s_31⟩

set_option maxHeartbeats 4000000 in
theorem s_X7_hasEffects {x1 : Int32} {σ : Sto} (hB : BX σ) (p_x1 : 0 ≤ x1.toInt ∧ x1.toInt ≤ 511) : OK (f_X7_hasEffects x1 σ) (fun v => (0 ≤ v.toInt ∧ v.toInt ≤ 1)) := by
  unfold f_X7_hasEffects
  have hF : FR [] [] σ σ := FR.rf
  have k_0 : (0 : Int32).toInt = 0 := by decide +kernel
  have k_1 : (1 : Int32).toInt = 1 := by decide +kernel
  refine ok_ix ⟨by omega, by omega⟩ ?_
  refine ok_lt fun v_1 e_v_1 => ?_
  obtain ⟨t_2, ht_2, g_2⟩ : ∃ t : Int, (v_1 &&& 4096).toInt = t ∧ 0 ≤ t ∧ t ≤ 4096 := ⟨_, rfl, and_rng (x := v_1) 4096 rfl (by decide)⟩
  refine ok_ite (fun c_1 => ?_) (fun c_1 => ?_)
  · rw [fa_eq, ht_2] at c_1
    exact ok_ret (by (try dsimp only); omega)
  · rw [fa_eq, ht_2] at c_1
    exact ok_ret (by (try dsimp only); omega)

set_option maxHeartbeats 4000000 in
theorem s_X1_add {x1 : Int32} {x2 : Int32} {x3 : Int32} {σ : Sto} (hB : BX σ) (hSI : SI σ) (p_x1 : 0 ≤ x1.toInt ∧ x1.toInt ≤ 6) (p_x2 : (-1) ≤ x2.toInt ∧ x2.toInt ≤ 160) (p_x3 : (-1) ≤ x3.toInt ∧ x3.toInt ≤ 511) (hT : T2 x1 x2 x3) : OK (f_X1_add x1 x2 x3 σ) (fun s => BX s ∧ FR [52, 53, 54, 55] [] σ s ∧ SI s) := by
  unfold f_X1_add
  have hF : FR [52, 53, 54, 55] [] σ σ := FR.rf
  have k_1 : (1 : Int32).toInt = 1 := by decide +kernel
  have k_320 : (320 : Int32).toInt = 320 := by decide +kernel
  have g_2 := gX_52 hB 0
  refine ok_ite (fun c_1 => ?_) (fun c_1 => ?_)
  · rw [fa_le] at c_1
    exact ok_ret ⟨hB, hF, hSI⟩
  · rw [fa_le] at c_1
    refine ok_ix ⟨by omega, by omega⟩ ?_
    refine ok_lt fun s_2 e_s_2 => ?_
    have hB_s_2 : BX s_2 := by rw [e_s_2]; exact pX_53 hB (by omega)
    have hF_s_2 : FR [52, 53, 54, 55] [] σ s_2 := by rw [e_s_2]; exact FR.st hF (by decide)
    have w_s_2_52 : (s_2.1 52 0).toInt = (σ.1 52 0).toInt := by rw [e_s_2]; rfl
    have g_3 := gX_52 hB_s_2 0
    refine ok_ix ⟨by omega, by omega⟩ ?_
    refine ok_lt fun s_3 e_s_3 => ?_
    have hB_s_3 : BX s_3 := by rw [e_s_3]; exact pX_54 hB_s_2 (by omega)
    have hF_s_3 : FR [52, 53, 54, 55] [] σ s_3 := by rw [e_s_3]; exact FR.st hF_s_2 (by decide)
    have w_s_3_52 : (s_3.1 52 0).toInt = (s_2.1 52 0).toInt := by rw [e_s_3]; rfl
    have g_4 := gX_52 hB_s_3 0
    refine ok_ix ⟨by omega, by omega⟩ ?_
    refine ok_lt fun s_4 e_s_4 => ?_
    have hB_s_4 : BX s_4 := by rw [e_s_4]; exact pX_55 hB_s_3 (by omega)
    have hF_s_4 : FR [52, 53, 54, 55] [] σ s_4 := by rw [e_s_4]; exact FR.st hF_s_3 (by decide)
    have w_s_4_52 : (s_4.1 52 0).toInt = (s_3.1 52 0).toInt := by rw [e_s_4]; rfl
    have hSI_s_4 : SI s_4 := SI.three hSI e_s_2 e_s_3 e_s_4 (by rw [show s_2.1 52 = σ.1 52 by rw [e_s_2]; rfl]) (by rw [show s_3.1 52 = σ.1 52 by rw [e_s_3, e_s_2]; rfl]) hT
    have g_5 := gX_52 hB_s_4 0
    obtain ⟨t_6, ht_6, g_6⟩ : ∃ t : Int, ((s_4.1 52 0) + 1).toInt = t ∧ t = (s_4.1 52 0).toInt + (1 : Int32).toInt := ⟨_, rfl, by have h9 := fb_addI (x := (s_4.1 52 0)) (y := (1 : Int32)) (by omega) (by omega); exact h9⟩
    refine ok_lt fun s_5 e_s_5 => ?_
    have hB_s_5 : BX s_5 := by rw [e_s_5]; exact pX_52 hB_s_4 (by rw [ht_6]; omega)
    have hF_s_5 : FR [52, 53, 54, 55] [] σ s_5 := by rw [e_s_5]; exact FR.st hF_s_4 (by decide)
    have w_s_5_52 : (s_5.1 52 0).toInt = t_6 := by rw [e_s_5, sti_s, ht_6]
    have hSI_s_5 : SI s_5 := by rw [e_s_5]; exact SI.st1 (by decide) hSI_s_4
    exact ok_ret ⟨hB_s_5, hF_s_5, hSI_s_5⟩

set_option maxHeartbeats 4000000 in
theorem s_X7_make {x1 : Int32} {x2 : Int32} {x3 : Int32} {σ : Sto} (hB : BX σ) (hPI : PI σ) (p_x1 : 0 ≤ x1.toInt ∧ x1.toInt ≤ 255) (p_x2 : 0 ≤ x2.toInt ∧ x2.toInt ≤ 999) (p_x3 : 0 ≤ x3.toInt ∧ x3.toInt ≤ 511) (hT : T1 (σ.1 46 0).toInt x1 x2 x3) : OK (f_X7_make x1 x2 x3 σ) (fun r => (0 ≤ r.1.toInt ∧ r.1.toInt ≤ 511) ∧ BX r.2 ∧ FR [46, 47, 48, 49, 50, 51] [] σ r.2 ∧ PI r.2 ∧ ((σ.1 46 0).toInt ≤ (r.2.1 46 0).toInt ∧ r.1.toInt < (r.2.1 46 0).toInt ∧ ∀ i : Nat, (i : Int) < (σ.1 46 0).toInt → r.2.1 47 i = σ.1 47 i)) := by
  unfold f_X7_make
  have hF : FR [46, 47, 48, 49, 50, 51] [] σ σ := FR.rf
  have k_0 : (0 : Int32).toInt = 0 := by decide +kernel
  have k_1 : (1 : Int32).toInt = 1 := by decide +kernel
  have k_37 : (37 : Int32).toInt = 37 := by decide +kernel
  have k_47 : (47 : Int32).toInt = 47 := by decide +kernel
  have k_84 : (84 : Int32).toInt = 84 := by decide +kernel
  have k_105 : (105 : Int32).toInt = 105 := by decide +kernel
  have k_108 : (108 : Int32).toInt = 108 := by decide +kernel
  have k_512 : (512 : Int32).toInt = 512 := by decide +kernel
  have k_4096 : (4096 : Int32).toInt = 4096 := by decide +kernel
  have hT1 := hT.1
  refine ok_itr1 (fun (n : Nat) (x4_1 : Int32) => n = (513 - x4_1.toInt).toNat ∧ (0 ≤ x4_1.toInt ∧ x4_1.toInt ≤ 512)) ?_ (n := _) ⟨rfl, (by omega)⟩ (show _ < 10000000 by omega)
  intro a_3 n x4_1 hI ih_a_3
  obtain ⟨hn_a_3, b_x4_1⟩ := hI
  have g_2 := gX_46 hB 0
  refine ok_ite (fun c_1 => ?_) (fun c_1 => ?_)
  · rw [fa_le] at c_1
    refine ok_ite (fun c_3 => ?_) (fun c_3 => ?_)
    · rw [fa_eq] at c_3
      exact ok_ret ⟨(by (try dsimp only); omega), hB, hF, hPI, ⟨by (try dsimp only); omega, by (try dsimp only); omega, by first | exact fun _ _ => rfl | exact fun i hi => (congrFun r47_σ i).trans (hk_s_4 i hi)⟩⟩
    · rw [fa_eq] at c_3
      refine ok_ix ⟨by omega, by omega⟩ ?_
      refine ok_lt fun s_4 e_s_4 => ?_
      have hB_s_4 : BX s_4 := by rw [e_s_4]; exact pX_47 hB (by omega)
      have hF_s_4 : FR [46, 47, 48, 49, 50, 51] [] σ s_4 := by rw [e_s_4]; exact FR.st hF (by decide)
      have w_s_4_46 : (s_4.1 46 0).toInt = (σ.1 46 0).toInt := by rw [e_s_4]; rfl
      have hk_s_4 : ∀ i : Nat, (i : Int) < (σ.1 46 0).toInt → s_4.1 47 i = σ.1 47 i := fun i hi => by rw [e_s_4]; exact sti_j (by have := clamp_I (x := (σ.1 46 0)) (by omega); omega)
      have g_4 := gX_46 hB_s_4 0
      refine ok_ix ⟨by omega, by omega⟩ ?_
      refine ok_lt fun s_5 e_s_5 => ?_
      have hB_s_5 : BX s_5 := by rw [e_s_5]; exact pX_48 hB_s_4 (by omega)
      have hF_s_5 : FR [46, 47, 48, 49, 50, 51] [] σ s_5 := by rw [e_s_5]; exact FR.st hF_s_4 (by decide)
      have w_s_5_46 : (s_5.1 46 0).toInt = (s_4.1 46 0).toInt := by rw [e_s_5]; rfl
      have r47_s_5 : s_5.1 47 = s_4.1 47 := by rw [e_s_5]; exact rfl
      have g_5 := gX_46 hB_s_5 0
      refine ok_ix ⟨by omega, by omega⟩ ?_
      refine ok_lt fun s_6 e_s_6 => ?_
      have hB_s_6 : BX s_6 := by rw [e_s_6]; exact pX_49 hB_s_5 (by omega)
      have hF_s_6 : FR [46, 47, 48, 49, 50, 51] [] σ s_6 := by rw [e_s_6]; exact FR.st hF_s_5 (by decide)
      have w_s_6_46 : (s_6.1 46 0).toInt = (s_5.1 46 0).toInt := by rw [e_s_6]; rfl
      have r47_s_6 : s_6.1 47 = s_4.1 47 := by rw [e_s_6]; exact r47_s_5
      have hPI_s_6 : PI s_6 := PI.three hPI e_s_4 e_s_5 e_s_6 (by rw [show s_4.1 46 = σ.1 46 by rw [e_s_4]; rfl]) (by rw [show s_5.1 46 = σ.1 46 by rw [e_s_5, e_s_4]; rfl]) (by rw [clamp_I (x := (σ.1 46 0)) (by omega)]; exact hT)
      have g_6 := gX_46 hB_s_6 0
      refine ok_ix ⟨by omega, by omega⟩ ?_
      refine ok_lt fun s_7 e_s_7 => ?_
      have hB_s_7 : BX s_7 := by rw [e_s_7]; exact pX_50 hB_s_6 (tI_rng _)
      have hF_s_7 : FR [46, 47, 48, 49, 50, 51] [] σ s_7 := by rw [e_s_7]; exact FR.st hF_s_6 (by decide)
      have w_s_7_46 : (s_7.1 46 0).toInt = (s_6.1 46 0).toInt := by rw [e_s_7]; rfl
      have r47_s_7 : s_7.1 47 = s_4.1 47 := by rw [e_s_7]; exact r47_s_6
      have hPI_s_7 : PI s_7 := by rw [e_s_7]; exact PI.st1 (by decide) hPI_s_6
      refine ok_jn ?_
      refine ok_jn ?_
      refine ok_ite (fun c_7 => ?_) (fun c_7 => ?_)
      · rw [fa_eq] at c_7
        have g_8 := gX_46 hB_s_7 0
        refine ok_ix ⟨by omega, by omega⟩ ?_
        refine ok_lt fun s_9 e_s_9 => ?_
        have hB_s_9 : BX s_9 := by rw [e_s_9]; exact pX_51 hB_s_7 (tI_rng _)
        have hF_s_9 : FR [46, 47, 48, 49, 50, 51] [] σ s_9 := by rw [e_s_9]; exact FR.st hF_s_7 (by decide)
        have w_s_9_46 : (s_9.1 46 0).toInt = (s_7.1 46 0).toInt := by rw [e_s_9]; rfl
        have r47_s_9 : s_9.1 47 = s_4.1 47 := by rw [e_s_9]; exact r47_s_7
        have hPI_s_9 : PI s_9 := by rw [e_s_9]; exact PI.st1 (by decide) hPI_s_7
        refine ok_jn ?_
        refine ok_ite (fun c_9 => ?_) (fun c_9 => ?_)
        · have c_9 := c_9
          exfalso; omega
        · have c_9 := c_9
          refine ok_ite (fun c_10 => ?_) (fun c_10 => ?_)
          · have c_10 := c_10
            exfalso; omega
          · have c_10 := c_10
            refine ok_ite (fun c_11 => ?_) (fun c_11 => ?_)
            · have c_11 := c_11
              have g_12 := gX_46 hB_s_9 0
              obtain ⟨t_13, ht_13, g_13⟩ : ∃ t : Int, ((s_9.1 46 0) + 1).toInt = t ∧ t = (s_9.1 46 0).toInt + (1 : Int32).toInt := ⟨_, rfl, by have h9 := fb_addI (x := (s_9.1 46 0)) (y := (1 : Int32)) (by omega) (by omega); exact h9⟩
              refine ok_lt fun s_11 e_s_11 => ?_
              have hB_s_11 : BX s_11 := by rw [e_s_11]; exact pX_46 hB_s_9 (by rw [ht_13]; omega)
              have hF_s_11 : FR [46, 47, 48, 49, 50, 51] [] σ s_11 := by rw [e_s_11]; exact FR.st hF_s_9 (by decide)
              have w_s_11_46 : (s_11.1 46 0).toInt = t_13 := by rw [e_s_11, sti_s, ht_13]
              have r47_s_11 : s_11.1 47 = s_4.1 47 := by rw [e_s_11]; exact r47_s_9
              have hPI_s_11 : PI s_11 := by rw [e_s_11]; exact PI.st1 (by decide) hPI_s_9
              have g_14 := gX_46 hB_s_11 0
              obtain ⟨t_15, ht_15, g_15⟩ : ∃ t : Int, ((s_11.1 46 0) - 1).toInt = t ∧ t = (s_11.1 46 0).toInt - (1 : Int32).toInt := ⟨_, rfl, by have h9 := fb_subI (x := (s_11.1 46 0)) (y := (1 : Int32)) (by omega) (by omega); exact h9⟩
              exact ok_ret ⟨(by (try dsimp only); rw [ht_15]; omega), hB_s_11, hF_s_11, hPI_s_11, ⟨by (try dsimp only); omega, by (try dsimp only); omega, by first | exact fun _ _ => rfl | exact fun i hi => (congrFun r47_s_11 i).trans (hk_s_4 i hi)⟩⟩
            · have c_11 := c_11
              exfalso; omega
      · rw [fa_eq] at c_7
        refine ok_ite (fun c_16 => ?_) (fun c_16 => ?_)
        · rw [fa_eq] at c_16
          have g_17 := gX_46 hB_s_7 0
          refine ok_ix ⟨by omega, by omega⟩ ?_
          refine ok_lt fun s_9 e_s_9 => ?_
          have hB_s_9 : BX s_9 := by rw [e_s_9]; exact pX_51 hB_s_7 (tI_rng _)
          have hF_s_9 : FR [46, 47, 48, 49, 50, 51] [] σ s_9 := by rw [e_s_9]; exact FR.st hF_s_7 (by decide)
          have w_s_9_46 : (s_9.1 46 0).toInt = (s_7.1 46 0).toInt := by rw [e_s_9]; rfl
          have r47_s_9 : s_9.1 47 = s_4.1 47 := by rw [e_s_9]; exact r47_s_7
          have hPI_s_9 : PI s_9 := by rw [e_s_9]; exact PI.st1 (by decide) hPI_s_7
          refine ok_jn ?_
          refine ok_ite (fun c_18 => ?_) (fun c_18 => ?_)
          · have c_18 := c_18
            exfalso; omega
          · have c_18 := c_18
            refine ok_ite (fun c_19 => ?_) (fun c_19 => ?_)
            · have c_19 := c_19
              exfalso; omega
            · have c_19 := c_19
              refine ok_ite (fun c_20 => ?_) (fun c_20 => ?_)
              · have c_20 := c_20
                exfalso; omega
              · have c_20 := c_20
                refine ok_ite (fun c_21 => ?_) (fun c_21 => ?_)
                · have c_21 := c_21
                  exfalso; omega
                · have c_21 := c_21
                  have g_22 := gX_46 hB_s_9 0
                  refine ok_lt fun v_21 e_v_21 => ?_
                  have b_v_21 : 0 ≤ v_21.toInt ∧ v_21.toInt ≤ 512 := by rw [e_v_21]; exact gX_46 hB_s_9 _
                  have q_v_21 : v_21.toInt = (s_9.1 46 0).toInt := by rw [e_v_21]
                  refine ok_ix ⟨by omega, by omega⟩ ?_
                  refine ok_lt fun v_22 e_v_22 => ?_
                  refine ok_ix ⟨by omega, by omega⟩ ?_
                  refine ok_lt fun v_23 e_v_23 => ?_
                  have q_v_23 : v_23.toInt = (s_9.1 50 x2.toNatClampNeg).toInt := by rw [e_v_23]
                  refine ok_ix ⟨by omega, by omega⟩ ?_
                  refine ok_lt fun v_24 e_v_24 => ?_
                  refine ok_ix ⟨by omega, by omega⟩ ?_
                  obtain ⟨t_23, ht_23, g_23⟩ : ∃ t : Int, (v_23 + v_24).toInt = t ∧ -2147483648 ≤ t ∧ t ≤ 2147483647 := ⟨_, rfl, tI_rng _⟩
                  obtain ⟨t_24, ht_24, g_24⟩ : ∃ t : Int, (v_22 + (v_23 + v_24)).toInt = t ∧ -2147483648 ≤ t ∧ t ≤ 2147483647 := ⟨_, rfl, tI_rng _⟩
                  refine ok_lt fun s_25 e_s_25 => ?_
                  have hB_s_25 : BX s_25 := by rw [e_s_25]; exact pX_50 hB_s_9 (tI_rng _)
                  have hF_s_25 : FR [46, 47, 48, 49, 50, 51] [] σ s_25 := by rw [e_s_25]; exact FR.st hF_s_9 (by decide)
                  have w_s_25_46 : (s_25.1 46 0).toInt = (s_9.1 46 0).toInt := by rw [e_s_25]; rfl
                  have r47_s_25 : s_25.1 47 = s_4.1 47 := by rw [e_s_25]; exact r47_s_9
                  have hPI_s_25 : PI s_25 := by rw [e_s_25]; exact PI.st1 (by decide) hPI_s_9
                  have g_25 := gX_46 hB_s_25 0
                  refine ok_lt fun v_26 e_v_26 => ?_
                  have b_v_26 : 0 ≤ v_26.toInt ∧ v_26.toInt ≤ 512 := by rw [e_v_26]; exact gX_46 hB_s_25 _
                  have q_v_26 : v_26.toInt = (s_25.1 46 0).toInt := by rw [e_v_26]
                  refine ok_ix ⟨by omega, by omega⟩ ?_
                  refine ok_lt fun v_27 e_v_27 => ?_
                  refine ok_ix ⟨by omega, by omega⟩ ?_
                  refine ok_lt fun v_28 e_v_28 => ?_
                  refine ok_ix ⟨by omega, by omega⟩ ?_
                  refine ok_lt fun v_29 e_v_29 => ?_
                  refine ok_ix ⟨by omega, by omega⟩ ?_
                  obtain ⟨t_26, ht_26, g_26⟩ : ∃ t : Int, (v_27 ||| (v_28 ||| v_29)).toInt = t ∧ -2147483648 ≤ t ∧ t ≤ 2147483647 := ⟨_, rfl, tI_rng _⟩
                  refine ok_lt fun s_30 e_s_30 => ?_
                  have hB_s_30 : BX s_30 := by rw [e_s_30]; exact pX_51 hB_s_25 (tI_rng _)
                  have hF_s_30 : FR [46, 47, 48, 49, 50, 51] [] σ s_30 := by rw [e_s_30]; exact FR.st hF_s_25 (by decide)
                  have w_s_30_46 : (s_30.1 46 0).toInt = (s_25.1 46 0).toInt := by rw [e_s_30]; rfl
                  have r47_s_30 : s_30.1 47 = s_4.1 47 := by rw [e_s_30]; exact r47_s_25
                  have hPI_s_30 : PI s_30 := by rw [e_s_30]; exact PI.st1 (by decide) hPI_s_25
                  have g_27 := gX_46 hB_s_30 0
                  obtain ⟨t_28, ht_28, g_28⟩ : ∃ t : Int, ((s_30.1 46 0) + 1).toInt = t ∧ t = (s_30.1 46 0).toInt + (1 : Int32).toInt := ⟨_, rfl, by have h9 := fb_addI (x := (s_30.1 46 0)) (y := (1 : Int32)) (by omega) (by omega); exact h9⟩
                  refine ok_lt fun s_11 e_s_11 => ?_
                  have hB_s_11 : BX s_11 := by rw [e_s_11]; exact pX_46 hB_s_30 (by rw [ht_28]; omega)
                  have hF_s_11 : FR [46, 47, 48, 49, 50, 51] [] σ s_11 := by rw [e_s_11]; exact FR.st hF_s_30 (by decide)
                  have w_s_11_46 : (s_11.1 46 0).toInt = t_28 := by rw [e_s_11, sti_s, ht_28]
                  have r47_s_11 : s_11.1 47 = s_4.1 47 := by rw [e_s_11]; exact r47_s_30
                  have hPI_s_11 : PI s_11 := by rw [e_s_11]; exact PI.st1 (by decide) hPI_s_30
                  have g_29 := gX_46 hB_s_11 0
                  obtain ⟨t_30, ht_30, g_30⟩ : ∃ t : Int, ((s_11.1 46 0) - 1).toInt = t ∧ t = (s_11.1 46 0).toInt - (1 : Int32).toInt := ⟨_, rfl, by have h9 := fb_subI (x := (s_11.1 46 0)) (y := (1 : Int32)) (by omega) (by omega); exact h9⟩
                  exact ok_ret ⟨(by (try dsimp only); rw [ht_30]; omega), hB_s_11, hF_s_11, hPI_s_11, ⟨by (try dsimp only); omega, by (try dsimp only); omega, by first | exact fun _ _ => rfl | exact fun i hi => (congrFun r47_s_11 i).trans (hk_s_4 i hi)⟩⟩
        · rw [fa_eq] at c_16
          refine ok_ite (fun c_31 => ?_) (fun c_31 => ?_)
          · rw [fa_eq] at c_31
            have g_32 := gX_46 hB_s_7 0
            refine ok_ix ⟨by omega, by omega⟩ ?_
            refine ok_lt fun s_9 e_s_9 => ?_
            have hB_s_9 : BX s_9 := by rw [e_s_9]; exact pX_51 hB_s_7 (tI_rng _)
            have hF_s_9 : FR [46, 47, 48, 49, 50, 51] [] σ s_9 := by rw [e_s_9]; exact FR.st hF_s_7 (by decide)
            have w_s_9_46 : (s_9.1 46 0).toInt = (s_7.1 46 0).toInt := by rw [e_s_9]; rfl
            have r47_s_9 : s_9.1 47 = s_4.1 47 := by rw [e_s_9]; exact r47_s_7
            have hPI_s_9 : PI s_9 := by rw [e_s_9]; exact PI.st1 (by decide) hPI_s_7
            refine ok_jn ?_
            refine ok_ite (fun c_33 => ?_) (fun c_33 => ?_)
            · have c_33 := c_33
              exfalso; omega
            · have c_33 := c_33
              refine ok_ite (fun c_34 => ?_) (fun c_34 => ?_)
              · have c_34 := c_34
                exfalso; omega
              · have c_34 := c_34
                refine ok_ite (fun c_35 => ?_) (fun c_35 => ?_)
                · have c_35 := c_35
                  exfalso; omega
                · have c_35 := c_35
                  refine ok_ite (fun c_36 => ?_) (fun c_36 => ?_)
                  · have c_36 := c_36
                    exfalso; omega
                  · have c_36 := c_36
                    have g_37 := gX_46 hB_s_9 0
                    refine ok_lt fun v_21 e_v_21 => ?_
                    have b_v_21 : 0 ≤ v_21.toInt ∧ v_21.toInt ≤ 512 := by rw [e_v_21]; exact gX_46 hB_s_9 _
                    have q_v_21 : v_21.toInt = (s_9.1 46 0).toInt := by rw [e_v_21]
                    refine ok_ix ⟨by omega, by omega⟩ ?_
                    refine ok_lt fun v_22 e_v_22 => ?_
                    refine ok_ix ⟨by omega, by omega⟩ ?_
                    refine ok_lt fun v_23 e_v_23 => ?_
                    have q_v_23 : v_23.toInt = (s_9.1 50 x2.toNatClampNeg).toInt := by rw [e_v_23]
                    refine ok_ix ⟨by omega, by omega⟩ ?_
                    refine ok_lt fun v_24 e_v_24 => ?_
                    refine ok_ix ⟨by omega, by omega⟩ ?_
                    obtain ⟨t_38, ht_38, g_38⟩ : ∃ t : Int, (v_23 + v_24).toInt = t ∧ -2147483648 ≤ t ∧ t ≤ 2147483647 := ⟨_, rfl, tI_rng _⟩
                    obtain ⟨t_39, ht_39, g_39⟩ : ∃ t : Int, (v_22 + (v_23 + v_24)).toInt = t ∧ -2147483648 ≤ t ∧ t ≤ 2147483647 := ⟨_, rfl, tI_rng _⟩
                    refine ok_lt fun s_25 e_s_25 => ?_
                    have hB_s_25 : BX s_25 := by rw [e_s_25]; exact pX_50 hB_s_9 (tI_rng _)
                    have hF_s_25 : FR [46, 47, 48, 49, 50, 51] [] σ s_25 := by rw [e_s_25]; exact FR.st hF_s_9 (by decide)
                    have w_s_25_46 : (s_25.1 46 0).toInt = (s_9.1 46 0).toInt := by rw [e_s_25]; rfl
                    have r47_s_25 : s_25.1 47 = s_4.1 47 := by rw [e_s_25]; exact r47_s_9
                    have hPI_s_25 : PI s_25 := by rw [e_s_25]; exact PI.st1 (by decide) hPI_s_9
                    have g_40 := gX_46 hB_s_25 0
                    refine ok_lt fun v_26 e_v_26 => ?_
                    have b_v_26 : 0 ≤ v_26.toInt ∧ v_26.toInt ≤ 512 := by rw [e_v_26]; exact gX_46 hB_s_25 _
                    have q_v_26 : v_26.toInt = (s_25.1 46 0).toInt := by rw [e_v_26]
                    refine ok_ix ⟨by omega, by omega⟩ ?_
                    refine ok_lt fun v_27 e_v_27 => ?_
                    refine ok_ix ⟨by omega, by omega⟩ ?_
                    refine ok_lt fun v_28 e_v_28 => ?_
                    refine ok_ix ⟨by omega, by omega⟩ ?_
                    refine ok_lt fun v_29 e_v_29 => ?_
                    refine ok_ix ⟨by omega, by omega⟩ ?_
                    obtain ⟨t_41, ht_41, g_41⟩ : ∃ t : Int, (v_27 ||| (v_28 ||| v_29)).toInt = t ∧ -2147483648 ≤ t ∧ t ≤ 2147483647 := ⟨_, rfl, tI_rng _⟩
                    refine ok_lt fun s_30 e_s_30 => ?_
                    have hB_s_30 : BX s_30 := by rw [e_s_30]; exact pX_51 hB_s_25 (tI_rng _)
                    have hF_s_30 : FR [46, 47, 48, 49, 50, 51] [] σ s_30 := by rw [e_s_30]; exact FR.st hF_s_25 (by decide)
                    have w_s_30_46 : (s_30.1 46 0).toInt = (s_25.1 46 0).toInt := by rw [e_s_30]; rfl
                    have r47_s_30 : s_30.1 47 = s_4.1 47 := by rw [e_s_30]; exact r47_s_25
                    have hPI_s_30 : PI s_30 := by rw [e_s_30]; exact PI.st1 (by decide) hPI_s_25
                    have g_42 := gX_46 hB_s_30 0
                    obtain ⟨t_43, ht_43, g_43⟩ : ∃ t : Int, ((s_30.1 46 0) + 1).toInt = t ∧ t = (s_30.1 46 0).toInt + (1 : Int32).toInt := ⟨_, rfl, by have h9 := fb_addI (x := (s_30.1 46 0)) (y := (1 : Int32)) (by omega) (by omega); exact h9⟩
                    refine ok_lt fun s_11 e_s_11 => ?_
                    have hB_s_11 : BX s_11 := by rw [e_s_11]; exact pX_46 hB_s_30 (by rw [ht_43]; omega)
                    have hF_s_11 : FR [46, 47, 48, 49, 50, 51] [] σ s_11 := by rw [e_s_11]; exact FR.st hF_s_30 (by decide)
                    have w_s_11_46 : (s_11.1 46 0).toInt = t_43 := by rw [e_s_11, sti_s, ht_43]
                    have r47_s_11 : s_11.1 47 = s_4.1 47 := by rw [e_s_11]; exact r47_s_30
                    have hPI_s_11 : PI s_11 := by rw [e_s_11]; exact PI.st1 (by decide) hPI_s_30
                    have g_44 := gX_46 hB_s_11 0
                    obtain ⟨t_45, ht_45, g_45⟩ : ∃ t : Int, ((s_11.1 46 0) - 1).toInt = t ∧ t = (s_11.1 46 0).toInt - (1 : Int32).toInt := ⟨_, rfl, by have h9 := fb_subI (x := (s_11.1 46 0)) (y := (1 : Int32)) (by omega) (by omega); exact h9⟩
                    exact ok_ret ⟨(by (try dsimp only); rw [ht_45]; omega), hB_s_11, hF_s_11, hPI_s_11, ⟨by (try dsimp only); omega, by (try dsimp only); omega, by first | exact fun _ _ => rfl | exact fun i hi => (congrFun r47_s_11 i).trans (hk_s_4 i hi)⟩⟩
          · rw [fa_eq] at c_31
            have g_46 := gX_46 hB_s_7 0
            refine ok_ix ⟨by omega, by omega⟩ ?_
            refine ok_lt fun s_9 e_s_9 => ?_
            have hB_s_9 : BX s_9 := by rw [e_s_9]; exact pX_51 hB_s_7 (tI_rng _)
            have hF_s_9 : FR [46, 47, 48, 49, 50, 51] [] σ s_9 := by rw [e_s_9]; exact FR.st hF_s_7 (by decide)
            have w_s_9_46 : (s_9.1 46 0).toInt = (s_7.1 46 0).toInt := by rw [e_s_9]; rfl
            have r47_s_9 : s_9.1 47 = s_4.1 47 := by rw [e_s_9]; exact r47_s_7
            have hPI_s_9 : PI s_9 := by rw [e_s_9]; exact PI.st1 (by decide) hPI_s_7
            refine ok_jn ?_
            refine ok_ite (fun c_47 => ?_) (fun c_47 => ?_)
            · have c_47 := c_47
              have g_48 := gX_46 hB_s_9 0
              refine ok_lt fun v_13 e_v_13 => ?_
              have b_v_13 : 0 ≤ v_13.toInt ∧ v_13.toInt ≤ 512 := by rw [e_v_13]; exact gX_46 hB_s_9 _
              have q_v_13 : v_13.toInt = (s_9.1 46 0).toInt := by rw [e_v_13]
              refine ok_ix ⟨by omega, by omega⟩ ?_
              refine ok_lt fun v_14 e_v_14 => ?_
              refine ok_ix ⟨by omega, by omega⟩ ?_
              refine ok_lt fun v_15 e_v_15 => ?_
              have q_v_15 : v_15.toInt = (s_9.1 50 x2.toNatClampNeg).toInt := by rw [e_v_15]
              refine ok_ix ⟨by omega, by omega⟩ ?_
              obtain ⟨t_49, ht_49, g_49⟩ : ∃ t : Int, (v_14 + v_15).toInt = t ∧ -2147483648 ≤ t ∧ t ≤ 2147483647 := ⟨_, rfl, tI_rng _⟩
              refine ok_lt fun s_16 e_s_16 => ?_
              have hB_s_16 : BX s_16 := by rw [e_s_16]; exact pX_50 hB_s_9 (tI_rng _)
              have hF_s_16 : FR [46, 47, 48, 49, 50, 51] [] σ s_16 := by rw [e_s_16]; exact FR.st hF_s_9 (by decide)
              have w_s_16_46 : (s_16.1 46 0).toInt = (s_9.1 46 0).toInt := by rw [e_s_16]; rfl
              have r47_s_16 : s_16.1 47 = s_4.1 47 := by rw [e_s_16]; exact r47_s_9
              have hPI_s_16 : PI s_16 := by rw [e_s_16]; exact PI.st1 (by decide) hPI_s_9
              refine ok_ix ⟨by omega, by omega⟩ ?_
              refine ok_lt fun v_17 e_v_17 => ?_
              have g_50 := gX_46 hB_s_16 0
              refine ok_ix ⟨by omega, by omega⟩ ?_
              refine ok_lt fun s_18 e_s_18 => ?_
              have hB_s_18 : BX s_18 := by rw [e_s_18]; exact pX_51 hB_s_16 (tI_rng _)
              have hF_s_18 : FR [46, 47, 48, 49, 50, 51] [] σ s_18 := by rw [e_s_18]; exact FR.st hF_s_16 (by decide)
              have w_s_18_46 : (s_18.1 46 0).toInt = (s_16.1 46 0).toInt := by rw [e_s_18]; rfl
              have r47_s_18 : s_18.1 47 = s_4.1 47 := by rw [e_s_18]; exact r47_s_16
              have hPI_s_18 : PI s_18 := by rw [e_s_18]; exact PI.st1 (by decide) hPI_s_16
              have g_51 := gX_46 hB_s_18 0
              obtain ⟨t_52, ht_52, g_52⟩ : ∃ t : Int, ((s_18.1 46 0) + 1).toInt = t ∧ t = (s_18.1 46 0).toInt + (1 : Int32).toInt := ⟨_, rfl, by have h9 := fb_addI (x := (s_18.1 46 0)) (y := (1 : Int32)) (by omega) (by omega); exact h9⟩
              refine ok_lt fun s_11 e_s_11 => ?_
              have hB_s_11 : BX s_11 := by rw [e_s_11]; exact pX_46 hB_s_18 (by rw [ht_52]; omega)
              have hF_s_11 : FR [46, 47, 48, 49, 50, 51] [] σ s_11 := by rw [e_s_11]; exact FR.st hF_s_18 (by decide)
              have w_s_11_46 : (s_11.1 46 0).toInt = t_52 := by rw [e_s_11, sti_s, ht_52]
              have r47_s_11 : s_11.1 47 = s_4.1 47 := by rw [e_s_11]; exact r47_s_18
              have hPI_s_11 : PI s_11 := by rw [e_s_11]; exact PI.st1 (by decide) hPI_s_18
              have g_53 := gX_46 hB_s_11 0
              obtain ⟨t_54, ht_54, g_54⟩ : ∃ t : Int, ((s_11.1 46 0) - 1).toInt = t ∧ t = (s_11.1 46 0).toInt - (1 : Int32).toInt := ⟨_, rfl, by have h9 := fb_subI (x := (s_11.1 46 0)) (y := (1 : Int32)) (by omega) (by omega); exact h9⟩
              exact ok_ret ⟨(by (try dsimp only); rw [ht_54]; omega), hB_s_11, hF_s_11, hPI_s_11, ⟨by (try dsimp only); omega, by (try dsimp only); omega, by first | exact fun _ _ => rfl | exact fun i hi => (congrFun r47_s_11 i).trans (hk_s_4 i hi)⟩⟩
            · have c_47 := c_47
              refine ok_ite (fun c_55 => ?_) (fun c_55 => ?_)
              · have c_55 := c_55
                have g_56 := gX_46 hB_s_9 0
                refine ok_ix ⟨by omega, by omega⟩ ?_
                obtain ⟨t_57, ht_57, g_57⟩ : ∃ t : Int, ((1 : Int32) <<< (((6 : Int32) + x2) &&& 31)).toInt = t ∧ -2147483648 ≤ t ∧ t ≤ 2147483647 := ⟨_, rfl, tI_rng _⟩
                refine ok_lt fun s_19 e_s_19 => ?_
                have hB_s_19 : BX s_19 := by rw [e_s_19]; exact pX_51 hB_s_9 (tI_rng _)
                have hF_s_19 : FR [46, 47, 48, 49, 50, 51] [] σ s_19 := by rw [e_s_19]; exact FR.st hF_s_9 (by decide)
                have w_s_19_46 : (s_19.1 46 0).toInt = (s_9.1 46 0).toInt := by rw [e_s_19]; rfl
                have r47_s_19 : s_19.1 47 = s_4.1 47 := by rw [e_s_19]; exact r47_s_9
                have hPI_s_19 : PI s_19 := by rw [e_s_19]; exact PI.st1 (by decide) hPI_s_9
                have g_58 := gX_46 hB_s_19 0
                obtain ⟨t_59, ht_59, g_59⟩ : ∃ t : Int, ((s_19.1 46 0) + 1).toInt = t ∧ t = (s_19.1 46 0).toInt + (1 : Int32).toInt := ⟨_, rfl, by have h9 := fb_addI (x := (s_19.1 46 0)) (y := (1 : Int32)) (by omega) (by omega); exact h9⟩
                refine ok_lt fun s_11 e_s_11 => ?_
                have hB_s_11 : BX s_11 := by rw [e_s_11]; exact pX_46 hB_s_19 (by rw [ht_59]; omega)
                have hF_s_11 : FR [46, 47, 48, 49, 50, 51] [] σ s_11 := by rw [e_s_11]; exact FR.st hF_s_19 (by decide)
                have w_s_11_46 : (s_11.1 46 0).toInt = t_59 := by rw [e_s_11, sti_s, ht_59]
                have r47_s_11 : s_11.1 47 = s_4.1 47 := by rw [e_s_11]; exact r47_s_19
                have hPI_s_11 : PI s_11 := by rw [e_s_11]; exact PI.st1 (by decide) hPI_s_19
                have g_60 := gX_46 hB_s_11 0
                obtain ⟨t_61, ht_61, g_61⟩ : ∃ t : Int, ((s_11.1 46 0) - 1).toInt = t ∧ t = (s_11.1 46 0).toInt - (1 : Int32).toInt := ⟨_, rfl, by have h9 := fb_subI (x := (s_11.1 46 0)) (y := (1 : Int32)) (by omega) (by omega); exact h9⟩
                exact ok_ret ⟨(by (try dsimp only); rw [ht_61]; omega), hB_s_11, hF_s_11, hPI_s_11, ⟨by (try dsimp only); omega, by (try dsimp only); omega, by first | exact fun _ _ => rfl | exact fun i hi => (congrFun r47_s_11 i).trans (hk_s_4 i hi)⟩⟩
              · have c_55 := c_55
                refine ok_ite (fun c_62 => ?_) (fun c_62 => ?_)
                · have c_62 := c_62
                  have g_63 := gX_46 hB_s_9 0
                  obtain ⟨t_64, ht_64, g_64⟩ : ∃ t : Int, ((s_9.1 46 0) + 1).toInt = t ∧ t = (s_9.1 46 0).toInt + (1 : Int32).toInt := ⟨_, rfl, by have h9 := fb_addI (x := (s_9.1 46 0)) (y := (1 : Int32)) (by omega) (by omega); exact h9⟩
                  refine ok_lt fun s_11 e_s_11 => ?_
                  have hB_s_11 : BX s_11 := by rw [e_s_11]; exact pX_46 hB_s_9 (by rw [ht_64]; omega)
                  have hF_s_11 : FR [46, 47, 48, 49, 50, 51] [] σ s_11 := by rw [e_s_11]; exact FR.st hF_s_9 (by decide)
                  have w_s_11_46 : (s_11.1 46 0).toInt = t_64 := by rw [e_s_11, sti_s, ht_64]
                  have r47_s_11 : s_11.1 47 = s_4.1 47 := by rw [e_s_11]; exact r47_s_9
                  have hPI_s_11 : PI s_11 := by rw [e_s_11]; exact PI.st1 (by decide) hPI_s_9
                  have g_65 := gX_46 hB_s_11 0
                  obtain ⟨t_66, ht_66, g_66⟩ : ∃ t : Int, ((s_11.1 46 0) - 1).toInt = t ∧ t = (s_11.1 46 0).toInt - (1 : Int32).toInt := ⟨_, rfl, by have h9 := fb_subI (x := (s_11.1 46 0)) (y := (1 : Int32)) (by omega) (by omega); exact h9⟩
                  exact ok_ret ⟨(by (try dsimp only); rw [ht_66]; omega), hB_s_11, hF_s_11, hPI_s_11, ⟨by (try dsimp only); omega, by (try dsimp only); omega, by first | exact fun _ _ => rfl | exact fun i hi => (congrFun r47_s_11 i).trans (hk_s_4 i hi)⟩⟩
                · have c_62 := c_62
                  refine ok_ite (fun c_67 => ?_) (fun c_67 => ?_)
                  · have c_67 := c_67
                    have g_68 := gX_46 hB_s_9 0
                    refine ok_ix ⟨by omega, by omega⟩ ?_
                    obtain ⟨t_69, ht_69, g_69⟩ : ∃ t : Int, ((1 : Int32) <<< (x2 &&& 31)).toInt = t ∧ -2147483648 ≤ t ∧ t ≤ 2147483647 := ⟨_, rfl, tI_rng _⟩
                    refine ok_lt fun s_20 e_s_20 => ?_
                    have hB_s_20 : BX s_20 := by rw [e_s_20]; exact pX_51 hB_s_9 (tI_rng _)
                    have hF_s_20 : FR [46, 47, 48, 49, 50, 51] [] σ s_20 := by rw [e_s_20]; exact FR.st hF_s_9 (by decide)
                    have w_s_20_46 : (s_20.1 46 0).toInt = (s_9.1 46 0).toInt := by rw [e_s_20]; rfl
                    have r47_s_20 : s_20.1 47 = s_4.1 47 := by rw [e_s_20]; exact r47_s_9
                    have hPI_s_20 : PI s_20 := by rw [e_s_20]; exact PI.st1 (by decide) hPI_s_9
                    have g_70 := gX_46 hB_s_20 0
                    obtain ⟨t_71, ht_71, g_71⟩ : ∃ t : Int, ((s_20.1 46 0) + 1).toInt = t ∧ t = (s_20.1 46 0).toInt + (1 : Int32).toInt := ⟨_, rfl, by have h9 := fb_addI (x := (s_20.1 46 0)) (y := (1 : Int32)) (by omega) (by omega); exact h9⟩
                    refine ok_lt fun s_11 e_s_11 => ?_
                    have hB_s_11 : BX s_11 := by rw [e_s_11]; exact pX_46 hB_s_20 (by rw [ht_71]; omega)
                    have hF_s_11 : FR [46, 47, 48, 49, 50, 51] [] σ s_11 := by rw [e_s_11]; exact FR.st hF_s_20 (by decide)
                    have w_s_11_46 : (s_11.1 46 0).toInt = t_71 := by rw [e_s_11, sti_s, ht_71]
                    have r47_s_11 : s_11.1 47 = s_4.1 47 := by rw [e_s_11]; exact r47_s_20
                    have hPI_s_11 : PI s_11 := by rw [e_s_11]; exact PI.st1 (by decide) hPI_s_20
                    have g_72 := gX_46 hB_s_11 0
                    obtain ⟨t_73, ht_73, g_73⟩ : ∃ t : Int, ((s_11.1 46 0) - 1).toInt = t ∧ t = (s_11.1 46 0).toInt - (1 : Int32).toInt := ⟨_, rfl, by have h9 := fb_subI (x := (s_11.1 46 0)) (y := (1 : Int32)) (by omega) (by omega); exact h9⟩
                    exact ok_ret ⟨(by (try dsimp only); rw [ht_73]; omega), hB_s_11, hF_s_11, hPI_s_11, ⟨by (try dsimp only); omega, by (try dsimp only); omega, by first | exact fun _ _ => rfl | exact fun i hi => (congrFun r47_s_11 i).trans (hk_s_4 i hi)⟩⟩
                  · have c_67 := c_67
                    have g_74 := gX_46 hB_s_9 0
                    refine ok_lt fun v_21 e_v_21 => ?_
                    have b_v_21 : 0 ≤ v_21.toInt ∧ v_21.toInt ≤ 512 := by rw [e_v_21]; exact gX_46 hB_s_9 _
                    have q_v_21 : v_21.toInt = (s_9.1 46 0).toInt := by rw [e_v_21]
                    refine ok_ix ⟨by omega, by omega⟩ ?_
                    refine ok_lt fun v_22 e_v_22 => ?_
                    refine ok_ix ⟨by omega, by omega⟩ ?_
                    refine ok_lt fun v_23 e_v_23 => ?_
                    have q_v_23 : v_23.toInt = (s_9.1 50 x2.toNatClampNeg).toInt := by rw [e_v_23]
                    refine ok_ix ⟨by omega, by omega⟩ ?_
                    refine ok_lt fun v_24 e_v_24 => ?_
                    refine ok_ix ⟨by omega, by omega⟩ ?_
                    obtain ⟨t_75, ht_75, g_75⟩ : ∃ t : Int, (v_23 + v_24).toInt = t ∧ -2147483648 ≤ t ∧ t ≤ 2147483647 := ⟨_, rfl, tI_rng _⟩
                    obtain ⟨t_76, ht_76, g_76⟩ : ∃ t : Int, (v_22 + (v_23 + v_24)).toInt = t ∧ -2147483648 ≤ t ∧ t ≤ 2147483647 := ⟨_, rfl, tI_rng _⟩
                    refine ok_lt fun s_25 e_s_25 => ?_
                    have hB_s_25 : BX s_25 := by rw [e_s_25]; exact pX_50 hB_s_9 (tI_rng _)
                    have hF_s_25 : FR [46, 47, 48, 49, 50, 51] [] σ s_25 := by rw [e_s_25]; exact FR.st hF_s_9 (by decide)
                    have w_s_25_46 : (s_25.1 46 0).toInt = (s_9.1 46 0).toInt := by rw [e_s_25]; rfl
                    have r47_s_25 : s_25.1 47 = s_4.1 47 := by rw [e_s_25]; exact r47_s_9
                    have hPI_s_25 : PI s_25 := by rw [e_s_25]; exact PI.st1 (by decide) hPI_s_9
                    have g_77 := gX_46 hB_s_25 0
                    refine ok_lt fun v_26 e_v_26 => ?_
                    have b_v_26 : 0 ≤ v_26.toInt ∧ v_26.toInt ≤ 512 := by rw [e_v_26]; exact gX_46 hB_s_25 _
                    have q_v_26 : v_26.toInt = (s_25.1 46 0).toInt := by rw [e_v_26]
                    refine ok_ix ⟨by omega, by omega⟩ ?_
                    refine ok_lt fun v_27 e_v_27 => ?_
                    refine ok_ix ⟨by omega, by omega⟩ ?_
                    refine ok_lt fun v_28 e_v_28 => ?_
                    refine ok_ix ⟨by omega, by omega⟩ ?_
                    refine ok_lt fun v_29 e_v_29 => ?_
                    refine ok_ix ⟨by omega, by omega⟩ ?_
                    obtain ⟨t_78, ht_78, g_78⟩ : ∃ t : Int, (v_27 ||| (v_28 ||| v_29)).toInt = t ∧ -2147483648 ≤ t ∧ t ≤ 2147483647 := ⟨_, rfl, tI_rng _⟩
                    refine ok_lt fun s_30 e_s_30 => ?_
                    have hB_s_30 : BX s_30 := by rw [e_s_30]; exact pX_51 hB_s_25 (tI_rng _)
                    have hF_s_30 : FR [46, 47, 48, 49, 50, 51] [] σ s_30 := by rw [e_s_30]; exact FR.st hF_s_25 (by decide)
                    have w_s_30_46 : (s_30.1 46 0).toInt = (s_25.1 46 0).toInt := by rw [e_s_30]; rfl
                    have r47_s_30 : s_30.1 47 = s_4.1 47 := by rw [e_s_30]; exact r47_s_25
                    have hPI_s_30 : PI s_30 := by rw [e_s_30]; exact PI.st1 (by decide) hPI_s_25
                    have g_79 := gX_46 hB_s_30 0
                    obtain ⟨t_80, ht_80, g_80⟩ : ∃ t : Int, ((s_30.1 46 0) + 1).toInt = t ∧ t = (s_30.1 46 0).toInt + (1 : Int32).toInt := ⟨_, rfl, by have h9 := fb_addI (x := (s_30.1 46 0)) (y := (1 : Int32)) (by omega) (by omega); exact h9⟩
                    refine ok_lt fun s_11 e_s_11 => ?_
                    have hB_s_11 : BX s_11 := by rw [e_s_11]; exact pX_46 hB_s_30 (by rw [ht_80]; omega)
                    have hF_s_11 : FR [46, 47, 48, 49, 50, 51] [] σ s_11 := by rw [e_s_11]; exact FR.st hF_s_30 (by decide)
                    have w_s_11_46 : (s_11.1 46 0).toInt = t_80 := by rw [e_s_11, sti_s, ht_80]
                    have r47_s_11 : s_11.1 47 = s_4.1 47 := by rw [e_s_11]; exact r47_s_30
                    have hPI_s_11 : PI s_11 := by rw [e_s_11]; exact PI.st1 (by decide) hPI_s_30
                    have g_81 := gX_46 hB_s_11 0
                    obtain ⟨t_82, ht_82, g_82⟩ : ∃ t : Int, ((s_11.1 46 0) - 1).toInt = t ∧ t = (s_11.1 46 0).toInt - (1 : Int32).toInt := ⟨_, rfl, by have h9 := fb_subI (x := (s_11.1 46 0)) (y := (1 : Int32)) (by omega) (by omega); exact h9⟩
                    exact ok_ret ⟨(by (try dsimp only); rw [ht_82]; omega), hB_s_11, hF_s_11, hPI_s_11, ⟨by (try dsimp only); omega, by (try dsimp only); omega, by first | exact fun _ _ => rfl | exact fun i hi => (congrFun r47_s_11 i).trans (hk_s_4 i hi)⟩⟩
  · rw [fa_le] at c_1
    refine ok_ix ⟨by omega, by omega⟩ ?_
    have g_83 := gX_47 hB (x4_1.toNatClampNeg)
    refine ok_lt fun v_35 e_v_35 => ?_
    have b_v_35 : 0 ≤ v_35.toInt ∧ v_35.toInt ≤ 255 := by rw [e_v_35]; exact gX_47 hB _
    refine ok_jn ?_
    refine ok_ite (fun c_84 => ?_) (fun c_84 => ?_)
    · rw [fa_eq] at c_84
      refine ok_ix ⟨by omega, by omega⟩ ?_
      have g_85 := gX_48 hB (x4_1.toNatClampNeg)
      refine ok_lt fun v_39 e_v_39 => ?_
      have b_v_39 : 0 ≤ v_39.toInt ∧ v_39.toInt ≤ 999 := by rw [e_v_39]; exact gX_48 hB _
      refine ok_ite (fun c_86 => ?_) (fun c_86 => ?_)
      · rw [fa_eq] at c_86
        refine ok_ix ⟨by omega, by omega⟩ ?_
        have g_87 := gX_49 hB (x4_1.toNatClampNeg)
        refine ok_lt fun v_41 e_v_41 => ?_
        have b_v_41 : 0 ≤ v_41.toInt ∧ v_41.toInt ≤ 511 := by rw [e_v_41]; exact gX_49 hB _
        refine ok_ite (fun c_88 => ?_) (fun c_88 => ?_)
        · rw [fa_eq] at c_88
          exact ok_ret ⟨(by (try dsimp only); omega), hB, hF, hPI, ⟨by (try dsimp only); omega, by (try dsimp only); omega, by first | exact fun _ _ => rfl | exact fun i hi => (congrFun r47_σ i).trans (hk_s_4 i hi)⟩⟩
        · rw [fa_eq] at c_88
          obtain ⟨t_89, ht_89, g_89⟩ : ∃ t : Int, (x4_1 + 1).toInt = t ∧ t = x4_1.toInt + (1 : Int32).toInt := ⟨_, rfl, by have h9 := fb_addI (x := x4_1) (y := (1 : Int32)) (by omega) (by omega); exact h9⟩
          refine ok_lt fun x4_37 e_x4_37 => ?_
          have q_x4_37 : x4_37.toInt = t_89 := by rw [e_x4_37]; exact ht_89
          exact ih_a_3 _ x4_37 (by rw [hn_a_3]; omega) ⟨rfl, (by omega)⟩
      · rw [fa_eq] at c_86
        obtain ⟨t_90, ht_90, g_90⟩ : ∃ t : Int, (x4_1 + 1).toInt = t ∧ t = x4_1.toInt + (1 : Int32).toInt := ⟨_, rfl, by have h9 := fb_addI (x := x4_1) (y := (1 : Int32)) (by omega) (by omega); exact h9⟩
        refine ok_lt fun x4_37 e_x4_37 => ?_
        have q_x4_37 : x4_37.toInt = t_90 := by rw [e_x4_37]; exact ht_90
        exact ih_a_3 _ x4_37 (by rw [hn_a_3]; omega) ⟨rfl, (by omega)⟩
    · rw [fa_eq] at c_84
      obtain ⟨t_91, ht_91, g_91⟩ : ∃ t : Int, (x4_1 + 1).toInt = t ∧ t = x4_1.toInt + (1 : Int32).toInt := ⟨_, rfl, by have h9 := fb_addI (x := x4_1) (y := (1 : Int32)) (by omega) (by omega); exact h9⟩
      refine ok_lt fun x4_37 e_x4_37 => ?_
      have q_x4_37 : x4_37.toInt = t_91 := by rw [e_x4_37]; exact ht_91
      exact ih_a_3 _ x4_37 (by rw [hn_a_3]; omega) ⟨rfl, (by omega)⟩

set_option maxHeartbeats 4000000 in
theorem s_X1_putAside {x1 : Int32} {σ : Sto} (hB : BX σ) (hPI : PI σ) (hSI : SI σ) (hKI : KI σ) (p_x1 : 0 ≤ x1.toInt ∧ x1.toInt ≤ 511) : OK (f_X1_putAside x1 σ) (fun r => (0 ≤ r.1.toInt ∧ r.1.toInt ≤ 511) ∧ BX r.2 ∧ FR [46, 47, 48, 49, 50, 51, 52, 53, 54, 55, 58] [] σ r.2 ∧ PI r.2 ∧ SI r.2 ∧ KI r.2 ∧ ((σ.1 46 0).toInt ≤ (r.2.1 46 0).toInt ∧ r.1.toInt < (r.2.1 46 0).toInt)) := by
  unfold f_X1_putAside
  have hF : FR [46, 47, 48, 49, 50, 51, 52, 53, 54, 55, 58] [] σ σ := FR.rf
  have k_0 : (0 : Int32).toInt = 0 := by decide +kernel
  have k_1 : (1 : Int32).toInt = 1 := by decide +kernel
  have k_2 : (2 : Int32).toInt = 2 := by decide +kernel
  have k_88 : (88 : Int32).toInt = 88 := by decide +kernel
  have k_160 : (160 : Int32).toInt = 160 := by decide +kernel
  have g9 := gX_58 hB 0
  have g_1 := gX_58 hB 0
  refine ok_cals (s_X1_add (x1 := (2 : Int32)) (x2 := (σ.1 58 0)) (x3 := x1) (σ := σ) hB hSI (by omega) (by omega) (by omega) (t2_X (by omega) (by omega) (by omega))) (fun s_1 h_2 => ?_)
  obtain ⟨hB_s_1, hG_s_1, hSI_s_1⟩ := h_2
  (try dsimp only at hB_s_1 hG_s_1 hSI_s_1)
  have hF_s_1 : FR [46, 47, 48, 49, 50, 51, 52, 53, 54, 55, 58] [] σ s_1 := FR.cal hF hG_s_1 rfl rfl
  have w_s_1_46 : (s_1.1 46 0).toInt = (σ.1 46 0).toInt := by rw [hG_s_1.1 46 (by decide)]
  have w_s_1_58 : (s_1.1 58 0).toInt = (σ.1 58 0).toInt := by rw [hG_s_1.1 58 (by decide)]
  have f_s_1_61 : (s_1.1 61 0).toInt = (σ.1 61 0).toInt := by rw [hF_s_1.1 61 (by decide)]
  have hPI_s_1 : PI s_1 := PI.fr hG_s_1 (by decide) hPI
  have hKI_s_1 : KI s_1 := KI.fr hG_s_1 (by decide) hKI
  have g8 := gX_58 hB_s_1 0
  have g_3 := gX_58 hB_s_1 0
  refine ok_calv (s_X7_make (x1 := (88 : Int32)) (x2 := (s_1.1 58 0)) (x3 := (0 : Int32)) (σ := s_1) hB_s_1 hPI_s_1 (by omega) (by omega) (by omega) (t1_X (by omega) (by omega))) (fun v_2 s_2 h_4 => ?_)
  obtain ⟨b_v_2, hB_s_2, hG_s_2, hPI_s_2, x_s_2⟩ := h_4
  (try dsimp only at b_v_2 hB_s_2 hG_s_2 hPI_s_2 x_s_2)
  have hF_s_2 : FR [46, 47, 48, 49, 50, 51, 52, 53, 54, 55, 58] [] σ s_2 := FR.cal hF_s_1 hG_s_2 rfl rfl
  have w_s_2_58 : (s_2.1 58 0).toInt = (s_1.1 58 0).toInt := by rw [hG_s_2.1 58 (by decide)]
  have f_s_2_61 : (s_2.1 61 0).toInt = (σ.1 61 0).toInt := by rw [hF_s_2.1 61 (by decide)]
  have hSI_s_2 : SI s_2 := SI.fr hG_s_2 (by decide) hSI_s_1
  have hKI_s_2 : KI s_2 := KI.up hKI_s_1 (hG_s_2.1 60 (by decide)) (hG_s_2.1 61 (by decide)) x_s_2.1
  have g_6 := gX_58 hB_s_2 0
  refine ok_ite (fun c_5 => ?_) (fun c_5 => ?_)
  · rw [fa_le] at c_5
    exact ok_ret ⟨(by (try dsimp only); omega), hB_s_2, hF_s_2, hPI_s_2, hSI_s_2, hKI_s_2, (by (try dsimp only); omega)⟩
  · rw [fa_le] at c_5
    obtain ⟨t_7, ht_7, g_7⟩ : ∃ t : Int, ((s_2.1 58 0) + 1).toInt = t ∧ t = (s_2.1 58 0).toInt + (1 : Int32).toInt := ⟨_, rfl, by have h9 := fb_addI (x := (s_2.1 58 0)) (y := (1 : Int32)) (by omega) (by omega); exact h9⟩
    refine ok_lt fun s_4 e_s_4 => ?_
    have hB_s_4 : BX s_4 := by rw [e_s_4]; exact pX_58 hB_s_2 (by rw [ht_7]; omega)
    have hF_s_4 : FR [46, 47, 48, 49, 50, 51, 52, 53, 54, 55, 58] [] σ s_4 := by rw [e_s_4]; exact FR.st hF_s_2 (by decide)
    have w_s_4_46 : (s_4.1 46 0).toInt = (s_2.1 46 0).toInt := by rw [e_s_4]; rfl
    have w_s_4_58 : (s_4.1 58 0).toInt = t_7 := by rw [e_s_4, sti_s, ht_7]
    have f_s_4_61 : (s_4.1 61 0).toInt = (σ.1 61 0).toInt := by rw [hF_s_4.1 61 (by decide)]
    have hPI_s_4 : PI s_4 := by rw [e_s_4]; exact PI.st1 (by decide) hPI_s_2
    have hSI_s_4 : SI s_4 := by rw [e_s_4]; exact SI.st1 (by decide) hSI_s_2
    have hKI_s_4 : KI s_4 := by rw [e_s_4]; exact KI.st1 (by decide) hKI_s_2
    exact ok_ret ⟨(by (try dsimp only); omega), hB_s_4, hF_s_4, hPI_s_4, hSI_s_4, hKI_s_4, (by (try dsimp only); omega)⟩

set_option maxHeartbeats 4000000 in
theorem s_X7_slotBit {x1 : Int32} (p_x1 : 0 ≤ x1.toInt ∧ x1.toInt ≤ 5) : OK (f_X7_slotBit x1) (fun v => True) := by
  unfold f_X7_slotBit
  obtain ⟨t_1, ht_1, g_1⟩ : ∃ t : Int, ((1 : Int32) <<< (((6 : Int32) + x1) &&& 31)).toInt = t ∧ -2147483648 ≤ t ∧ t ≤ 2147483647 := ⟨_, rfl, tI_rng _⟩
  exact ok_ret trivial

set_option maxHeartbeats 4000000 in
theorem s_X1_isNeededAbove {x1 : Int32} {x2 : Int32} {σ : Sto} (hB : BX σ) (p_x1 : 0 ≤ x1.toInt ∧ x1.toInt ≤ 39) (p_x2 : 0 ≤ x2.toInt ∧ x2.toInt ≤ 5) : OK (f_X1_isNeededAbove x1 x2 σ) (fun v => (0 ≤ v.toInt ∧ v.toInt ≤ 1)) := by
  unfold f_X1_isNeededAbove
  have hF : FR [] [] σ σ := FR.rf
  have k_m1 : ((-1) : Int32).toInt = -1 := by decide +kernel
  have k_0 : (0 : Int32).toInt = 0 := by decide +kernel
  have k_1 : (1 : Int32).toInt = 1 := by decide +kernel
  refine ok_ix ⟨by omega, by omega⟩ ?_
  have g_1 := gX_57 hB (x1.toNatClampNeg)
  refine ok_lt fun v_1 e_v_1 => ?_
  have b_v_1 : (-1) ≤ v_1.toInt ∧ v_1.toInt ≤ 511 := by rw [e_v_1]; exact gX_57 hB _
  have q_v_1 : v_1.toInt = (σ.1 57 x1.toNatClampNeg).toInt := by rw [e_v_1]
  refine ok_jn ?_
  refine ok_ite (fun c_2 => ?_) (fun c_2 => ?_)
  · rw [fa_eq] at c_2
    obtain ⟨t_3, ht_3, g_3⟩ : ∃ t : Int, (x2 + 1).toInt = t ∧ t = x2.toInt + (1 : Int32).toInt := ⟨_, rfl, by have h9 := fb_addI (x := x2) (y := (1 : Int32)) (by omega) (by omega); exact h9⟩
    refine ok_lt fun x4_3 e_x4_3 => ?_
    have q_x4_3 : x4_3.toInt = t_3 := by rw [e_x4_3]; exact ht_3
    refine ok_itr2 (fun (n : Nat) (x3_4 : Int32) (x4_4 : Int32) => n = (9 - x4_4.toInt).toNat ∧ (1 ≤ x4_4.toInt ∧ x4_4.toInt ≤ 8)) ?_ (n := _) ⟨rfl, (by omega)⟩ (show _ < 10000000 by omega)
    intro a_34 n x3_4 x4_4 hI ih_a_34
    obtain ⟨hn_a_34, b_x4_4⟩ := hI
    have g_5 := gX_61 hB 0
    refine ok_ite (fun c_4 => ?_) (fun c_4 => ?_)
    · rw [fa_le] at c_4
      refine ok_calp (s_X7_slotBit (x1 := x2) (by omega)) (fun v_6 h_6 => ?_)
      have b_v_6 := h_6
      (try dsimp only at b_v_6)
      obtain ⟨t_8, ht_8, g_8⟩ : ∃ t : Int, (x3_4 &&& v_6).toInt = t ∧ -2147483648 ≤ t ∧ t ≤ 2147483647 := ⟨_, rfl, tI_rng _⟩
      refine ok_ite (fun c_7 => ?_) (fun c_7 => ?_)
      · rw [fa_eq, ht_8] at c_7
        exact ok_ret (by (try dsimp only); omega)
      · rw [fa_eq, ht_8] at c_7
        exact ok_ret (by (try dsimp only); omega)
    · rw [fa_le] at c_4
      refine ok_ix ⟨by omega, by omega⟩ ?_
      have g_9 := gX_60 hB (x4_4.toNatClampNeg)
      refine ok_lt fun v_8 e_v_8 => ?_
      have b_v_8 : 0 ≤ v_8.toInt ∧ v_8.toInt ≤ 511 := by rw [e_v_8]; exact gX_60 hB _
      have q_v_8 : v_8.toInt = (σ.1 60 x4_4.toNatClampNeg).toInt := by rw [e_v_8]
      refine ok_ix ⟨by omega, by omega⟩ ?_
      refine ok_lt fun v_9 e_v_9 => ?_
      obtain ⟨t_10, ht_10, g_10⟩ : ∃ t : Int, (x3_4 ||| v_9).toInt = t ∧ -2147483648 ≤ t ∧ t ≤ 2147483647 := ⟨_, rfl, tI_rng _⟩
      refine ok_lt fun x3_10 e_x3_10 => ?_
      have q_x3_10 : x3_10.toInt = t_10 := by rw [e_x3_10]; exact ht_10
      obtain ⟨t_11, ht_11, g_11⟩ : ∃ t : Int, (x4_4 + 1).toInt = t ∧ t = x4_4.toInt + (1 : Int32).toInt := ⟨_, rfl, by have h9 := fb_addI (x := x4_4) (y := (1 : Int32)) (by omega) (by omega); exact h9⟩
      refine ok_lt fun x4_11 e_x4_11 => ?_
      have q_x4_11 : x4_11.toInt = t_11 := by rw [e_x4_11]; exact ht_11
      exact ih_a_34 _ x3_10 x4_11 (by rw [hn_a_34]; omega) ⟨rfl, (by omega)⟩
  · rw [fa_eq] at c_2
    refine ok_ix ⟨by omega, by omega⟩ ?_
    refine ok_lt fun v_13 e_v_13 => ?_
    have b_v_13 : (-1) ≤ v_13.toInt ∧ v_13.toInt ≤ 511 := by rw [e_v_13]; exact gX_57 hB _
    have q_v_13 : v_13.toInt = (σ.1 57 x1.toNatClampNeg).toInt := by rw [e_v_13]
    refine ok_ix ⟨by omega, by omega⟩ ?_
    refine ok_lt fun v_14 e_v_14 => ?_
    obtain ⟨t_12, ht_12, g_12⟩ : ∃ t : Int, (x2 + 1).toInt = t ∧ t = x2.toInt + (1 : Int32).toInt := ⟨_, rfl, by have h9 := fb_addI (x := x2) (y := (1 : Int32)) (by omega) (by omega); exact h9⟩
    refine ok_lt fun x4_3 e_x4_3 => ?_
    have q_x4_3 : x4_3.toInt = t_12 := by rw [e_x4_3]; exact ht_12
    refine ok_itr2 (fun (n : Nat) (x3_4 : Int32) (x4_4 : Int32) => n = (9 - x4_4.toInt).toNat ∧ (1 ≤ x4_4.toInt ∧ x4_4.toInt ≤ 8)) ?_ (n := _) ⟨rfl, (by omega)⟩ (show _ < 10000000 by omega)
    intro a_34 n x3_4 x4_4 hI ih_a_34
    obtain ⟨hn_a_34, b_x4_4⟩ := hI
    have g_14 := gX_61 hB 0
    refine ok_ite (fun c_13 => ?_) (fun c_13 => ?_)
    · rw [fa_le] at c_13
      refine ok_calp (s_X7_slotBit (x1 := x2) (by omega)) (fun v_6 h_15 => ?_)
      have b_v_6 := h_15
      (try dsimp only at b_v_6)
      obtain ⟨t_17, ht_17, g_17⟩ : ∃ t : Int, (x3_4 &&& v_6).toInt = t ∧ -2147483648 ≤ t ∧ t ≤ 2147483647 := ⟨_, rfl, tI_rng _⟩
      refine ok_ite (fun c_16 => ?_) (fun c_16 => ?_)
      · rw [fa_eq, ht_17] at c_16
        exact ok_ret (by (try dsimp only); omega)
      · rw [fa_eq, ht_17] at c_16
        exact ok_ret (by (try dsimp only); omega)
    · rw [fa_le] at c_13
      refine ok_ix ⟨by omega, by omega⟩ ?_
      have g_18 := gX_60 hB (x4_4.toNatClampNeg)
      refine ok_lt fun v_8 e_v_8 => ?_
      have b_v_8 : 0 ≤ v_8.toInt ∧ v_8.toInt ≤ 511 := by rw [e_v_8]; exact gX_60 hB _
      have q_v_8 : v_8.toInt = (σ.1 60 x4_4.toNatClampNeg).toInt := by rw [e_v_8]
      refine ok_ix ⟨by omega, by omega⟩ ?_
      refine ok_lt fun v_9 e_v_9 => ?_
      obtain ⟨t_19, ht_19, g_19⟩ : ∃ t : Int, (x3_4 ||| v_9).toInt = t ∧ -2147483648 ≤ t ∧ t ≤ 2147483647 := ⟨_, rfl, tI_rng _⟩
      refine ok_lt fun x3_10 e_x3_10 => ?_
      have q_x3_10 : x3_10.toInt = t_19 := by rw [e_x3_10]; exact ht_19
      obtain ⟨t_20, ht_20, g_20⟩ : ∃ t : Int, (x4_4 + 1).toInt = t ∧ t = x4_4.toInt + (1 : Int32).toInt := ⟨_, rfl, by have h9 := fb_addI (x := x4_4) (y := (1 : Int32)) (by omega) (by omega); exact h9⟩
      refine ok_lt fun x4_11 e_x4_11 => ?_
      have q_x4_11 : x4_11.toInt = t_20 := by rw [e_x4_11]; exact ht_20
      exact ih_a_34 _ x3_10 x4_11 (by rw [hn_a_34]; omega) ⟨rfl, (by omega)⟩

set_option maxHeartbeats 4000000 in
theorem sd_X7_replace : ∀ d : Nat, ∀ {x1 : Int32} {x2 : Int32} {x3 : Int32} {x4 : Int32} {σ : Sto} (hB : BX σ) (hPI : PI σ) (p_x1 : 0 ≤ x1.toInt ∧ x1.toInt ≤ 511) (p_x2 : 0 ≤ x2.toInt ∧ x2.toInt ≤ 5) (p_x3 : 0 ≤ x3.toInt ∧ x3.toInt ≤ 511) (p_x4 : 0 ≤ x4.toInt ∧ x4.toInt ≤ 61) (hx1 : x1.toInt < (σ.1 46 0).toInt) (hx3 : x3.toInt < (σ.1 46 0).toInt), (63 - x4.toInt).toNat ≤ d → OK (f_X7_replace d x1 x2 x3 x4 σ) (fun r => (0 ≤ r.1.toInt ∧ r.1.toInt ≤ 511) ∧ BX r.2 ∧ FR [46, 47, 48, 49, 50, 51] [] σ r.2 ∧ PI r.2 ∧ ((σ.1 46 0).toInt ≤ (r.2.1 46 0).toInt ∧ r.1.toInt < (r.2.1 46 0).toInt ∧ ∀ i : Nat, (i : Int) < (σ.1 46 0).toInt → r.2.1 47 i = σ.1 47 i)) := by
  intro d
  induction d with
  | zero => intro x1 x2 x3 x4 σ hB hPI p_x1 p_x2 p_x3 p_x4 hx1 hx3 hmu; omega
  | succ d ih =>
  intro x1 x2 x3 x4 σ hB hPI p_x1 p_x2 p_x3 p_x4 hx1 hx3 hmu
  show OK (b_X7_replace (f_X7_replace d) x1 x2 x3 x4 σ) _
  unfold b_X7_replace
  have hF : FR [46, 47, 48, 49, 50, 51] [] σ σ := FR.rf
  have k_0 : (0 : Int32).toInt = 0 := by decide +kernel
  have k_1 : (1 : Int32).toInt = 1 := by decide +kernel
  have k_60 : (60 : Int32).toInt = 60 := by decide +kernel
  have hc1 := clamp_I (x := x1) (by omega)
  refine ok_ite (fun c_1 => ?_) (fun c_1 => ?_)
  · rw [fa_lt] at c_1
    exact ok_ret ⟨(by (try dsimp only); omega), hB, hF, hPI, ⟨by (try dsimp only); omega, by (try dsimp only); omega, by first | exact fun _ _ => rfl | exact fun i hi => (x_s_14.2.2 i (by omega)).trans (x_s_13.2.2 i hi) | exact fun i hi => (x_s_20.2.2 i (by omega)).trans ((x_s_18.2.2 i (by omega)).trans (x_s_16.2.2 i hi))⟩⟩
  · rw [fa_lt] at c_1
    refine ok_ix ⟨by omega, by omega⟩ ?_
    refine ok_lt fun v_2 e_v_2 => ?_
    refine ok_calp (s_X7_slotBit (x1 := x2) (by omega)) (fun v_3 h_2 => ?_)
    have b_v_3 := h_2
    (try dsimp only at b_v_3)
    obtain ⟨t_4, ht_4, g_4⟩ : ∃ t : Int, (v_2 &&& v_3).toInt = t ∧ -2147483648 ≤ t ∧ t ≤ 2147483647 := ⟨_, rfl, tI_rng _⟩
    refine ok_ite (fun c_3 => ?_) (fun c_3 => ?_)
    · rw [fa_eq, ht_4] at c_3
      exact ok_ret ⟨(by (try dsimp only); omega), hB, hF, hPI, ⟨by (try dsimp only); omega, by (try dsimp only); omega, by first | exact fun _ _ => rfl | exact fun i hi => (x_s_14.2.2 i (by omega)).trans (x_s_13.2.2 i hi) | exact fun i hi => (x_s_20.2.2 i (by omega)).trans ((x_s_18.2.2 i (by omega)).trans (x_s_16.2.2 i hi))⟩⟩
    · rw [fa_eq, ht_4] at c_3
      refine ok_ix ⟨by omega, by omega⟩ ?_
      have g_5 := gX_47 hB (x1.toNatClampNeg)
      refine ok_lt fun v_5 e_v_5 => ?_
      have b_v_5 : 0 ≤ v_5.toInt ∧ v_5.toInt ≤ 255 := by rw [e_v_5]; exact gX_47 hB _
      have q_v_5 : v_5.toInt = (σ.1 47 x1.toNatClampNeg).toInt := by rw [e_v_5]
      refine ok_calp (s_X11_isBinary (x1 := v_5) ) (fun v_6 h_6 => ?_)
      obtain ⟨b_v_6, x_v_6⟩ := h_6
      (try dsimp only at b_v_6 x_v_6)
      refine ok_ite (fun c_7 => ?_) (fun c_7 => ?_)
      · rw [fa_eq] at c_7
        refine ok_ix ⟨by omega, by omega⟩ ?_
        refine ok_lt fun v_8 e_v_8 => ?_
        have b_v_8 : 0 ≤ v_8.toInt ∧ v_8.toInt ≤ 255 := by rw [e_v_8]; exact gX_47 hB _
        have q_v_8 : v_8.toInt = (σ.1 47 x1.toNatClampNeg).toInt := by rw [e_v_8]
        refine ok_calp (s_X11_isUnary (x1 := v_8) (by omega)) (fun v_9 h_8 => ?_)
        obtain ⟨b_v_9, x_v_9⟩ := h_8
        (try dsimp only at b_v_9 x_v_9)
        refine ok_ite (fun c_9 => ?_) (fun c_9 => ?_)
        · rw [fa_eq] at c_9
          exact ok_ret ⟨(by (try dsimp only); omega), hB, hF, hPI, ⟨by (try dsimp only); omega, by (try dsimp only); omega, by first | exact fun _ _ => rfl | exact fun i hi => (x_s_14.2.2 i (by omega)).trans (x_s_13.2.2 i hi) | exact fun i hi => (x_s_20.2.2 i (by omega)).trans ((x_s_18.2.2 i (by omega)).trans (x_s_16.2.2 i hi))⟩⟩
        · rw [fa_eq] at c_9
          refine ok_ix ⟨by omega, by omega⟩ ?_
          refine ok_lt fun v_11 e_v_11 => ?_
          have b_v_11 : 0 ≤ v_11.toInt ∧ v_11.toInt ≤ 255 := by rw [e_v_11]; exact gX_47 hB _
          have q_v_11 : v_11.toInt = (σ.1 47 x1.toNatClampNeg).toInt := by rw [e_v_11]
          refine ok_ix ⟨by omega, by omega⟩ ?_
          have g_10 := gX_48 hB (x1.toNatClampNeg)
          refine ok_lt fun v_12 e_v_12 => ?_
          have b_v_12 : 0 ≤ v_12.toInt ∧ v_12.toInt ≤ 999 := by rw [e_v_12]; exact gX_48 hB _
          have q_v_12 : v_12.toInt = (σ.1 48 x1.toNatClampNeg).toInt := by rw [e_v_12]
          have hU : opU v_8 := x_v_9.mp (by omega)
          have z12 : v_12.toInt < x1.toInt := by have h9 := (hPI x1.toNatClampNeg).2.2.2.2.1 (Or.inl (by rw [← e_v_8]; exact hU)); rw [← e_v_12] at h9; omega
          obtain ⟨t_11, ht_11, g_11⟩ : ∃ t : Int, (x4 + 1).toInt = t ∧ t = x4.toInt + (1 : Int32).toInt := ⟨_, rfl, by have h9 := fb_addI (x := x4) (y := (1 : Int32)) (by omega) (by omega); exact h9⟩
          refine ok_calv (ih (x1 := v_12) (x2 := x2) (x3 := x3) (x4 := (x4 + 1)) (σ := σ) hB hPI (by omega) (by omega) (by omega) (by rw [ht_11]; omega) (by omega) (by omega) (by rw [ht_11]; omega)) (fun v_13 s_13 h_12 => ?_)
          obtain ⟨b_v_13, hB_s_13, hG_s_13, hPI_s_13, x_s_13⟩ := h_12
          (try dsimp only at b_v_13 hB_s_13 hG_s_13 hPI_s_13 x_s_13)
          have hF_s_13 : FR [46, 47, 48, 49, 50, 51] [] σ s_13 := FR.cal hF hG_s_13 rfl rfl
          have hT : T1 (s_13.1 46 0).toInt v_11 v_13 0 := t1_op (Or.inl (by rw [e_v_11, ← e_v_8]; exact hU)) (by omega) (gX_46 hB_s_13 0).2 (fun q => by rw [e_v_11, ← e_v_8] at q; unfold opU at hU; unfold opB at q; omega)
          refine ok_calv (s_X7_make (x1 := v_11) (x2 := v_13) (x3 := (0 : Int32)) (σ := s_13) hB_s_13 hPI_s_13 (by omega) (by omega) (by omega) hT) (fun v_14 s_14 h_13 => ?_)
          obtain ⟨b_v_14, hB_s_14, hG_s_14, hPI_s_14, x_s_14⟩ := h_13
          (try dsimp only at b_v_14 hB_s_14 hG_s_14 hPI_s_14 x_s_14)
          have hF_s_14 : FR [46, 47, 48, 49, 50, 51] [] σ s_14 := FR.cal hF_s_13 hG_s_14 rfl rfl
          exact ok_ret ⟨(by (try dsimp only); omega), hB_s_14, hF_s_14, hPI_s_14, ⟨by (try dsimp only); omega, by (try dsimp only); omega, by first | exact fun _ _ => rfl | exact fun i hi => (x_s_14.2.2 i (by omega)).trans (x_s_13.2.2 i hi) | exact fun i hi => (x_s_20.2.2 i (by omega)).trans ((x_s_18.2.2 i (by omega)).trans (x_s_16.2.2 i hi))⟩⟩
      · rw [fa_eq] at c_7
        refine ok_ix ⟨by omega, by omega⟩ ?_
        have g_14 := gX_48 hB (x1.toNatClampNeg)
        refine ok_lt fun v_15 e_v_15 => ?_
        have b_v_15 : 0 ≤ v_15.toInt ∧ v_15.toInt ≤ 999 := by rw [e_v_15]; exact gX_48 hB _
        have q_v_15 : v_15.toInt = (σ.1 48 x1.toNatClampNeg).toInt := by rw [e_v_15]
        have hB2 : opB v_5 := x_v_6.mp (by omega)
        have z15 : v_15.toInt < x1.toInt := by have h9 := (hPI x1.toNatClampNeg).2.2.2.2.1 (Or.inr (by rw [← e_v_5]; exact hB2)); rw [← e_v_15] at h9; omega
        obtain ⟨t_15, ht_15, g_15⟩ : ∃ t : Int, (x4 + 1).toInt = t ∧ t = x4.toInt + (1 : Int32).toInt := ⟨_, rfl, by have h9 := fb_addI (x := x4) (y := (1 : Int32)) (by omega) (by omega); exact h9⟩
        refine ok_calv (ih (x1 := v_15) (x2 := x2) (x3 := x3) (x4 := (x4 + 1)) (σ := σ) hB hPI (by omega) (by omega) (by omega) (by rw [ht_15]; omega) (by omega) (by omega) (by rw [ht_15]; omega)) (fun v_16 s_16 h_16 => ?_)
        obtain ⟨b_v_16, hB_s_16, hG_s_16, hPI_s_16, x_s_16⟩ := h_16
        (try dsimp only at b_v_16 hB_s_16 hG_s_16 hPI_s_16 x_s_16)
        have hF_s_16 : FR [46, 47, 48, 49, 50, 51] [] σ s_16 := FR.cal hF hG_s_16 rfl rfl
        refine ok_ix ⟨by omega, by omega⟩ ?_
        have g_17 := gX_49 hB_s_16 (x1.toNatClampNeg)
        refine ok_lt fun v_17 e_v_17 => ?_
        have b_v_17 : 0 ≤ v_17.toInt ∧ v_17.toInt ≤ 511 := by rw [e_v_17]; exact gX_49 hB_s_16 _
        have z17 : v_17.toInt < x1.toInt := by have h9 := (hPI_s_16 x1.toNatClampNeg).2.2.2.2.2 (by rw [x_s_16.2.2 _ (by omega), ← e_v_5]; exact hB2); rw [← e_v_17] at h9; omega
        refine ok_calv (ih (x1 := v_17) (x2 := x2) (x3 := x3) (x4 := (x4 + 1)) (σ := s_16) hB_s_16 hPI_s_16 (by omega) (by omega) (by omega) (by rw [ht_15]; omega) (by omega) (by omega) (by rw [ht_15]; omega)) (fun v_18 s_18 h_18 => ?_)
        obtain ⟨b_v_18, hB_s_18, hG_s_18, hPI_s_18, x_s_18⟩ := h_18
        (try dsimp only at b_v_18 hB_s_18 hG_s_18 hPI_s_18 x_s_18)
        have hF_s_18 : FR [46, 47, 48, 49, 50, 51] [] σ s_18 := FR.cal hF_s_16 hG_s_18 rfl rfl
        refine ok_ix ⟨by omega, by omega⟩ ?_
        have g_19 := gX_47 hB_s_18 (x1.toNatClampNeg)
        refine ok_lt fun v_19 e_v_19 => ?_
        have b_v_19 : 0 ≤ v_19.toInt ∧ v_19.toInt ≤ 255 := by rw [e_v_19]; exact gX_47 hB_s_18 _
        have hB3 : opB v_19 := by rw [e_v_19, x_s_18.2.2 _ (by omega), x_s_16.2.2 _ (by omega), ← e_v_5]; exact hB2
        have hT : T1 (s_18.1 46 0).toInt v_19 v_16 v_18 := t1_op (Or.inr hB3) (by omega) (gX_46 hB_s_18 0).2 (fun _ => by omega)
        refine ok_calv (s_X7_make (x1 := v_19) (x2 := v_16) (x3 := v_18) (σ := s_18) hB_s_18 hPI_s_18 (by omega) (by omega) (by omega) hT) (fun v_20 s_20 h_20 => ?_)
        obtain ⟨b_v_20, hB_s_20, hG_s_20, hPI_s_20, x_s_20⟩ := h_20
        (try dsimp only at b_v_20 hB_s_20 hG_s_20 hPI_s_20 x_s_20)
        have hF_s_20 : FR [46, 47, 48, 49, 50, 51] [] σ s_20 := FR.cal hF_s_18 hG_s_20 rfl rfl
        exact ok_ret ⟨(by (try dsimp only); omega), hB_s_20, hF_s_20, hPI_s_20, ⟨by (try dsimp only); omega, by (try dsimp only); omega, by first | exact fun _ _ => rfl | exact fun i hi => (x_s_14.2.2 i (by omega)).trans (x_s_13.2.2 i hi) | exact fun i hi => (x_s_20.2.2 i (by omega)).trans ((x_s_18.2.2 i (by omega)).trans (x_s_16.2.2 i hi))⟩⟩
theorem s_X7_replace {x1 : Int32} {x2 : Int32} {x3 : Int32} {x4 : Int32} {σ : Sto} (hB : BX σ) (hPI : PI σ) (p_x1 : 0 ≤ x1.toInt ∧ x1.toInt ≤ 511) (p_x2 : 0 ≤ x2.toInt ∧ x2.toInt ≤ 5) (p_x3 : 0 ≤ x3.toInt ∧ x3.toInt ≤ 511) (p_x4 : 0 ≤ x4.toInt ∧ x4.toInt ≤ 61) (hx1 : x1.toInt < (σ.1 46 0).toInt) (hx3 : x3.toInt < (σ.1 46 0).toInt) (hmu : (63 - x4.toInt).toNat ≤ 250) : OK (f_X7_replace 250 x1 x2 x3 x4 σ) (fun r => (0 ≤ r.1.toInt ∧ r.1.toInt ≤ 511) ∧ BX r.2 ∧ FR [46, 47, 48, 49, 50, 51] [] σ r.2 ∧ PI r.2 ∧ ((σ.1 46 0).toInt ≤ (r.2.1 46 0).toInt ∧ r.1.toInt < (r.2.1 46 0).toInt ∧ ∀ i : Nat, (i : Int) < (σ.1 46 0).toInt → r.2.1 47 i = σ.1 47 i)) := sd_X7_replace 250 hB hPI p_x1 p_x2 p_x3 p_x4 hx1 hx3 hmu

set_option maxHeartbeats 4000000 in
theorem s_X1_replaceAbove {x1 : Int32} {x2 : Int32} {x3 : Int32} {σ : Sto} (hB : BX σ) (hPI : PI σ) (hSI : SI σ) (hKI : KI σ) (p_x1 : 0 ≤ x1.toInt ∧ x1.toInt ≤ 39) (p_x2 : 0 ≤ x2.toInt ∧ x2.toInt ≤ 5) (p_x3 : 0 ≤ x3.toInt ∧ x3.toInt ≤ 511) (hx3 : x3.toInt < (σ.1 46 0).toInt) (ht : (σ.1 57 x1.toNatClampNeg).toInt < (σ.1 46 0).toInt) : OK (f_X1_replaceAbove x1 x2 x3 σ) (fun s => BX s ∧ FR [46, 47, 48, 49, 50, 51, 57, 60] [] σ s ∧ PI s ∧ SI s ∧ KI s ∧ ((σ.1 46 0).toInt ≤ (s.1 46 0).toInt ∧ (s.1 57 x1.toNatClampNeg).toInt < (s.1 46 0).toInt)) := by
  unfold f_X1_replaceAbove
  have hF : FR [46, 47, 48, 49, 50, 51, 57, 60] [] σ σ := FR.rf
  have k_m1 : ((-1) : Int32).toInt = -1 := by decide +kernel
  have k_0 : (0 : Int32).toInt = 0 := by decide +kernel
  have k_1 : (1 : Int32).toInt = 1 := by decide +kernel
  obtain ⟨t_1, ht_1, g_1⟩ : ∃ t : Int, (x2 + 1).toInt = t ∧ t = x2.toInt + (1 : Int32).toInt := ⟨_, rfl, by have h9 := fb_addI (x := x2) (y := (1 : Int32)) (by omega) (by omega); exact h9⟩
  refine ok_lt fun x4_1 e_x4_1 => ?_
  have q_x4_1 : x4_1.toInt = t_1 := by rw [e_x4_1]; exact ht_1
  refine ok_itr2 (fun (n : Nat) (x4_2 : Int32) (s_2 : Sto) => n = (9 - x4_2.toInt).toNat ∧ (1 ≤ x4_2.toInt ∧ x4_2.toInt ≤ 8) ∧ (BX s_2) ∧ (FR [46, 47, 48, 49, 50, 51, 57, 60] [] σ s_2) ∧ (PI s_2) ∧ (SI s_2) ∧ (KI s_2) ∧ ((σ.1 46 0).toInt ≤ (s_2.1 46 0).toInt) ∧ ((s_2.1 57 x1.toNatClampNeg).toInt = (σ.1 57 x1.toNatClampNeg).toInt)) ?_ (n := _) ⟨rfl, (by omega), hB, hF, hPI, hSI, hKI, (by omega), rfl⟩ (show _ < 10000000 by omega)
  intro a_5 n x4_2 s_2 hI ih_a_5
  obtain ⟨hn_a_5, b_x4_2, hB_s_2, hF_s_2, hPI_s_2, hSI_s_2, hKI_s_2, hsz, h57⟩ := hI
  have f_s_2_61 : (s_2.1 61 0).toInt = (σ.1 61 0).toInt := by rw [hF_s_2.1 61 (by decide)]
  have g_3 := gX_61 hB_s_2 0
  have g_4 : (s_2.1 61 0).toInt = (σ.1 61 0).toInt := by rw [hF_s_2.1 61 (by decide)]
  have g_5 := gX_61 hB 0
  refine ok_ite (fun c_2 => ?_) (fun c_2 => ?_)
  · rw [fa_le] at c_2
    refine ok_ix ⟨by omega, by omega⟩ ?_
    have g_6 := gX_57 hB_s_2 (x1.toNatClampNeg)
    refine ok_lt fun v_4 e_v_4 => ?_
    have b_v_4 : (-1) ≤ v_4.toInt ∧ v_4.toInt ≤ 511 := by rw [e_v_4]; exact gX_57 hB_s_2 _
    have q_v_4 : v_4.toInt = (s_2.1 57 x1.toNatClampNeg).toInt := by rw [e_v_4]
    have z4 : v_4.toInt = (s_2.1 57 x1.toNatClampNeg).toInt := by rw [e_v_4]
    refine ok_ite (fun c_7 => ?_) (fun c_7 => ?_)
    · rw [fa_eq] at c_7
      exact ok_ret ⟨hB_s_2, hF_s_2, hPI_s_2, hSI_s_2, hKI_s_2, (by (try dsimp only); omega)⟩
    · rw [fa_eq] at c_7
      refine ok_ix ⟨by omega, by omega⟩ ?_
      refine ok_lt fun v_6 e_v_6 => ?_
      have b_v_6 : (-1) ≤ v_6.toInt ∧ v_6.toInt ≤ 511 := by rw [e_v_6]; exact gX_57 hB_s_2 _
      have q_v_6 : v_6.toInt = (s_2.1 57 x1.toNatClampNeg).toInt := by rw [e_v_6]
      have z6 : v_6.toInt = (s_2.1 57 x1.toNatClampNeg).toInt := by rw [e_v_6]
      refine ok_calv (s_X7_replace (x1 := v_6) (x2 := x2) (x3 := x3) (x4 := (0 : Int32)) (σ := s_2) hB_s_2 hPI_s_2 (by omega) (by omega) (by omega) (by omega) (by omega) (by omega) (by omega)) (fun v_7 s_7 h_8 => ?_)
      obtain ⟨b_v_7, hB_s_7, hG_s_7, hPI_s_7, x_s_7⟩ := h_8
      (try dsimp only at b_v_7 hB_s_7 hG_s_7 hPI_s_7 x_s_7)
      have hF_s_7 : FR [46, 47, 48, 49, 50, 51, 57, 60] [] σ s_7 := FR.cal hF_s_2 hG_s_7 rfl rfl
      have f_s_7_61 : (s_7.1 61 0).toInt = (σ.1 61 0).toInt := by rw [hF_s_7.1 61 (by decide)]
      have hSI_s_7 : SI s_7 := SI.fr hG_s_7 (by decide) hSI_s_2
      have hKI_s_7 : KI s_7 := KI.up hKI_s_2 (hG_s_7.1 60 (by decide)) (hG_s_7.1 61 (by decide)) x_s_7.1
      refine ok_ix ⟨by omega, by omega⟩ ?_
      refine ok_lt fun s_8 e_s_8 => ?_
      have hB_s_8 : BX s_8 := by rw [e_s_8]; exact pX_57 hB_s_7 (by omega)
      have hF_s_8 : FR [46, 47, 48, 49, 50, 51, 57, 60] [] σ s_8 := by rw [e_s_8]; exact FR.st hF_s_7 (by decide)
      have w_s_8_46 : (s_8.1 46 0).toInt = (s_7.1 46 0).toInt := by rw [e_s_8]; rfl
      have f_s_8_61 : (s_8.1 61 0).toInt = (σ.1 61 0).toInt := by rw [hF_s_8.1 61 (by decide)]
      have hPI_s_8 : PI s_8 := by rw [e_s_8]; exact PI.st1 (by decide) hPI_s_7
      have hSI_s_8 : SI s_8 := by rw [e_s_8]; exact SI.st1 (by decide) hSI_s_7
      have hKI_s_8 : KI s_8 := by rw [e_s_8]; exact KI.st1 (by decide) hKI_s_7
      have z8 : (s_8.1 57 x1.toNatClampNeg).toInt = v_7.toInt := by rw [e_s_8, sti_s]
      exact ok_ret ⟨hB_s_8, hF_s_8, hPI_s_8, hSI_s_8, hKI_s_8, (by (try dsimp only); omega)⟩
  · rw [fa_le] at c_2
    refine ok_ix ⟨by omega, by omega⟩ ?_
    have g_9 := gX_60 hB_s_2 (x4_2.toNatClampNeg)
    refine ok_lt fun v_9 e_v_9 => ?_
    have b_v_9 : 0 ≤ v_9.toInt ∧ v_9.toInt ≤ 511 := by rw [e_v_9]; exact gX_60 hB_s_2 _
    have q_v_9 : v_9.toInt = (s_2.1 60 x4_2.toNatClampNeg).toInt := by rw [e_v_9]
    have z9 : v_9.toInt < (s_2.1 46 0).toInt := by rw [e_v_9]; exact hKI_s_2 _ (by have := clamp_I (x := x4_2) (by omega); omega)
    refine ok_calv (s_X7_replace (x1 := v_9) (x2 := x2) (x3 := x3) (x4 := (0 : Int32)) (σ := s_2) hB_s_2 hPI_s_2 (by omega) (by omega) (by omega) (by omega) (by omega) (by omega) (by omega)) (fun v_10 s_10 h_10 => ?_)
    obtain ⟨b_v_10, hB_s_10, hG_s_10, hPI_s_10, x_s_10⟩ := h_10
    (try dsimp only at b_v_10 hB_s_10 hG_s_10 hPI_s_10 x_s_10)
    have hF_s_10 : FR [46, 47, 48, 49, 50, 51, 57, 60] [] σ s_10 := FR.cal hF_s_2 hG_s_10 rfl rfl
    have f_s_10_61 : (s_10.1 61 0).toInt = (σ.1 61 0).toInt := by rw [hF_s_10.1 61 (by decide)]
    have hSI_s_10 : SI s_10 := SI.fr hG_s_10 (by decide) hSI_s_2
    have hKI_s_10 : KI s_10 := KI.up hKI_s_2 (hG_s_10.1 60 (by decide)) (hG_s_10.1 61 (by decide)) x_s_10.1
    refine ok_ix ⟨by omega, by omega⟩ ?_
    refine ok_lt fun s_11 e_s_11 => ?_
    have hB_s_11 : BX s_11 := by rw [e_s_11]; exact pX_60 hB_s_10 (by omega)
    have hF_s_11 : FR [46, 47, 48, 49, 50, 51, 57, 60] [] σ s_11 := by rw [e_s_11]; exact FR.st hF_s_10 (by decide)
    have w_s_11_46 : (s_11.1 46 0).toInt = (s_10.1 46 0).toInt := by rw [e_s_11]; rfl
    have f_s_11_61 : (s_11.1 61 0).toInt = (σ.1 61 0).toInt := by rw [hF_s_11.1 61 (by decide)]
    have hPI_s_11 : PI s_11 := by rw [e_s_11]; exact PI.st1 (by decide) hPI_s_10
    have hSI_s_11 : SI s_11 := by rw [e_s_11]; exact SI.st1 (by decide) hSI_s_10
    have hKI_s_11 : KI s_11 := KI.put hKI_s_10 e_s_11 x_s_10.2.1
    obtain ⟨t_11, ht_11, g_11⟩ : ∃ t : Int, (x4_2 + 1).toInt = t ∧ t = x4_2.toInt + (1 : Int32).toInt := ⟨_, rfl, by have h9 := fb_addI (x := x4_2) (y := (1 : Int32)) (by omega) (by omega); exact h9⟩
    refine ok_lt fun x4_12 e_x4_12 => ?_
    have q_x4_12 : x4_12.toInt = t_11 := by rw [e_x4_12]; exact ht_11
    have h57n : (s_11.1 57 x1.toNatClampNeg).toInt = (σ.1 57 x1.toNatClampNeg).toInt := by rw [e_s_11, show (sti s_10 60 x4_2.toNatClampNeg v_10).1 57 = s_10.1 57 from sti_o (by decide), hG_s_10.1 57 (by decide)]; exact h57
    exact ih_a_5 _ x4_12 s_11 (by rw [hn_a_5]; omega) ⟨rfl, (by omega), hB_s_11, hF_s_11, hPI_s_11, hSI_s_11, hKI_s_11, (by omega), h57n⟩

set_option maxHeartbeats 4000000 in
theorem s_X1_handOver {x1 : Int32} {σ : Sto} (hB : BX σ) (hPI : PI σ) (hSI : SI σ) (hKI : KI σ) (p_x1 : 0 ≤ x1.toInt ∧ x1.toInt ≤ 39) (ht : (σ.1 57 x1.toNatClampNeg).toInt < (σ.1 46 0).toInt) (hh : (σ.1 61 0).toInt ≤ 6) : OK (f_X1_handOver x1 σ) (fun s => BX s ∧ FR [46, 47, 48, 49, 50, 51, 52, 53, 54, 55, 57, 58, 60] [] σ s ∧ PI s ∧ SI s ∧ KI s ∧ ((σ.1 46 0).toInt ≤ (s.1 46 0).toInt ∧ (s.1 57 x1.toNatClampNeg).toInt < (s.1 46 0).toInt)) := by
  unfold f_X1_handOver
  have hF : FR [46, 47, 48, 49, 50, 51, 52, 53, 54, 55, 57, 58, 60] [] σ σ := FR.rf
  have k_m1 : ((-1) : Int32).toInt = -1 := by decide +kernel
  have k_0 : (0 : Int32).toInt = 0 := by decide +kernel
  have k_1 : (1 : Int32).toInt = 1 := by decide +kernel
  have k_84 : (84 : Int32).toInt = 84 := by decide +kernel
  refine ok_itr2 (fun (n : Nat) (x2_1 : Int32) (s_1 : Sto) => n = (9 - x2_1.toInt).toNat ∧ (0 ≤ x2_1.toInt ∧ x2_1.toInt ≤ 8) ∧ (BX s_1) ∧ (FR [46, 47, 48, 49, 50, 51, 52, 53, 54, 55, 57, 58, 60] [] σ s_1) ∧ (PI s_1) ∧ (SI s_1) ∧ (KI s_1) ∧ ((σ.1 46 0).toInt ≤ (s_1.1 46 0).toInt) ∧ ((s_1.1 57 x1.toNatClampNeg).toInt < (s_1.1 46 0).toInt)) ?_ (n := _) ⟨rfl, (by omega), hB, hF, hPI, hSI, hKI, (by omega), (by omega)⟩ (show _ < 10000000 by omega)
  intro a_2 n x2_1 s_1 hI ih_a_2
  obtain ⟨hn_a_2, b_x2_1, hB_s_1, hF_s_1, hPI_s_1, hSI_s_1, hKI_s_1, hsz, htb⟩ := hI
  have f_s_1_61 : (s_1.1 61 0).toInt = (σ.1 61 0).toInt := by rw [hF_s_1.1 61 (by decide)]
  have g_2 := gX_61 hB_s_1 0
  have g_3 : (s_1.1 61 0).toInt = (σ.1 61 0).toInt := by rw [hF_s_1.1 61 (by decide)]
  have g_4 := gX_61 hB 0
  refine ok_ite (fun c_1 => ?_) (fun c_1 => ?_)
  · rw [fa_le] at c_1
    refine ok_ix ⟨by omega, by omega⟩ ?_
    have g_5 := gX_57 hB_s_1 (x1.toNatClampNeg)
    refine ok_lt fun v_3 e_v_3 => ?_
    have b_v_3 : (-1) ≤ v_3.toInt ∧ v_3.toInt ≤ 511 := by rw [e_v_3]; exact gX_57 hB_s_1 _
    have q_v_3 : v_3.toInt = (s_1.1 57 x1.toNatClampNeg).toInt := by rw [e_v_3]
    refine ok_ite (fun c_6 => ?_) (fun c_6 => ?_)
    · rw [fa_eq] at c_6
      exact ok_ret ⟨hB_s_1, hF_s_1, hPI_s_1, hSI_s_1, hKI_s_1, (by (try dsimp only); omega)⟩
    · rw [fa_eq] at c_6
      refine ok_ix ⟨by omega, by omega⟩ ?_
      refine ok_lt fun v_5 e_v_5 => ?_
      have b_v_5 : (-1) ≤ v_5.toInt ∧ v_5.toInt ≤ 511 := by rw [e_v_5]; exact gX_57 hB_s_1 _
      have q_v_5 : v_5.toInt = (s_1.1 57 x1.toNatClampNeg).toInt := by rw [e_v_5]
      refine ok_calp (s_X7_hasEffects (x1 := v_5) (σ := s_1) hB_s_1 (by omega)) (fun v_6 h_7 => ?_)
      have b_v_6 := h_7
      (try dsimp only at b_v_6)
      refine ok_ite (fun c_8 => ?_) (fun c_8 => ?_)
      · rw [fa_eq] at c_8
        exact ok_ret ⟨hB_s_1, hF_s_1, hPI_s_1, hSI_s_1, hKI_s_1, (by (try dsimp only); omega)⟩
      · rw [fa_eq] at c_8
        refine ok_ix ⟨by omega, by omega⟩ ?_
        refine ok_lt fun v_8 e_v_8 => ?_
        have b_v_8 : (-1) ≤ v_8.toInt ∧ v_8.toInt ≤ 511 := by rw [e_v_8]; exact gX_57 hB_s_1 _
        have q_v_8 : v_8.toInt = (s_1.1 57 x1.toNatClampNeg).toInt := by rw [e_v_8]
        refine ok_calv (s_X1_putAside (x1 := v_8) (σ := s_1) hB_s_1 hPI_s_1 hSI_s_1 hKI_s_1 (by omega)) (fun v_9 s_9 h_9 => ?_)
        obtain ⟨b_v_9, hB_s_9, hG_s_9, hPI_s_9, hSI_s_9, hKI_s_9, x_s_9⟩ := h_9
        (try dsimp only at b_v_9 hB_s_9 hG_s_9 hPI_s_9 hSI_s_9 hKI_s_9 x_s_9)
        have hF_s_9 : FR [46, 47, 48, 49, 50, 51, 52, 53, 54, 55, 57, 58, 60] [] σ s_9 := FR.cal hF_s_1 hG_s_9 rfl rfl
        have f_s_9_61 : (s_9.1 61 0).toInt = (σ.1 61 0).toInt := by rw [hF_s_9.1 61 (by decide)]
        have z57_s_9 : (s_9.1 57 x1.toNatClampNeg).toInt = (s_1.1 57 x1.toNatClampNeg).toInt := by rw [hG_s_9.1 57 (by decide)]
        refine ok_ix ⟨by omega, by omega⟩ ?_
        refine ok_lt fun s_10 e_s_10 => ?_
        have hB_s_10 : BX s_10 := by rw [e_s_10]; exact pX_57 hB_s_9 (by omega)
        have hF_s_10 : FR [46, 47, 48, 49, 50, 51, 52, 53, 54, 55, 57, 58, 60] [] σ s_10 := by rw [e_s_10]; exact FR.st hF_s_9 (by decide)
        have w_s_10_46 : (s_10.1 46 0).toInt = (s_9.1 46 0).toInt := by rw [e_s_10]; rfl
        have f_s_10_61 : (s_10.1 61 0).toInt = (σ.1 61 0).toInt := by rw [hF_s_10.1 61 (by decide)]
        have hPI_s_10 : PI s_10 := by rw [e_s_10]; exact PI.st1 (by decide) hPI_s_9
        have hSI_s_10 : SI s_10 := by rw [e_s_10]; exact SI.st1 (by decide) hSI_s_9
        have hKI_s_10 : KI s_10 := by rw [e_s_10]; exact KI.st1 (by decide) hKI_s_9
        have z8 : (s_10.1 57 x1.toNatClampNeg).toInt = v_9.toInt := by rw [e_s_10, sti_s]
        exact ok_ret ⟨hB_s_10, hF_s_10, hPI_s_10, hSI_s_10, hKI_s_10, (by (try dsimp only); omega)⟩
  · rw [fa_le] at c_1
    refine ok_calv (s_X7_make (x1 := (84 : Int32)) (x2 := x2_1) (x3 := (0 : Int32)) (σ := s_1) hB_s_1 hPI_s_1 (by omega) (by omega) (by omega) (t1_T (by omega) (by omega))) (fun v_11 s_11 h_10 => ?_)
    obtain ⟨b_v_11, hB_s_11, hG_s_11, hPI_s_11, x_s_11⟩ := h_10
    (try dsimp only at b_v_11 hB_s_11 hG_s_11 hPI_s_11 x_s_11)
    have hF_s_11 : FR [46, 47, 48, 49, 50, 51, 52, 53, 54, 55, 57, 58, 60] [] σ s_11 := FR.cal hF_s_1 hG_s_11 rfl rfl
    have f_s_11_61 : (s_11.1 61 0).toInt = (σ.1 61 0).toInt := by rw [hF_s_11.1 61 (by decide)]
    have z57_s_11 : (s_11.1 57 x1.toNatClampNeg).toInt = (s_1.1 57 x1.toNatClampNeg).toInt := by rw [hG_s_11.1 57 (by decide)]
    have hSI_s_11 : SI s_11 := SI.fr hG_s_11 (by decide) hSI_s_1
    have hKI_s_11 : KI s_11 := KI.up hKI_s_1 (hG_s_11.1 60 (by decide)) (hG_s_11.1 61 (by decide)) x_s_11.1
    refine ok_ix ⟨by omega, by omega⟩ ?_
    have g_11 := gX_60 hB_s_11 (x2_1.toNatClampNeg)
    refine ok_lt fun v_12 e_v_12 => ?_
    have b_v_12 : 0 ≤ v_12.toInt ∧ v_12.toInt ≤ 511 := by rw [e_v_12]; exact gX_60 hB_s_11 _
    have q_v_12 : v_12.toInt = (s_11.1 60 x2_1.toNatClampNeg).toInt := by rw [e_v_12]
    refine ok_jn ?_
    refine ok_ite (fun c_12 => ?_) (fun c_12 => ?_)
    · rw [fa_eq] at c_12
      obtain ⟨t_13, ht_13, g_13⟩ : ∃ t : Int, (x2_1 + 1).toInt = t ∧ t = x2_1.toInt + (1 : Int32).toInt := ⟨_, rfl, by have h9 := fb_addI (x := x2_1) (y := (1 : Int32)) (by omega) (by omega); exact h9⟩
      refine ok_lt fun x2_14 e_x2_14 => ?_
      have q_x2_14 : x2_14.toInt = t_13 := by rw [e_x2_14]; exact ht_13
      exact ih_a_2 _ x2_14 s_11 (by rw [hn_a_2]; omega) ⟨rfl, (by omega), hB_s_11, hF_s_11, hPI_s_11, hSI_s_11, hKI_s_11, (by omega), (by omega)⟩
    · rw [fa_eq] at c_12
      refine ok_calp (s_X1_isNeededAbove (x1 := x1) (x2 := x2_1) (σ := s_11) hB_s_11 (by omega) (by omega)) (fun v_16 h_14 => ?_)
      have b_v_16 := h_14
      (try dsimp only at b_v_16)
      refine ok_jn ?_
      refine ok_ite (fun c_15 => ?_) (fun c_15 => ?_)
      · rw [fa_eq] at c_15
        refine ok_ix ⟨by omega, by omega⟩ ?_
        refine ok_lt fun v_18 e_v_18 => ?_
        have b_v_18 : 0 ≤ v_18.toInt ∧ v_18.toInt ≤ 511 := by rw [e_v_18]; exact gX_60 hB_s_11 _
        have q_v_18 : v_18.toInt = (s_11.1 60 x2_1.toNatClampNeg).toInt := by rw [e_v_18]
        refine ok_cals (s_X1_add (x1 := (1 : Int32)) (x2 := x2_1) (x3 := v_18) (σ := s_11) hB_s_11 hSI_s_11 (by omega) (by omega) (by omega) (t2_T (by omega) (by omega) (by omega) (by omega))) (fun s_19 h_16 => ?_)
        obtain ⟨hB_s_19, hG_s_19, hSI_s_19⟩ := h_16
        (try dsimp only at hB_s_19 hG_s_19 hSI_s_19)
        have hF_s_19 : FR [46, 47, 48, 49, 50, 51, 52, 53, 54, 55, 57, 58, 60] [] σ s_19 := FR.cal hF_s_11 hG_s_19 rfl rfl
        have w_s_19_46 : (s_19.1 46 0).toInt = (s_11.1 46 0).toInt := by rw [hG_s_19.1 46 (by decide)]
        have f_s_19_61 : (s_19.1 61 0).toInt = (σ.1 61 0).toInt := by rw [hF_s_19.1 61 (by decide)]
        have z57_s_19 : (s_19.1 57 x1.toNatClampNeg).toInt = (s_11.1 57 x1.toNatClampNeg).toInt := by rw [hG_s_19.1 57 (by decide)]
        have hPI_s_19 : PI s_19 := PI.fr hG_s_19 (by decide) hPI_s_11
        have hKI_s_19 : KI s_19 := KI.fr hG_s_19 (by decide) hKI_s_11
        obtain ⟨t_17, ht_17, g_17⟩ : ∃ t : Int, (x2_1 + 1).toInt = t ∧ t = x2_1.toInt + (1 : Int32).toInt := ⟨_, rfl, by have h9 := fb_addI (x := x2_1) (y := (1 : Int32)) (by omega) (by omega); exact h9⟩
        refine ok_lt fun x2_14 e_x2_14 => ?_
        have q_x2_14 : x2_14.toInt = t_17 := by rw [e_x2_14]; exact ht_17
        exact ih_a_2 _ x2_14 s_19 (by rw [hn_a_2]; omega) ⟨rfl, (by omega), hB_s_19, hF_s_19, hPI_s_19, hSI_s_19, hKI_s_19, (by omega), (by omega)⟩
      · rw [fa_eq] at c_15
        refine ok_calv (s_X1_putAside (x1 := v_11) (σ := s_11) hB_s_11 hPI_s_11 hSI_s_11 hKI_s_11 (by omega)) (fun v_21 s_21 h_18 => ?_)
        obtain ⟨b_v_21, hB_s_21, hG_s_21, hPI_s_21, hSI_s_21, hKI_s_21, x_s_21⟩ := h_18
        (try dsimp only at b_v_21 hB_s_21 hG_s_21 hPI_s_21 hSI_s_21 hKI_s_21 x_s_21)
        have hF_s_21 : FR [46, 47, 48, 49, 50, 51, 52, 53, 54, 55, 57, 58, 60] [] σ s_21 := FR.cal hF_s_11 hG_s_21 rfl rfl
        have f_s_21_61 : (s_21.1 61 0).toInt = (σ.1 61 0).toInt := by rw [hF_s_21.1 61 (by decide)]
        have z57_s_21 : (s_21.1 57 x1.toNatClampNeg).toInt = (s_11.1 57 x1.toNatClampNeg).toInt := by rw [hG_s_21.1 57 (by decide)]
        refine ok_cals (s_X1_replaceAbove (x1 := x1) (x2 := x2_1) (x3 := v_21) (σ := s_21) hB_s_21 hPI_s_21 hSI_s_21 hKI_s_21 (by omega) (by omega) (by omega) (by omega) (by omega)) (fun s_22 h_19 => ?_)
        obtain ⟨hB_s_22, hG_s_22, hPI_s_22, hSI_s_22, hKI_s_22, x_s_22⟩ := h_19
        (try dsimp only at hB_s_22 hG_s_22 hPI_s_22 hSI_s_22 hKI_s_22 x_s_22)
        have hF_s_22 : FR [46, 47, 48, 49, 50, 51, 52, 53, 54, 55, 57, 58, 60] [] σ s_22 := FR.cal hF_s_21 hG_s_22 rfl rfl
        have f_s_22_61 : (s_22.1 61 0).toInt = (σ.1 61 0).toInt := by rw [hF_s_22.1 61 (by decide)]
        refine ok_ix ⟨by omega, by omega⟩ ?_
        have g_20 := gX_60 hB_s_22 (x2_1.toNatClampNeg)
        refine ok_lt fun v_18 e_v_18 => ?_
        have b_v_18 : 0 ≤ v_18.toInt ∧ v_18.toInt ≤ 511 := by rw [e_v_18]; exact gX_60 hB_s_22 _
        have q_v_18 : v_18.toInt = (s_22.1 60 x2_1.toNatClampNeg).toInt := by rw [e_v_18]
        refine ok_cals (s_X1_add (x1 := (1 : Int32)) (x2 := x2_1) (x3 := v_18) (σ := s_22) hB_s_22 hSI_s_22 (by omega) (by omega) (by omega) (t2_T (by omega) (by omega) (by omega) (by omega))) (fun s_19 h_21 => ?_)
        obtain ⟨hB_s_19, hG_s_19, hSI_s_19⟩ := h_21
        (try dsimp only at hB_s_19 hG_s_19 hSI_s_19)
        have hF_s_19 : FR [46, 47, 48, 49, 50, 51, 52, 53, 54, 55, 57, 58, 60] [] σ s_19 := FR.cal hF_s_22 hG_s_19 rfl rfl
        have w_s_19_46 : (s_19.1 46 0).toInt = (s_22.1 46 0).toInt := by rw [hG_s_19.1 46 (by decide)]
        have f_s_19_61 : (s_19.1 61 0).toInt = (σ.1 61 0).toInt := by rw [hF_s_19.1 61 (by decide)]
        have z57_s_19 : (s_19.1 57 x1.toNatClampNeg).toInt = (s_22.1 57 x1.toNatClampNeg).toInt := by rw [hG_s_19.1 57 (by decide)]
        have hPI_s_19 : PI s_19 := PI.fr hG_s_19 (by decide) hPI_s_22
        have hKI_s_19 : KI s_19 := KI.fr hG_s_19 (by decide) hKI_s_22
        obtain ⟨t_22, ht_22, g_22⟩ : ∃ t : Int, (x2_1 + 1).toInt = t ∧ t = x2_1.toInt + (1 : Int32).toInt := ⟨_, rfl, by have h9 := fb_addI (x := x2_1) (y := (1 : Int32)) (by omega) (by omega); exact h9⟩
        refine ok_lt fun x2_14 e_x2_14 => ?_
        have q_x2_14 : x2_14.toInt = t_22 := by rw [e_x2_14]; exact ht_22
        exact ih_a_2 _ x2_14 s_19 (by rw [hn_a_2]; omega) ⟨rfl, (by omega), hB_s_19, hF_s_19, hPI_s_19, hSI_s_19, hKI_s_19, (by omega), (by omega)⟩

set_option maxHeartbeats 4000000 in
theorem s_X1_pop {σ : Sto} (hB : BX σ) (hKI : KI σ) : OK (f_X1_pop σ) (fun r => (0 ≤ r.1.toInt ∧ r.1.toInt ≤ 511) ∧ BX r.2 ∧ FR [61] [] σ r.2 ∧ KI r.2 ∧ ((1 ≤ (σ.1 61 0).toInt → ((r.2.1 61 0).toInt = (σ.1 61 0).toInt - 1 ∧ r.1.toInt < (σ.1 46 0).toInt)))) := by
  unfold f_X1_pop
  have hF : FR [61] [] σ σ := FR.rf
  have k_0 : (0 : Int32).toInt = 0 := by decide +kernel
  have k_1 : (1 : Int32).toInt = 1 := by decide +kernel
  refine ok_jn ?_
  have g_2 := gX_61 hB 0
  refine ok_ite (fun c_1 => ?_) (fun c_1 => ?_)
  · rw [fa_le] at c_1
    refine ok_ix ⟨by omega, by omega⟩ ?_
    have g_3 := gX_60 hB ((σ.1 61 0).toNatClampNeg)
    refine ok_lt fun v_2 e_v_2 => ?_
    have b_v_2 : 0 ≤ v_2.toInt ∧ v_2.toInt ≤ 511 := by rw [e_v_2]; exact gX_60 hB _
    have q_v_2 : v_2.toInt = (σ.1 60 (σ.1 61 0).toNatClampNeg).toInt := by rw [e_v_2]
    exact ok_ret ⟨(by (try dsimp only); omega), hB, hF, hKI, (by (try dsimp only); omega)⟩
  · rw [fa_le] at c_1
    obtain ⟨t_4, ht_4, g_4⟩ : ∃ t : Int, ((σ.1 61 0) - 1).toInt = t ∧ t = (σ.1 61 0).toInt - (1 : Int32).toInt := ⟨_, rfl, by have h9 := fb_subI (x := (σ.1 61 0)) (y := (1 : Int32)) (by omega) (by omega); exact h9⟩
    refine ok_lt fun s_4 e_s_4 => ?_
    have hB_s_4 : BX s_4 := by rw [e_s_4]; exact pX_61 hB (by rw [ht_4]; omega)
    have hF_s_4 : FR [61] [] σ s_4 := by rw [e_s_4]; exact FR.st hF (by decide)
    have w_s_4_61 : (s_4.1 61 0).toInt = t_4 := by rw [e_s_4, sti_s, ht_4]
    have f_s_4_46 : (s_4.1 46 0).toInt = (σ.1 46 0).toInt := by rw [hF_s_4.1 46 (by decide)]
    have hKI_s_4 : KI s_4 := KI.low hKI e_s_4 (by omega)
    have z4 : (s_4.1 60 (s_4.1 61 0).toNatClampNeg).toInt < (σ.1 46 0).toInt := by have h9 := hKI (s_4.1 61 0).toNatClampNeg (by have := clamp_I (x := (s_4.1 61 0)) (by omega); omega); rw [show s_4.1 60 = σ.1 60 by rw [e_s_4]; rfl]; exact h9
    have g_5 := gX_61 hB_s_4 0
    refine ok_ix ⟨by omega, by omega⟩ ?_
    have g_6 := gX_60 hB_s_4 ((s_4.1 61 0).toNatClampNeg)
    refine ok_lt fun v_2 e_v_2 => ?_
    have b_v_2 : 0 ≤ v_2.toInt ∧ v_2.toInt ≤ 511 := by rw [e_v_2]; exact gX_60 hB_s_4 _
    have q_v_2 : v_2.toInt = (s_4.1 60 (s_4.1 61 0).toNatClampNeg).toInt := by rw [e_v_2]
    exact ok_ret ⟨(by (try dsimp only); omega), hB_s_4, hF_s_4, hKI_s_4, (by (try dsimp only); omega)⟩

set_option maxHeartbeats 4000000 in
theorem s_X1_push {x1 : Int32} {σ : Sto} (hB : BX σ) (hKI : KI σ) (p_x1 : 0 ≤ x1.toInt ∧ x1.toInt ≤ 511) (hx : x1.toInt < (σ.1 46 0).toInt) : OK (f_X1_push x1 σ) (fun s => BX s ∧ FR [60, 61] [] σ s ∧ KI s ∧ (((σ.1 61 0).toInt < 8 → (s.1 61 0).toInt = (σ.1 61 0).toInt + 1))) := by
  unfold f_X1_push
  have hF : FR [60, 61] [] σ σ := FR.rf
  have k_1 : (1 : Int32).toInt = 1 := by decide +kernel
  have k_8 : (8 : Int32).toInt = 8 := by decide +kernel
  have g_2 := gX_61 hB 0
  refine ok_ite (fun c_1 => ?_) (fun c_1 => ?_)
  · rw [fa_le] at c_1
    exact ok_ret ⟨hB, hF, hKI, (by (try dsimp only); omega)⟩
  · rw [fa_le] at c_1
    refine ok_ix ⟨by omega, by omega⟩ ?_
    refine ok_lt fun s_2 e_s_2 => ?_
    have hB_s_2 : BX s_2 := by rw [e_s_2]; exact pX_60 hB (by omega)
    have hF_s_2 : FR [60, 61] [] σ s_2 := by rw [e_s_2]; exact FR.st hF (by decide)
    have w_s_2_61 : (s_2.1 61 0).toInt = (σ.1 61 0).toInt := by rw [e_s_2]; rfl
    have f_s_2_46 : (s_2.1 46 0).toInt = (σ.1 46 0).toInt := by rw [hF_s_2.1 46 (by decide)]
    have g_3 := gX_61 hB_s_2 0
    obtain ⟨t_4, ht_4, g_4⟩ : ∃ t : Int, ((s_2.1 61 0) + 1).toInt = t ∧ t = (s_2.1 61 0).toInt + (1 : Int32).toInt := ⟨_, rfl, by have h9 := fb_addI (x := (s_2.1 61 0)) (y := (1 : Int32)) (by omega) (by omega); exact h9⟩
    refine ok_lt fun s_3 e_s_3 => ?_
    have hB_s_3 : BX s_3 := by rw [e_s_3]; exact pX_61 hB_s_2 (by rw [ht_4]; omega)
    have hF_s_3 : FR [60, 61] [] σ s_3 := by rw [e_s_3]; exact FR.st hF_s_2 (by decide)
    have w_s_3_61 : (s_3.1 61 0).toInt = t_4 := by rw [e_s_3, sti_s, ht_4]
    have f_s_3_46 : (s_3.1 46 0).toInt = (σ.1 46 0).toInt := by rw [hF_s_3.1 46 (by decide)]
    have hKI_s_3 : KI s_3 := KI.push hKI e_s_2 e_s_3 (clamp_I (by omega)) (by omega) hx
    exact ok_ret ⟨hB_s_3, hF_s_3, hKI_s_3, (by (try dsimp only); omega)⟩

set_option maxHeartbeats 4000000 in
theorem s_X1_spill {x1 : Int32} {σ : Sto} (hB : BX σ) (hPI : PI σ) (hSI : SI σ) (hKI : KI σ) : OK (f_X1_spill x1 σ) (fun s => BX s ∧ FR [46, 47, 48, 49, 50, 51, 52, 53, 54, 55, 58, 60] [] σ s ∧ PI s ∧ SI s ∧ KI s ∧ ((σ.1 46 0).toInt ≤ (s.1 46 0).toInt)) := by
  unfold f_X1_spill
  have hF : FR [46, 47, 48, 49, 50, 51, 52, 53, 54, 55, 58, 60] [] σ σ := FR.rf
  have k_0 : (0 : Int32).toInt = 0 := by decide +kernel
  have k_1 : (1 : Int32).toInt = 1 := by decide +kernel
  refine ok_itr2 (fun (n : Nat) (x2_1 : Int32) (s_1 : Sto) => n = (9 - x2_1.toInt).toNat ∧ (0 ≤ x2_1.toInt ∧ x2_1.toInt ≤ 8) ∧ (BX s_1) ∧ (FR [46, 47, 48, 49, 50, 51, 52, 53, 54, 55, 58, 60] [] σ s_1) ∧ (PI s_1) ∧ (SI s_1) ∧ (KI s_1) ∧ ((σ.1 46 0).toInt ≤ (s_1.1 46 0).toInt)) ?_ (n := _) ⟨rfl, (by omega), hB, hF, hPI, hSI, hKI, (by omega)⟩ (show _ < 10000000 by omega)
  intro a_2 n x2_1 s_1 hI ih_a_2
  obtain ⟨hn_a_2, b_x2_1, hB_s_1, hF_s_1, hPI_s_1, hSI_s_1, hKI_s_1, hsz⟩ := hI
  have f_s_1_61 : (s_1.1 61 0).toInt = (σ.1 61 0).toInt := by rw [hF_s_1.1 61 (by decide)]
  have g_2 := gX_61 hB_s_1 0
  have g_3 : (s_1.1 61 0).toInt = (σ.1 61 0).toInt := by rw [hF_s_1.1 61 (by decide)]
  have g_4 := gX_61 hB 0
  refine ok_ite (fun c_1 => ?_) (fun c_1 => ?_)
  · rw [fa_le] at c_1
    exact ok_ret ⟨hB_s_1, hF_s_1, hPI_s_1, hSI_s_1, hKI_s_1, (by (try dsimp only); omega)⟩
  · rw [fa_le] at c_1
    refine ok_ix ⟨by omega, by omega⟩ ?_
    have g_5 := gX_60 hB_s_1 (x2_1.toNatClampNeg)
    refine ok_lt fun v_3 e_v_3 => ?_
    have b_v_3 : 0 ≤ v_3.toInt ∧ v_3.toInt ≤ 511 := by rw [e_v_3]; exact gX_60 hB_s_1 _
    have q_v_3 : v_3.toInt = (s_1.1 60 x2_1.toNatClampNeg).toInt := by rw [e_v_3]
    refine ok_ix ⟨by omega, by omega⟩ ?_
    refine ok_lt fun v_4 e_v_4 => ?_
    refine ok_jn ?_
    obtain ⟨t_7, ht_7, g_7⟩ : ∃ t : Int, (v_4 &&& x1).toInt = t ∧ -2147483648 ≤ t ∧ t ≤ 2147483647 := ⟨_, rfl, tI_rng _⟩
    refine ok_ite (fun c_6 => ?_) (fun c_6 => ?_)
    · rw [fa_eq, ht_7] at c_6
      obtain ⟨t_8, ht_8, g_8⟩ : ∃ t : Int, (x2_1 + 1).toInt = t ∧ t = x2_1.toInt + (1 : Int32).toInt := ⟨_, rfl, by have h9 := fb_addI (x := x2_1) (y := (1 : Int32)) (by omega) (by omega); exact h9⟩
      refine ok_lt fun x2_6 e_x2_6 => ?_
      have q_x2_6 : x2_6.toInt = t_8 := by rw [e_x2_6]; exact ht_8
      exact ih_a_2 _ x2_6 s_1 (by rw [hn_a_2]; omega) ⟨rfl, (by omega), hB_s_1, hF_s_1, hPI_s_1, hSI_s_1, hKI_s_1, (by omega)⟩
    · rw [fa_eq, ht_7] at c_6
      refine ok_ix ⟨by omega, by omega⟩ ?_
      refine ok_lt fun v_8 e_v_8 => ?_
      have b_v_8 : 0 ≤ v_8.toInt ∧ v_8.toInt ≤ 511 := by rw [e_v_8]; exact gX_60 hB_s_1 _
      have q_v_8 : v_8.toInt = (s_1.1 60 x2_1.toNatClampNeg).toInt := by rw [e_v_8]
      refine ok_calv (s_X1_putAside (x1 := v_8) (σ := s_1) hB_s_1 hPI_s_1 hSI_s_1 hKI_s_1 (by omega)) (fun v_9 s_9 h_9 => ?_)
      obtain ⟨b_v_9, hB_s_9, hG_s_9, hPI_s_9, hSI_s_9, hKI_s_9, x_s_9⟩ := h_9
      (try dsimp only at b_v_9 hB_s_9 hG_s_9 hPI_s_9 hSI_s_9 hKI_s_9 x_s_9)
      have hF_s_9 : FR [46, 47, 48, 49, 50, 51, 52, 53, 54, 55, 58, 60] [] σ s_9 := FR.cal hF_s_1 hG_s_9 rfl rfl
      have f_s_9_61 : (s_9.1 61 0).toInt = (σ.1 61 0).toInt := by rw [hF_s_9.1 61 (by decide)]
      refine ok_ix ⟨by omega, by omega⟩ ?_
      refine ok_lt fun s_10 e_s_10 => ?_
      have hB_s_10 : BX s_10 := by rw [e_s_10]; exact pX_60 hB_s_9 (by omega)
      have hF_s_10 : FR [46, 47, 48, 49, 50, 51, 52, 53, 54, 55, 58, 60] [] σ s_10 := by rw [e_s_10]; exact FR.st hF_s_9 (by decide)
      have w_s_10_46 : (s_10.1 46 0).toInt = (s_9.1 46 0).toInt := by rw [e_s_10]; rfl
      have f_s_10_61 : (s_10.1 61 0).toInt = (σ.1 61 0).toInt := by rw [hF_s_10.1 61 (by decide)]
      have hPI_s_10 : PI s_10 := by rw [e_s_10]; exact PI.st1 (by decide) hPI_s_9
      have hSI_s_10 : SI s_10 := by rw [e_s_10]; exact SI.st1 (by decide) hSI_s_9
      have hKI_s_10 : KI s_10 := KI.put hKI_s_9 e_s_10 (by omega)
      obtain ⟨t_10, ht_10, g_10⟩ : ∃ t : Int, (x2_1 + 1).toInt = t ∧ t = x2_1.toInt + (1 : Int32).toInt := ⟨_, rfl, by have h9 := fb_addI (x := x2_1) (y := (1 : Int32)) (by omega) (by omega); exact h9⟩
      refine ok_lt fun x2_6 e_x2_6 => ?_
      have q_x2_6 : x2_6.toInt = t_10 := by rw [e_x2_6]; exact ht_10
      exact ih_a_2 _ x2_6 s_10 (by rw [hn_a_2]; omega) ⟨rfl, (by omega), hB_s_10, hF_s_10, hPI_s_10, hSI_s_10, hKI_s_10, (by omega)⟩

set_option maxHeartbeats 4000000 in
theorem s_X1_twice {σ : Sto} (hB : BX σ) (hPI : PI σ) (hSI : SI σ) (hKI : KI σ) (hh1 : 1 ≤ (σ.1 61 0).toInt) (hh2 : (σ.1 61 0).toInt ≤ 6) : OK (f_X1_twice σ) (fun s => BX s ∧ FR [46, 47, 48, 49, 50, 51, 52, 53, 54, 55, 58, 60, 61] [] σ s ∧ PI s ∧ SI s ∧ KI s ∧ ((σ.1 46 0).toInt ≤ (s.1 46 0).toInt ∧ (s.1 61 0).toInt = (σ.1 61 0).toInt + 1)) := by
  unfold f_X1_twice
  have hF : FR [46, 47, 48, 49, 50, 51, 52, 53, 54, 55, 58, 60, 61] [] σ σ := FR.rf
  have k_0 : (0 : Int32).toInt = 0 := by decide +kernel
  have k_107 : (107 : Int32).toInt = 107 := by decide +kernel
  have k_4096 : (4096 : Int32).toInt = 4096 := by decide +kernel
  refine ok_calv (s_X1_pop  (σ := σ) hB hKI) (fun v_1 s_1 h_1 => ?_)
  obtain ⟨b_v_1, hB_s_1, hG_s_1, hKI_s_1, x_s_1⟩ := h_1
  (try dsimp only at b_v_1 hB_s_1 hG_s_1 hKI_s_1 x_s_1)
  have hF_s_1 : FR [46, 47, 48, 49, 50, 51, 52, 53, 54, 55, 58, 60, 61] [] σ s_1 := FR.cal hF hG_s_1 rfl rfl
  have w_s_1_46 : (s_1.1 46 0).toInt = (σ.1 46 0).toInt := by rw [hG_s_1.1 46 (by decide)]
  have hPI_s_1 : PI s_1 := PI.fr hG_s_1 (by decide) hPI
  have hSI_s_1 : SI s_1 := SI.fr hG_s_1 (by decide) hSI
  refine ok_ix ⟨by omega, by omega⟩ ?_
  have g_2 := gX_47 hB_s_1 (v_1.toNatClampNeg)
  refine ok_lt fun v_2 e_v_2 => ?_
  have b_v_2 : 0 ≤ v_2.toInt ∧ v_2.toInt ≤ 255 := by rw [e_v_2]; exact gX_47 hB_s_1 _
  refine ok_jn ?_
  refine ok_ite (fun c_3 => ?_) (fun c_3 => ?_)
  · rw [fa_eq] at c_3
    refine ok_cals (s_X1_push (x1 := v_1) (σ := s_1) hB_s_1 hKI_s_1 (by omega) (by omega)) (fun s_4 h_4 => ?_)
    obtain ⟨hB_s_4, hG_s_4, hKI_s_4, x_s_4⟩ := h_4
    (try dsimp only at hB_s_4 hG_s_4 hKI_s_4 x_s_4)
    have hF_s_4 : FR [46, 47, 48, 49, 50, 51, 52, 53, 54, 55, 58, 60, 61] [] σ s_4 := FR.cal hF_s_1 hG_s_4 rfl rfl
    have w_s_4_46 : (s_4.1 46 0).toInt = (s_1.1 46 0).toInt := by rw [hG_s_4.1 46 (by decide)]
    have hPI_s_4 : PI s_4 := PI.fr hG_s_4 (by decide) hPI_s_1
    have hSI_s_4 : SI s_4 := SI.fr hG_s_4 (by decide) hSI_s_1
    refine ok_cals (s_X1_push (x1 := v_1) (σ := s_4) hB_s_4 hKI_s_4 (by omega) (by omega)) (fun s_5 h_5 => ?_)
    obtain ⟨hB_s_5, hG_s_5, hKI_s_5, x_s_5⟩ := h_5
    (try dsimp only at hB_s_5 hG_s_5 hKI_s_5 x_s_5)
    have hF_s_5 : FR [46, 47, 48, 49, 50, 51, 52, 53, 54, 55, 58, 60, 61] [] σ s_5 := FR.cal hF_s_4 hG_s_5 rfl rfl
    have w_s_5_46 : (s_5.1 46 0).toInt = (s_4.1 46 0).toInt := by rw [hG_s_5.1 46 (by decide)]
    have hPI_s_5 : PI s_5 := PI.fr hG_s_5 (by decide) hPI_s_4
    have hSI_s_5 : SI s_5 := SI.fr hG_s_5 (by decide) hSI_s_4
    exact ok_ret ⟨hB_s_5, hF_s_5, hPI_s_5, hSI_s_5, hKI_s_5, (by (try dsimp only); omega)⟩
  · rw [fa_eq] at c_3
    refine ok_calp (s_X7_isName (x1 := v_1) (σ := s_1) hB_s_1 (by omega)) (fun v_7 h_6 => ?_)
    have b_v_7 := h_6
    (try dsimp only at b_v_7)
    refine ok_ite (fun c_7 => ?_) (fun c_7 => ?_)
    · rw [fa_eq] at c_7
      refine ok_cals (s_X1_spill (x1 := (4096 : Int32)) (σ := s_1) hB_s_1 hPI_s_1 hSI_s_1 hKI_s_1) (fun s_9 h_8 => ?_)
      obtain ⟨hB_s_9, hG_s_9, hPI_s_9, hSI_s_9, hKI_s_9, x_s_9⟩ := h_8
      (try dsimp only at hB_s_9 hG_s_9 hPI_s_9 hSI_s_9 hKI_s_9 x_s_9)
      have hF_s_9 : FR [46, 47, 48, 49, 50, 51, 52, 53, 54, 55, 58, 60, 61] [] σ s_9 := FR.cal hF_s_1 hG_s_9 rfl rfl
      have w_s_9_61 : (s_9.1 61 0).toInt = (s_1.1 61 0).toInt := by rw [hG_s_9.1 61 (by decide)]
      refine ok_calv (s_X1_putAside (x1 := v_1) (σ := s_9) hB_s_9 hPI_s_9 hSI_s_9 hKI_s_9 (by omega)) (fun v_10 s_10 h_9 => ?_)
      obtain ⟨b_v_10, hB_s_10, hG_s_10, hPI_s_10, hSI_s_10, hKI_s_10, x_s_10⟩ := h_9
      (try dsimp only at b_v_10 hB_s_10 hG_s_10 hPI_s_10 hSI_s_10 hKI_s_10 x_s_10)
      have hF_s_10 : FR [46, 47, 48, 49, 50, 51, 52, 53, 54, 55, 58, 60, 61] [] σ s_10 := FR.cal hF_s_9 hG_s_10 rfl rfl
      have w_s_10_61 : (s_10.1 61 0).toInt = (s_9.1 61 0).toInt := by rw [hG_s_10.1 61 (by decide)]
      refine ok_cals (s_X1_push (x1 := v_10) (σ := s_10) hB_s_10 hKI_s_10 (by omega) (by omega)) (fun s_4 h_10 => ?_)
      obtain ⟨hB_s_4, hG_s_4, hKI_s_4, x_s_4⟩ := h_10
      (try dsimp only at hB_s_4 hG_s_4 hKI_s_4 x_s_4)
      have hF_s_4 : FR [46, 47, 48, 49, 50, 51, 52, 53, 54, 55, 58, 60, 61] [] σ s_4 := FR.cal hF_s_10 hG_s_4 rfl rfl
      have w_s_4_46 : (s_4.1 46 0).toInt = (s_10.1 46 0).toInt := by rw [hG_s_4.1 46 (by decide)]
      have hPI_s_4 : PI s_4 := PI.fr hG_s_4 (by decide) hPI_s_10
      have hSI_s_4 : SI s_4 := SI.fr hG_s_4 (by decide) hSI_s_10
      refine ok_cals (s_X1_push (x1 := v_10) (σ := s_4) hB_s_4 hKI_s_4 (by omega) (by omega)) (fun s_5 h_11 => ?_)
      obtain ⟨hB_s_5, hG_s_5, hKI_s_5, x_s_5⟩ := h_11
      (try dsimp only at hB_s_5 hG_s_5 hKI_s_5 x_s_5)
      have hF_s_5 : FR [46, 47, 48, 49, 50, 51, 52, 53, 54, 55, 58, 60, 61] [] σ s_5 := FR.cal hF_s_4 hG_s_5 rfl rfl
      have w_s_5_46 : (s_5.1 46 0).toInt = (s_4.1 46 0).toInt := by rw [hG_s_5.1 46 (by decide)]
      have hPI_s_5 : PI s_5 := PI.fr hG_s_5 (by decide) hPI_s_4
      have hSI_s_5 : SI s_5 := SI.fr hG_s_5 (by decide) hSI_s_4
      exact ok_ret ⟨hB_s_5, hF_s_5, hPI_s_5, hSI_s_5, hKI_s_5, (by (try dsimp only); omega)⟩
    · rw [fa_eq] at c_7
      refine ok_cals (s_X1_push (x1 := v_1) (σ := s_1) hB_s_1 hKI_s_1 (by omega) (by omega)) (fun s_4 h_12 => ?_)
      obtain ⟨hB_s_4, hG_s_4, hKI_s_4, x_s_4⟩ := h_12
      (try dsimp only at hB_s_4 hG_s_4 hKI_s_4 x_s_4)
      have hF_s_4 : FR [46, 47, 48, 49, 50, 51, 52, 53, 54, 55, 58, 60, 61] [] σ s_4 := FR.cal hF_s_1 hG_s_4 rfl rfl
      have w_s_4_46 : (s_4.1 46 0).toInt = (s_1.1 46 0).toInt := by rw [hG_s_4.1 46 (by decide)]
      have hPI_s_4 : PI s_4 := PI.fr hG_s_4 (by decide) hPI_s_1
      have hSI_s_4 : SI s_4 := SI.fr hG_s_4 (by decide) hSI_s_1
      refine ok_cals (s_X1_push (x1 := v_1) (σ := s_4) hB_s_4 hKI_s_4 (by omega) (by omega)) (fun s_5 h_13 => ?_)
      obtain ⟨hB_s_5, hG_s_5, hKI_s_5, x_s_5⟩ := h_13
      (try dsimp only at hB_s_5 hG_s_5 hKI_s_5 x_s_5)
      have hF_s_5 : FR [46, 47, 48, 49, 50, 51, 52, 53, 54, 55, 58, 60, 61] [] σ s_5 := FR.cal hF_s_4 hG_s_5 rfl rfl
      have w_s_5_46 : (s_5.1 46 0).toInt = (s_4.1 46 0).toInt := by rw [hG_s_5.1 46 (by decide)]
      have hPI_s_5 : PI s_5 := PI.fr hG_s_5 (by decide) hPI_s_4
      have hSI_s_5 : SI s_5 := SI.fr hG_s_5 (by decide) hSI_s_4
      exact ok_ret ⟨hB_s_5, hF_s_5, hPI_s_5, hSI_s_5, hKI_s_5, (by (try dsimp only); omega)⟩

set_option maxHeartbeats 4000000 in
theorem s_X1_state {x1 : Int32} {x2 : Int32} {x3 : Int32} {σ : Sto} (hB : BX σ) (hPI : PI σ) (hSI : SI σ) (hKI : KI σ) (p_x1 : 0 ≤ x1.toInt ∧ x1.toInt ≤ 6) (p_x2 : (-1) ≤ x2.toInt ∧ x2.toInt ≤ 160) (p_x3 : (-1) ≤ x3.toInt ∧ x3.toInt ≤ 511) (hT : T2 x1 x2 x3) : OK (f_X1_state x1 x2 x3 σ) (fun s => BX s ∧ FR [46, 47, 48, 49, 50, 51, 52, 53, 54, 55, 58, 60] [] σ s ∧ PI s ∧ SI s ∧ KI s ∧ ((σ.1 46 0).toInt ≤ (s.1 46 0).toInt)) := by
  unfold f_X1_state
  have hF : FR [46, 47, 48, 49, 50, 51, 52, 53, 54, 55, 58, 60] [] σ σ := FR.rf
  have k_0 : (0 : Int32).toInt = 0 := by decide +kernel
  refine ok_jn ?_
  refine ok_ite (fun c_1 => ?_) (fun c_1 => ?_)
  · rw [fa_eq] at c_1
    obtain ⟨t_2, ht_2, g_2⟩ : ∃ t : Int, ((4096 : Int32) ||| ((1 : Int32) <<< (x2 &&& 31))).toInt = t ∧ -2147483648 ≤ t ∧ t ≤ 2147483647 := ⟨_, rfl, tI_rng _⟩
    refine ok_cals (s_X1_spill (x1 := ((4096 : Int32) ||| ((1 : Int32) <<< (x2 &&& 31)))) (σ := σ) hB hPI hSI hKI) (fun s_2 h_3 => ?_)
    obtain ⟨hB_s_2, hG_s_2, hPI_s_2, hSI_s_2, hKI_s_2, x_s_2⟩ := h_3
    (try dsimp only at hB_s_2 hG_s_2 hPI_s_2 hSI_s_2 hKI_s_2 x_s_2)
    have hF_s_2 : FR [46, 47, 48, 49, 50, 51, 52, 53, 54, 55, 58, 60] [] σ s_2 := FR.cal hF hG_s_2 rfl rfl
    have f_s_2_61 : (s_2.1 61 0).toInt = (σ.1 61 0).toInt := by rw [hF_s_2.1 61 (by decide)]
    refine ok_cals (s_X1_add (x1 := x1) (x2 := x2) (x3 := x3) (σ := s_2) hB_s_2 hSI_s_2 (by omega) (by omega) (by omega) hT) (fun s_3 h_4 => ?_)
    obtain ⟨hB_s_3, hG_s_3, hSI_s_3⟩ := h_4
    (try dsimp only at hB_s_3 hG_s_3 hSI_s_3)
    have hF_s_3 : FR [46, 47, 48, 49, 50, 51, 52, 53, 54, 55, 58, 60] [] σ s_3 := FR.cal hF_s_2 hG_s_3 rfl rfl
    have w_s_3_46 : (s_3.1 46 0).toInt = (s_2.1 46 0).toInt := by rw [hG_s_3.1 46 (by decide)]
    have f_s_3_61 : (s_3.1 61 0).toInt = (σ.1 61 0).toInt := by rw [hF_s_3.1 61 (by decide)]
    have hPI_s_3 : PI s_3 := PI.fr hG_s_3 (by decide) hPI_s_2
    have hKI_s_3 : KI s_3 := KI.fr hG_s_3 (by decide) hKI_s_2
    exact ok_ret ⟨hB_s_3, hF_s_3, hPI_s_3, hSI_s_3, hKI_s_3, (by (try dsimp only); omega)⟩
  · rw [fa_eq] at c_1
    obtain ⟨t_5, ht_5, g_5⟩ : ∃ t : Int, ((4096 : Int32) ||| (0 : Int32)).toInt = t ∧ -2147483648 ≤ t ∧ t ≤ 2147483647 := ⟨_, rfl, tI_rng _⟩
    refine ok_cals (s_X1_spill (x1 := ((4096 : Int32) ||| (0 : Int32))) (σ := σ) hB hPI hSI hKI) (fun s_2 h_6 => ?_)
    obtain ⟨hB_s_2, hG_s_2, hPI_s_2, hSI_s_2, hKI_s_2, x_s_2⟩ := h_6
    (try dsimp only at hB_s_2 hG_s_2 hPI_s_2 hSI_s_2 hKI_s_2 x_s_2)
    have hF_s_2 : FR [46, 47, 48, 49, 50, 51, 52, 53, 54, 55, 58, 60] [] σ s_2 := FR.cal hF hG_s_2 rfl rfl
    have f_s_2_61 : (s_2.1 61 0).toInt = (σ.1 61 0).toInt := by rw [hF_s_2.1 61 (by decide)]
    refine ok_cals (s_X1_add (x1 := x1) (x2 := x2) (x3 := x3) (σ := s_2) hB_s_2 hSI_s_2 (by omega) (by omega) (by omega) hT) (fun s_3 h_7 => ?_)
    obtain ⟨hB_s_3, hG_s_3, hSI_s_3⟩ := h_7
    (try dsimp only at hB_s_3 hG_s_3 hSI_s_3)
    have hF_s_3 : FR [46, 47, 48, 49, 50, 51, 52, 53, 54, 55, 58, 60] [] σ s_3 := FR.cal hF_s_2 hG_s_3 rfl rfl
    have w_s_3_46 : (s_3.1 46 0).toInt = (s_2.1 46 0).toInt := by rw [hG_s_3.1 46 (by decide)]
    have f_s_3_61 : (s_3.1 61 0).toInt = (σ.1 61 0).toInt := by rw [hF_s_3.1 61 (by decide)]
    have hPI_s_3 : PI s_3 := PI.fr hG_s_3 (by decide) hPI_s_2
    have hKI_s_3 : KI s_3 := KI.fr hG_s_3 (by decide) hKI_s_2
    exact ok_ret ⟨hB_s_3, hF_s_3, hPI_s_3, hSI_s_3, hKI_s_3, (by (try dsimp only); omega)⟩

set_option maxHeartbeats 4000000 in
theorem s_X1_drop {x1 : Int32} {σ : Sto} (hB : BX σ) (hPI : PI σ) (hSI : SI σ) (hKI : KI σ) (p_x1 : 0 ≤ x1.toInt ∧ x1.toInt ≤ 511) : OK (f_X1_drop x1 σ) (fun s => BX s ∧ FR [46, 47, 48, 49, 50, 51, 52, 53, 54, 55, 58, 60] [] σ s ∧ PI s ∧ SI s ∧ KI s ∧ ((σ.1 46 0).toInt ≤ (s.1 46 0).toInt)) := by
  unfold f_X1_drop
  have hF : FR [46, 47, 48, 49, 50, 51, 52, 53, 54, 55, 58, 60] [] σ σ := FR.rf
  have k_m1 : ((-1) : Int32).toInt = -1 := by decide +kernel
  have k_0 : (0 : Int32).toInt = 0 := by decide +kernel
  have k_4 : (4 : Int32).toInt = 4 := by decide +kernel
  have k_4096 : (4096 : Int32).toInt = 4096 := by decide +kernel
  refine ok_calp (s_X7_hasEffects (x1 := x1) (σ := σ) hB (by omega)) (fun v_1 h_1 => ?_)
  have b_v_1 := h_1
  (try dsimp only at b_v_1)
  refine ok_ite (fun c_2 => ?_) (fun c_2 => ?_)
  · rw [fa_eq] at c_2
    exact ok_ret ⟨hB, hF, hPI, hSI, hKI, (by (try dsimp only); omega)⟩
  · rw [fa_eq] at c_2
    refine ok_cals (s_X1_spill (x1 := (4096 : Int32)) (σ := σ) hB hPI hSI hKI) (fun s_3 h_3 => ?_)
    obtain ⟨hB_s_3, hG_s_3, hPI_s_3, hSI_s_3, hKI_s_3, x_s_3⟩ := h_3
    (try dsimp only at hB_s_3 hG_s_3 hPI_s_3 hSI_s_3 hKI_s_3 x_s_3)
    have hF_s_3 : FR [46, 47, 48, 49, 50, 51, 52, 53, 54, 55, 58, 60] [] σ s_3 := FR.cal hF hG_s_3 rfl rfl
    have f_s_3_61 : (s_3.1 61 0).toInt = (σ.1 61 0).toInt := by rw [hF_s_3.1 61 (by decide)]
    refine ok_cals (s_X1_add (x1 := (4 : Int32)) (x2 := ((-1) : Int32)) (x3 := x1) (σ := s_3) hB_s_3 hSI_s_3 (by omega) (by omega) (by omega) (t2_o (by omega))) (fun s_4 h_4 => ?_)
    obtain ⟨hB_s_4, hG_s_4, hSI_s_4⟩ := h_4
    (try dsimp only at hB_s_4 hG_s_4 hSI_s_4)
    have hF_s_4 : FR [46, 47, 48, 49, 50, 51, 52, 53, 54, 55, 58, 60] [] σ s_4 := FR.cal hF_s_3 hG_s_4 rfl rfl
    have w_s_4_46 : (s_4.1 46 0).toInt = (s_3.1 46 0).toInt := by rw [hG_s_4.1 46 (by decide)]
    have f_s_4_61 : (s_4.1 61 0).toInt = (σ.1 61 0).toInt := by rw [hF_s_4.1 61 (by decide)]
    have hPI_s_4 : PI s_4 := PI.fr hG_s_4 (by decide) hPI_s_3
    have hKI_s_4 : KI s_4 := KI.fr hG_s_4 (by decide) hKI_s_3
    exact ok_ret ⟨hB_s_4, hF_s_4, hPI_s_4, hSI_s_4, hKI_s_4, (by (try dsimp only); omega)⟩

set_option maxHeartbeats 4000000 in
theorem s_X1_exchange {σ : Sto} (hB : BX σ) (hPI : PI σ) (hSI : SI σ) (hKI : KI σ) (hh1 : 2 ≤ (σ.1 61 0).toInt) (hh2 : (σ.1 61 0).toInt ≤ 6) : OK (f_X1_exchange σ) (fun s => BX s ∧ FR [46, 47, 48, 49, 50, 51, 52, 53, 54, 55, 58, 60, 61] [] σ s ∧ PI s ∧ SI s ∧ KI s ∧ ((σ.1 46 0).toInt ≤ (s.1 46 0).toInt ∧ (s.1 61 0).toInt = (σ.1 61 0).toInt)) := by
  unfold f_X1_exchange
  have hF : FR [46, 47, 48, 49, 50, 51, 52, 53, 54, 55, 58, 60, 61] [] σ σ := FR.rf
  have k_0 : (0 : Int32).toInt = 0 := by decide +kernel
  have k_1 : (1 : Int32).toInt = 1 := by decide +kernel
  have k_4096 : (4096 : Int32).toInt = 4096 := by decide +kernel
  refine ok_calv (s_X1_pop  (σ := σ) hB hKI) (fun v_1 s_1 h_1 => ?_)
  obtain ⟨b_v_1, hB_s_1, hG_s_1, hKI_s_1, x_s_1⟩ := h_1
  (try dsimp only at b_v_1 hB_s_1 hG_s_1 hKI_s_1 x_s_1)
  have hF_s_1 : FR [46, 47, 48, 49, 50, 51, 52, 53, 54, 55, 58, 60, 61] [] σ s_1 := FR.cal hF hG_s_1 rfl rfl
  have w_s_1_46 : (s_1.1 46 0).toInt = (σ.1 46 0).toInt := by rw [hG_s_1.1 46 (by decide)]
  have hPI_s_1 : PI s_1 := PI.fr hG_s_1 (by decide) hPI
  have hSI_s_1 : SI s_1 := SI.fr hG_s_1 (by decide) hSI
  refine ok_jn ?_
  have g_3 := gX_61 hB_s_1 0
  refine ok_ite (fun c_2 => ?_) (fun c_2 => ?_)
  · rw [fa_le] at c_2
    refine ok_calv (s_X1_pop  (σ := s_1) hB_s_1 hKI_s_1) (fun v_3 s_3 h_4 => ?_)
    obtain ⟨b_v_3, hB_s_3, hG_s_3, hKI_s_3, x_s_3⟩ := h_4
    (try dsimp only at b_v_3 hB_s_3 hG_s_3 hKI_s_3 x_s_3)
    have hF_s_3 : FR [46, 47, 48, 49, 50, 51, 52, 53, 54, 55, 58, 60, 61] [] σ s_3 := FR.cal hF_s_1 hG_s_3 rfl rfl
    have w_s_3_46 : (s_3.1 46 0).toInt = (s_1.1 46 0).toInt := by rw [hG_s_3.1 46 (by decide)]
    have hPI_s_3 : PI s_3 := PI.fr hG_s_3 (by decide) hPI_s_1
    have hSI_s_3 : SI s_3 := SI.fr hG_s_3 (by decide) hSI_s_1
    refine ok_cals (s_X1_push (x1 := v_1) (σ := s_3) hB_s_3 hKI_s_3 (by omega) (by omega)) (fun s_4 h_5 => ?_)
    obtain ⟨hB_s_4, hG_s_4, hKI_s_4, x_s_4⟩ := h_5
    (try dsimp only at hB_s_4 hG_s_4 hKI_s_4 x_s_4)
    have hF_s_4 : FR [46, 47, 48, 49, 50, 51, 52, 53, 54, 55, 58, 60, 61] [] σ s_4 := FR.cal hF_s_3 hG_s_4 rfl rfl
    have w_s_4_46 : (s_4.1 46 0).toInt = (s_3.1 46 0).toInt := by rw [hG_s_4.1 46 (by decide)]
    have hPI_s_4 : PI s_4 := PI.fr hG_s_4 (by decide) hPI_s_3
    have hSI_s_4 : SI s_4 := SI.fr hG_s_4 (by decide) hSI_s_3
    refine ok_cals (s_X1_push (x1 := v_3) (σ := s_4) hB_s_4 hKI_s_4 (by omega) (by omega)) (fun s_5 h_6 => ?_)
    obtain ⟨hB_s_5, hG_s_5, hKI_s_5, x_s_5⟩ := h_6
    (try dsimp only at hB_s_5 hG_s_5 hKI_s_5 x_s_5)
    have hF_s_5 : FR [46, 47, 48, 49, 50, 51, 52, 53, 54, 55, 58, 60, 61] [] σ s_5 := FR.cal hF_s_4 hG_s_5 rfl rfl
    have w_s_5_46 : (s_5.1 46 0).toInt = (s_4.1 46 0).toInt := by rw [hG_s_5.1 46 (by decide)]
    have hPI_s_5 : PI s_5 := PI.fr hG_s_5 (by decide) hPI_s_4
    have hSI_s_5 : SI s_5 := SI.fr hG_s_5 (by decide) hSI_s_4
    exact ok_ret ⟨hB_s_5, hF_s_5, hPI_s_5, hSI_s_5, hKI_s_5, (by (try dsimp only); omega)⟩
  · rw [fa_le] at c_2
    refine ok_calp (s_X7_hasEffects (x1 := v_1) (σ := s_1) hB_s_1 (by omega)) (fun v_7 h_7 => ?_)
    have b_v_7 := h_7
    (try dsimp only at b_v_7)
    refine ok_ite (fun c_8 => ?_) (fun c_8 => ?_)
    · rw [fa_eq] at c_8
      refine ok_calv (s_X1_pop  (σ := s_1) hB_s_1 hKI_s_1) (fun v_3 s_3 h_9 => ?_)
      obtain ⟨b_v_3, hB_s_3, hG_s_3, hKI_s_3, x_s_3⟩ := h_9
      (try dsimp only at b_v_3 hB_s_3 hG_s_3 hKI_s_3 x_s_3)
      have hF_s_3 : FR [46, 47, 48, 49, 50, 51, 52, 53, 54, 55, 58, 60, 61] [] σ s_3 := FR.cal hF_s_1 hG_s_3 rfl rfl
      have w_s_3_46 : (s_3.1 46 0).toInt = (s_1.1 46 0).toInt := by rw [hG_s_3.1 46 (by decide)]
      have hPI_s_3 : PI s_3 := PI.fr hG_s_3 (by decide) hPI_s_1
      have hSI_s_3 : SI s_3 := SI.fr hG_s_3 (by decide) hSI_s_1
      refine ok_cals (s_X1_push (x1 := v_1) (σ := s_3) hB_s_3 hKI_s_3 (by omega) (by omega)) (fun s_4 h_10 => ?_)
      obtain ⟨hB_s_4, hG_s_4, hKI_s_4, x_s_4⟩ := h_10
      (try dsimp only at hB_s_4 hG_s_4 hKI_s_4 x_s_4)
      have hF_s_4 : FR [46, 47, 48, 49, 50, 51, 52, 53, 54, 55, 58, 60, 61] [] σ s_4 := FR.cal hF_s_3 hG_s_4 rfl rfl
      have w_s_4_46 : (s_4.1 46 0).toInt = (s_3.1 46 0).toInt := by rw [hG_s_4.1 46 (by decide)]
      have hPI_s_4 : PI s_4 := PI.fr hG_s_4 (by decide) hPI_s_3
      have hSI_s_4 : SI s_4 := SI.fr hG_s_4 (by decide) hSI_s_3
      refine ok_cals (s_X1_push (x1 := v_3) (σ := s_4) hB_s_4 hKI_s_4 (by omega) (by omega)) (fun s_5 h_11 => ?_)
      obtain ⟨hB_s_5, hG_s_5, hKI_s_5, x_s_5⟩ := h_11
      (try dsimp only at hB_s_5 hG_s_5 hKI_s_5 x_s_5)
      have hF_s_5 : FR [46, 47, 48, 49, 50, 51, 52, 53, 54, 55, 58, 60, 61] [] σ s_5 := FR.cal hF_s_4 hG_s_5 rfl rfl
      have w_s_5_46 : (s_5.1 46 0).toInt = (s_4.1 46 0).toInt := by rw [hG_s_5.1 46 (by decide)]
      have hPI_s_5 : PI s_5 := PI.fr hG_s_5 (by decide) hPI_s_4
      have hSI_s_5 : SI s_5 := SI.fr hG_s_5 (by decide) hSI_s_4
      exact ok_ret ⟨hB_s_5, hF_s_5, hPI_s_5, hSI_s_5, hKI_s_5, (by (try dsimp only); omega)⟩
    · rw [fa_eq] at c_8
      obtain ⟨t_12, ht_12, g_12⟩ : ∃ t : Int, ((s_1.1 61 0) - 1).toInt = t ∧ t = (s_1.1 61 0).toInt - (1 : Int32).toInt := ⟨_, rfl, by have h9 := fb_subI (x := (s_1.1 61 0)) (y := (1 : Int32)) (by omega) (by omega); exact h9⟩
      refine ok_ix ⟨by rw [ht_12]; omega, by rw [ht_12]; omega⟩ ?_
      have g_13 := gX_60 hB_s_1 (((s_1.1 61 0) - 1).toNatClampNeg)
      refine ok_lt fun v_9 e_v_9 => ?_
      have b_v_9 : 0 ≤ v_9.toInt ∧ v_9.toInt ≤ 511 := by rw [e_v_9]; exact gX_60 hB_s_1 _
      have q_v_9 : v_9.toInt = (s_1.1 60 ((s_1.1 61 0) - 1).toNatClampNeg).toInt := by rw [e_v_9]
      refine ok_calp (s_X7_hasEffects (x1 := v_9) (σ := s_1) hB_s_1 (by omega)) (fun v_10 h_14 => ?_)
      have b_v_10 := h_14
      (try dsimp only at b_v_10)
      refine ok_ite (fun c_15 => ?_) (fun c_15 => ?_)
      · rw [fa_eq] at c_15
        refine ok_calv (s_X1_pop  (σ := s_1) hB_s_1 hKI_s_1) (fun v_3 s_3 h_16 => ?_)
        obtain ⟨b_v_3, hB_s_3, hG_s_3, hKI_s_3, x_s_3⟩ := h_16
        (try dsimp only at b_v_3 hB_s_3 hG_s_3 hKI_s_3 x_s_3)
        have hF_s_3 : FR [46, 47, 48, 49, 50, 51, 52, 53, 54, 55, 58, 60, 61] [] σ s_3 := FR.cal hF_s_1 hG_s_3 rfl rfl
        have w_s_3_46 : (s_3.1 46 0).toInt = (s_1.1 46 0).toInt := by rw [hG_s_3.1 46 (by decide)]
        have hPI_s_3 : PI s_3 := PI.fr hG_s_3 (by decide) hPI_s_1
        have hSI_s_3 : SI s_3 := SI.fr hG_s_3 (by decide) hSI_s_1
        refine ok_cals (s_X1_push (x1 := v_1) (σ := s_3) hB_s_3 hKI_s_3 (by omega) (by omega)) (fun s_4 h_17 => ?_)
        obtain ⟨hB_s_4, hG_s_4, hKI_s_4, x_s_4⟩ := h_17
        (try dsimp only at hB_s_4 hG_s_4 hKI_s_4 x_s_4)
        have hF_s_4 : FR [46, 47, 48, 49, 50, 51, 52, 53, 54, 55, 58, 60, 61] [] σ s_4 := FR.cal hF_s_3 hG_s_4 rfl rfl
        have w_s_4_46 : (s_4.1 46 0).toInt = (s_3.1 46 0).toInt := by rw [hG_s_4.1 46 (by decide)]
        have hPI_s_4 : PI s_4 := PI.fr hG_s_4 (by decide) hPI_s_3
        have hSI_s_4 : SI s_4 := SI.fr hG_s_4 (by decide) hSI_s_3
        refine ok_cals (s_X1_push (x1 := v_3) (σ := s_4) hB_s_4 hKI_s_4 (by omega) (by omega)) (fun s_5 h_18 => ?_)
        obtain ⟨hB_s_5, hG_s_5, hKI_s_5, x_s_5⟩ := h_18
        (try dsimp only at hB_s_5 hG_s_5 hKI_s_5 x_s_5)
        have hF_s_5 : FR [46, 47, 48, 49, 50, 51, 52, 53, 54, 55, 58, 60, 61] [] σ s_5 := FR.cal hF_s_4 hG_s_5 rfl rfl
        have w_s_5_46 : (s_5.1 46 0).toInt = (s_4.1 46 0).toInt := by rw [hG_s_5.1 46 (by decide)]
        have hPI_s_5 : PI s_5 := PI.fr hG_s_5 (by decide) hPI_s_4
        have hSI_s_5 : SI s_5 := SI.fr hG_s_5 (by decide) hSI_s_4
        exact ok_ret ⟨hB_s_5, hF_s_5, hPI_s_5, hSI_s_5, hKI_s_5, (by (try dsimp only); omega)⟩
      · rw [fa_eq] at c_15
        refine ok_cals (s_X1_spill (x1 := (4096 : Int32)) (σ := s_1) hB_s_1 hPI_s_1 hSI_s_1 hKI_s_1) (fun s_12 h_19 => ?_)
        obtain ⟨hB_s_12, hG_s_12, hPI_s_12, hSI_s_12, hKI_s_12, x_s_12⟩ := h_19
        (try dsimp only at hB_s_12 hG_s_12 hPI_s_12 hSI_s_12 hKI_s_12 x_s_12)
        have hF_s_12 : FR [46, 47, 48, 49, 50, 51, 52, 53, 54, 55, 58, 60, 61] [] σ s_12 := FR.cal hF_s_1 hG_s_12 rfl rfl
        have w_s_12_61 : (s_12.1 61 0).toInt = (s_1.1 61 0).toInt := by rw [hG_s_12.1 61 (by decide)]
        refine ok_calv (s_X1_pop  (σ := s_12) hB_s_12 hKI_s_12) (fun v_3 s_3 h_20 => ?_)
        obtain ⟨b_v_3, hB_s_3, hG_s_3, hKI_s_3, x_s_3⟩ := h_20
        (try dsimp only at b_v_3 hB_s_3 hG_s_3 hKI_s_3 x_s_3)
        have hF_s_3 : FR [46, 47, 48, 49, 50, 51, 52, 53, 54, 55, 58, 60, 61] [] σ s_3 := FR.cal hF_s_12 hG_s_3 rfl rfl
        have w_s_3_46 : (s_3.1 46 0).toInt = (s_12.1 46 0).toInt := by rw [hG_s_3.1 46 (by decide)]
        have hPI_s_3 : PI s_3 := PI.fr hG_s_3 (by decide) hPI_s_12
        have hSI_s_3 : SI s_3 := SI.fr hG_s_3 (by decide) hSI_s_12
        refine ok_cals (s_X1_push (x1 := v_1) (σ := s_3) hB_s_3 hKI_s_3 (by omega) (by omega)) (fun s_4 h_21 => ?_)
        obtain ⟨hB_s_4, hG_s_4, hKI_s_4, x_s_4⟩ := h_21
        (try dsimp only at hB_s_4 hG_s_4 hKI_s_4 x_s_4)
        have hF_s_4 : FR [46, 47, 48, 49, 50, 51, 52, 53, 54, 55, 58, 60, 61] [] σ s_4 := FR.cal hF_s_3 hG_s_4 rfl rfl
        have w_s_4_46 : (s_4.1 46 0).toInt = (s_3.1 46 0).toInt := by rw [hG_s_4.1 46 (by decide)]
        have hPI_s_4 : PI s_4 := PI.fr hG_s_4 (by decide) hPI_s_3
        have hSI_s_4 : SI s_4 := SI.fr hG_s_4 (by decide) hSI_s_3
        refine ok_cals (s_X1_push (x1 := v_3) (σ := s_4) hB_s_4 hKI_s_4 (by omega) (by omega)) (fun s_5 h_22 => ?_)
        obtain ⟨hB_s_5, hG_s_5, hKI_s_5, x_s_5⟩ := h_22
        (try dsimp only at hB_s_5 hG_s_5 hKI_s_5 x_s_5)
        have hF_s_5 : FR [46, 47, 48, 49, 50, 51, 52, 53, 54, 55, 58, 60, 61] [] σ s_5 := FR.cal hF_s_4 hG_s_5 rfl rfl
        have w_s_5_46 : (s_5.1 46 0).toInt = (s_4.1 46 0).toInt := by rw [hG_s_5.1 46 (by decide)]
        have hPI_s_5 : PI s_5 := PI.fr hG_s_5 (by decide) hPI_s_4
        have hSI_s_5 : SI s_5 := SI.fr hG_s_5 (by decide) hSI_s_4
        exact ok_ret ⟨hB_s_5, hF_s_5, hPI_s_5, hSI_s_5, hKI_s_5, (by (try dsimp only); omega)⟩

set_option maxHeartbeats 4000000 in
theorem s_X3_chooses {x1 : Int32} {σ : Sto} (hB : BX σ) (p_x1 : 0 ≤ x1.toInt ∧ x1.toInt ≤ 39) : OK (f_X3_chooses x1 σ) (fun v => (0 ≤ v.toInt ∧ v.toInt ≤ 1)) := by
  unfold f_X3_chooses
  have hF : FR [] [] σ σ := FR.rf
  have k_0 : (0 : Int32).toInt = 0 := by decide +kernel
  have k_1 : (1 : Int32).toInt = 1 := by decide +kernel
  have k_122 : (122 : Int32).toInt = 122 := by decide +kernel
  refine ok_ix ⟨by omega, by omega⟩ ?_
  have g_1 := gX_6 hB (x1.toNatClampNeg)
  refine ok_lt fun v_1 e_v_1 => ?_
  have b_v_1 : 0 ≤ v_1.toInt ∧ v_1.toInt ≤ 255 := by rw [e_v_1]; exact gX_6 hB _
  refine ok_jn ?_
  refine ok_ite (fun c_2 => ?_) (fun c_2 => ?_)
  · rw [fa_eq] at c_2
    refine ok_ix ⟨by omega, by omega⟩ ?_
    have g_3 := gX_7 hB (x1.toNatClampNeg)
    refine ok_lt fun v_4 e_v_4 => ?_
    have b_v_4 : 0 ≤ v_4.toInt ∧ v_4.toInt ≤ 999 := by rw [e_v_4]; exact gX_7 hB _
    obtain ⟨t_5, ht_5, g_5⟩ : ∃ t : Int, (x1 + 1).toInt = t ∧ t = x1.toInt + (1 : Int32).toInt := ⟨_, rfl, by have h9 := fb_addI (x := x1) (y := (1 : Int32)) (by omega) (by omega); exact h9⟩
    refine ok_ite (fun c_4 => ?_) (fun c_4 => ?_)
    · rw [fa_eq, ht_5] at c_4
      exact ok_ret (by (try dsimp only); omega)
    · rw [fa_eq, ht_5] at c_4
      exact ok_ret (by (try dsimp only); omega)
  · rw [fa_eq] at c_2
    exact ok_ret (by (try dsimp only); omega)

set_option maxHeartbeats 4000000 in
theorem s_X1_operate {x1 : Int32} {σ : Sto} (hB : BX σ) (hPI : PI σ) (hSI : SI σ) (hKI : KI σ) (p_x1 : 0 ≤ x1.toInt ∧ x1.toInt ≤ 255) (hop : opU x1 ∨ opB x1) (hh1 : 1 ≤ (σ.1 61 0).toInt) (hh2 : opB x1 → 2 ≤ (σ.1 61 0).toInt) : OK (f_X1_operate x1 σ) (fun s => BX s ∧ FR [46, 47, 48, 49, 50, 51, 60, 61] [] σ s ∧ PI s ∧ SI s ∧ KI s ∧ ((σ.1 46 0).toInt ≤ (s.1 46 0).toInt ∧ (opB x1 → (s.1 61 0).toInt = (σ.1 61 0).toInt - 1) ∧ (¬ opB x1 → (s.1 61 0).toInt = (σ.1 61 0).toInt))) := by
  unfold f_X1_operate
  have hF : FR [46, 47, 48, 49, 50, 51, 60, 61] [] σ σ := FR.rf
  have k_0 : (0 : Int32).toInt = 0 := by decide +kernel
  have g9 := gX_61 hB 0
  refine ok_calv (s_X1_pop  (σ := σ) hB hKI) (fun v_1 s_1 h_1 => ?_)
  obtain ⟨b_v_1, hB_s_1, hG_s_1, hKI_s_1, x_s_1⟩ := h_1
  (try dsimp only at b_v_1 hB_s_1 hG_s_1 hKI_s_1 x_s_1)
  have hF_s_1 : FR [46, 47, 48, 49, 50, 51, 60, 61] [] σ s_1 := FR.cal hF hG_s_1 rfl rfl
  have w_s_1_46 : (s_1.1 46 0).toInt = (σ.1 46 0).toInt := by rw [hG_s_1.1 46 (by decide)]
  have hPI_s_1 : PI s_1 := PI.fr hG_s_1 (by decide) hPI
  have hSI_s_1 : SI s_1 := SI.fr hG_s_1 (by decide) hSI
  refine ok_calp (s_X11_isBinary (x1 := x1) ) (fun v_2 h_2 => ?_)
  obtain ⟨b_v_2, x_v_2⟩ := h_2
  (try dsimp only at b_v_2 x_v_2)
  have hnb : v_2.toInt = 0 → ¬ opB x1 := fun h q => by have := x_v_2.mpr q; omega
  have hbb : v_2.toInt = 1 → opB x1 := x_v_2.mp
  have hb2 : v_2.toInt = 1 → 2 ≤ (σ.1 61 0).toInt := fun h => hh2 (x_v_2.mp h)
  have hT9 : v_2.toInt = 0 → T1 (s_1.1 46 0).toInt x1 v_1 0 := fun h => t1_op hop (by omega) (gX_46 hB_s_1 0).2 (fun q => absurd q (hnb h))
  have g46 := gX_46 hB_s_1 0
  refine ok_ite (fun c_3 => ?_) (fun c_3 => ?_)
  · rw [fa_eq] at c_3
    refine ok_calv (s_X7_make (x1 := x1) (x2 := v_1) (x3 := (0 : Int32)) (σ := s_1) hB_s_1 hPI_s_1 (by omega) (by omega) (by omega) (by first | exact hT9 (by omega) | exact t1_op hop (by omega) (gX_46 hB_s_6 0).2 (fun _ => by omega))) (fun v_4 s_4 h_4 => ?_)
    obtain ⟨b_v_4, hB_s_4, hG_s_4, hPI_s_4, x_s_4⟩ := h_4
    (try dsimp only at b_v_4 hB_s_4 hG_s_4 hPI_s_4 x_s_4)
    have hF_s_4 : FR [46, 47, 48, 49, 50, 51, 60, 61] [] σ s_4 := FR.cal hF_s_1 hG_s_4 rfl rfl
    have w_s_4_61 : (s_4.1 61 0).toInt = (s_1.1 61 0).toInt := by rw [hG_s_4.1 61 (by decide)]
    have hSI_s_4 : SI s_4 := SI.fr hG_s_4 (by decide) hSI_s_1
    have hKI_s_4 : KI s_4 := KI.up hKI_s_1 (hG_s_4.1 60 (by decide)) (hG_s_4.1 61 (by decide)) x_s_4.1
    refine ok_cals (s_X1_push (x1 := v_4) (σ := s_4) hB_s_4 hKI_s_4 (by omega) (by omega)) (fun s_5 h_5 => ?_)
    obtain ⟨hB_s_5, hG_s_5, hKI_s_5, x_s_5⟩ := h_5
    (try dsimp only at hB_s_5 hG_s_5 hKI_s_5 x_s_5)
    have hF_s_5 : FR [46, 47, 48, 49, 50, 51, 60, 61] [] σ s_5 := FR.cal hF_s_4 hG_s_5 rfl rfl
    have w_s_5_46 : (s_5.1 46 0).toInt = (s_4.1 46 0).toInt := by rw [hG_s_5.1 46 (by decide)]
    have hPI_s_5 : PI s_5 := PI.fr hG_s_5 (by decide) hPI_s_4
    have hSI_s_5 : SI s_5 := SI.fr hG_s_5 (by decide) hSI_s_4
    exact ok_ret ⟨hB_s_5, hF_s_5, hPI_s_5, hSI_s_5, hKI_s_5, ⟨by (try dsimp only); omega, fun h => by first | exact absurd h (hnb (by omega)) | ((try dsimp only); omega), fun h => by first | exact absurd (hbb (by omega)) h | ((try dsimp only); omega)⟩⟩
  · rw [fa_eq] at c_3
    refine ok_calv (s_X1_pop  (σ := s_1) hB_s_1 hKI_s_1) (fun v_6 s_6 h_6 => ?_)
    obtain ⟨b_v_6, hB_s_6, hG_s_6, hKI_s_6, x_s_6⟩ := h_6
    (try dsimp only at b_v_6 hB_s_6 hG_s_6 hKI_s_6 x_s_6)
    have hF_s_6 : FR [46, 47, 48, 49, 50, 51, 60, 61] [] σ s_6 := FR.cal hF_s_1 hG_s_6 rfl rfl
    have w_s_6_46 : (s_6.1 46 0).toInt = (s_1.1 46 0).toInt := by rw [hG_s_6.1 46 (by decide)]
    have hPI_s_6 : PI s_6 := PI.fr hG_s_6 (by decide) hPI_s_1
    have hSI_s_6 : SI s_6 := SI.fr hG_s_6 (by decide) hSI_s_1
    refine ok_calv (s_X7_make (x1 := x1) (x2 := v_6) (x3 := v_1) (σ := s_6) hB_s_6 hPI_s_6 (by omega) (by omega) (by omega) (by first | exact hT9 (by omega) | exact t1_op hop (by omega) (gX_46 hB_s_6 0).2 (fun _ => by omega))) (fun v_7 s_7 h_7 => ?_)
    obtain ⟨b_v_7, hB_s_7, hG_s_7, hPI_s_7, x_s_7⟩ := h_7
    (try dsimp only at b_v_7 hB_s_7 hG_s_7 hPI_s_7 x_s_7)
    have hF_s_7 : FR [46, 47, 48, 49, 50, 51, 60, 61] [] σ s_7 := FR.cal hF_s_6 hG_s_7 rfl rfl
    have w_s_7_61 : (s_7.1 61 0).toInt = (s_6.1 61 0).toInt := by rw [hG_s_7.1 61 (by decide)]
    have hSI_s_7 : SI s_7 := SI.fr hG_s_7 (by decide) hSI_s_6
    have hKI_s_7 : KI s_7 := KI.up hKI_s_6 (hG_s_7.1 60 (by decide)) (hG_s_7.1 61 (by decide)) x_s_7.1
    refine ok_cals (s_X1_push (x1 := v_7) (σ := s_7) hB_s_7 hKI_s_7 (by omega) (by omega)) (fun s_8 h_8 => ?_)
    obtain ⟨hB_s_8, hG_s_8, hKI_s_8, x_s_8⟩ := h_8
    (try dsimp only at hB_s_8 hG_s_8 hKI_s_8 x_s_8)
    have hF_s_8 : FR [46, 47, 48, 49, 50, 51, 60, 61] [] σ s_8 := FR.cal hF_s_7 hG_s_8 rfl rfl
    have w_s_8_46 : (s_8.1 46 0).toInt = (s_7.1 46 0).toInt := by rw [hG_s_8.1 46 (by decide)]
    have hPI_s_8 : PI s_8 := PI.fr hG_s_8 (by decide) hPI_s_7
    have hSI_s_8 : SI s_8 := SI.fr hG_s_8 (by decide) hSI_s_7
    exact ok_ret ⟨hB_s_8, hF_s_8, hPI_s_8, hSI_s_8, hKI_s_8, ⟨by (try dsimp only); omega, fun h => by first | exact absurd h (hnb (by omega)) | ((try dsimp only); omega), fun h => by first | exact absurd (hbb (by omega)) h | ((try dsimp only); omega)⟩⟩

set_option maxHeartbeats 4000000 in
theorem s_X1_step {x1 : Int32} {x2 : Int32} {σ : Sto} (hB : BX σ) (hPI : PI σ) (hSI : SI σ) (hKI : KI σ) (p_x1 : 0 ≤ x1.toInt ∧ x1.toInt ≤ 39) (p_x2 : 0 ≤ x2.toInt ∧ x2.toInt ≤ 39) (hV0 : VS (σ.1 6 x2.toNatClampNeg) (σ.1 7 x2.toNatClampNeg)) (hN0 : ND (σ.1 6 x2.toNatClampNeg).toInt (σ.1 61 0).toInt) (ht : (σ.1 57 x1.toNatClampNeg).toInt < (σ.1 46 0).toInt) : OK (f_X1_step x1 x2 σ) (fun s => BX s ∧ FR [46, 47, 48, 49, 50, 51, 52, 53, 54, 55, 57, 58, 60, 61] [] σ s ∧ PI s ∧ SI s ∧ KI s ∧ ((σ.1 46 0).toInt ≤ (s.1 46 0).toInt ∧ (s.1 57 x1.toNatClampNeg).toInt < (s.1 46 0).toInt ∧ HD (σ.1 6 x2.toNatClampNeg).toInt (σ.1 61 0).toInt (s.1 61 0).toInt)) := by
  unfold f_X1_step
  have hF : FR [46, 47, 48, 49, 50, 51, 52, 53, 54, 55, 57, 58, 60, 61] [] σ σ := FR.rf
  have k_m1 : ((-1) : Int32).toInt = -1 := by decide +kernel
  have k_0 : (0 : Int32).toInt = 0 := by decide +kernel
  have k_3 : (3 : Int32).toInt = 3 := by decide +kernel
  have k_5 : (5 : Int32).toInt = 5 := by decide +kernel
  have k_6 : (6 : Int32).toInt = 6 := by decide +kernel
  have k_100 : (100 : Int32).toInt = 100 := by decide +kernel
  have k_103 : (103 : Int32).toInt = 103 := by decide +kernel
  have k_111 : (111 : Int32).toInt = 111 := by decide +kernel
  have k_112 : (112 : Int32).toInt = 112 := by decide +kernel
  have k_114 : (114 : Int32).toInt = 114 := by decide +kernel
  have k_115 : (115 : Int32).toInt = 115 := by decide +kernel
  have k_116 : (116 : Int32).toInt = 116 := by decide +kernel
  have k_119 : (119 : Int32).toInt = 119 := by decide +kernel
  have k_122 : (122 : Int32).toInt = 122 := by decide +kernel
  refine ok_ix ⟨by omega, by omega⟩ ?_
  have g_1 := gX_6 hB (x2.toNatClampNeg)
  refine ok_lt fun v_1 e_v_1 => ?_
  have b_v_1 : 0 ≤ v_1.toInt ∧ v_1.toInt ≤ 255 := by rw [e_v_1]; exact gX_6 hB _
  refine ok_ix ⟨by omega, by omega⟩ ?_
  have g_2 := gX_7 hB (x2.toNatClampNeg)
  refine ok_lt fun v_2 e_v_2 => ?_
  have b_v_2 : 0 ≤ v_2.toInt ∧ v_2.toInt ≤ 999 := by rw [e_v_2]; exact gX_7 hB _
  have hV : VS v_1 v_2 := by rw [e_v_1, e_v_2]; exact hV0
  have hND : ND v_1.toInt (σ.1 61 0).toInt := by rw [e_v_1]; exact hN0
  have z115 : v_1.toInt = 115 → v_2.toInt ≤ 5 := fun q => hV.1 (Or.inr q)
  refine ok_ite (fun c_3 => ?_) (fun c_3 => ?_)
  · have c_3 := c_3
    refine ok_cals (s_X1_twice  (σ := σ) hB hPI hSI hKI (nd_100 hND (by omega)).1 (by have := (nd_100 hND (by omega)).2; omega)) (fun s_4 h_4 => ?_)
    obtain ⟨hB_s_4, hG_s_4, hPI_s_4, hSI_s_4, hKI_s_4, x_s_4⟩ := h_4
    (try dsimp only at hB_s_4 hG_s_4 hPI_s_4 hSI_s_4 hKI_s_4 x_s_4)
    have hF_s_4 : FR [46, 47, 48, 49, 50, 51, 52, 53, 54, 55, 57, 58, 60, 61] [] σ s_4 := FR.cal hF hG_s_4 rfl rfl
    have z57_s_4 : (s_4.1 57 x1.toNatClampNeg).toInt = (σ.1 57 x1.toNatClampNeg).toInt := by rw [hG_s_4.1 57 (by decide)]
    exact ok_ret ⟨hB_s_4, hF_s_4, hPI_s_4, hSI_s_4, hKI_s_4, ⟨by (try dsimp only); omega, by (try dsimp only); omega, by (try dsimp only); first | exact (by rw [← e_v_1]; exact hd_o (vs_op hV (by omega)) x_s_23.2.1 x_s_23.2.2) | exact (by rw [← e_v_1]; exact hd_1 (by omega))⟩⟩
  · have c_3 := c_3
    refine ok_ite (fun c_5 => ?_) (fun c_5 => ?_)
    · have c_5 := c_5
      exact ok_ret ⟨hB, hF, hPI, hSI, hKI, ⟨by (try dsimp only); omega, by (try dsimp only); omega, by (try dsimp only); first | exact (by rw [← e_v_1]; exact hd_o (vs_op hV (by omega)) x_s_23.2.1 x_s_23.2.2) | exact (by rw [← e_v_1]; exact hd_1 (by omega))⟩⟩
    · have c_5 := c_5
      refine ok_ite (fun c_6 => ?_) (fun c_6 => ?_)
      · have c_6 := c_6
        refine ok_calv (s_X7_make (x1 := v_1) (x2 := v_2) (x3 := (0 : Int32)) (σ := σ) hB hPI (by omega) (by omega) (by omega) (vs_T1 hV (by omega))) (fun v_5 s_5 h_7 => ?_)
        obtain ⟨b_v_5, hB_s_5, hG_s_5, hPI_s_5, x_s_5⟩ := h_7
        (try dsimp only at b_v_5 hB_s_5 hG_s_5 hPI_s_5 x_s_5)
        have hF_s_5 : FR [46, 47, 48, 49, 50, 51, 52, 53, 54, 55, 57, 58, 60, 61] [] σ s_5 := FR.cal hF hG_s_5 rfl rfl
        have w_s_5_61 : (s_5.1 61 0).toInt = (σ.1 61 0).toInt := by rw [hG_s_5.1 61 (by decide)]
        have z57_s_5 : (s_5.1 57 x1.toNatClampNeg).toInt = (σ.1 57 x1.toNatClampNeg).toInt := by rw [hG_s_5.1 57 (by decide)]
        have hSI_s_5 : SI s_5 := SI.fr hG_s_5 (by decide) hSI
        have hKI_s_5 : KI s_5 := KI.up hKI (hG_s_5.1 60 (by decide)) (hG_s_5.1 61 (by decide)) x_s_5.1
        have n5 := nd_in hND (by omega)
        refine ok_cals (s_X1_push (x1 := v_5) (σ := s_5) hB_s_5 hKI_s_5 (by omega) (by omega)) (fun s_6 h_8 => ?_)
        obtain ⟨hB_s_6, hG_s_6, hKI_s_6, x_s_6⟩ := h_8
        (try dsimp only at hB_s_6 hG_s_6 hKI_s_6 x_s_6)
        have hF_s_6 : FR [46, 47, 48, 49, 50, 51, 52, 53, 54, 55, 57, 58, 60, 61] [] σ s_6 := FR.cal hF_s_5 hG_s_6 rfl rfl
        have w_s_6_46 : (s_6.1 46 0).toInt = (s_5.1 46 0).toInt := by rw [hG_s_6.1 46 (by decide)]
        have z57_s_6 : (s_6.1 57 x1.toNatClampNeg).toInt = (s_5.1 57 x1.toNatClampNeg).toInt := by rw [hG_s_6.1 57 (by decide)]
        have hPI_s_6 : PI s_6 := PI.fr hG_s_6 (by decide) hPI_s_5
        have hSI_s_6 : SI s_6 := SI.fr hG_s_6 (by decide) hSI_s_5
        exact ok_ret ⟨hB_s_6, hF_s_6, hPI_s_6, hSI_s_6, hKI_s_6, ⟨by (try dsimp only); omega, by (try dsimp only); omega, by (try dsimp only); first | exact (by rw [← e_v_1]; exact hd_o (vs_op hV (by omega)) x_s_23.2.1 x_s_23.2.2) | exact (by rw [← e_v_1]; exact hd_1 (by omega))⟩⟩
      · have c_6 := c_6
        refine ok_ite (fun c_9 => ?_) (fun c_9 => ?_)
        · have c_9 := c_9
          refine ok_calv (s_X1_pop  (σ := σ) hB hKI) (fun v_7 s_7 h_10 => ?_)
          obtain ⟨b_v_7, hB_s_7, hG_s_7, hKI_s_7, x_s_7⟩ := h_10
          (try dsimp only at b_v_7 hB_s_7 hG_s_7 hKI_s_7 x_s_7)
          have hF_s_7 : FR [46, 47, 48, 49, 50, 51, 52, 53, 54, 55, 57, 58, 60, 61] [] σ s_7 := FR.cal hF hG_s_7 rfl rfl
          have w_s_7_46 : (s_7.1 46 0).toInt = (σ.1 46 0).toInt := by rw [hG_s_7.1 46 (by decide)]
          have z57_s_7 : (s_7.1 57 x1.toNatClampNeg).toInt = (σ.1 57 x1.toNatClampNeg).toInt := by rw [hG_s_7.1 57 (by decide)]
          have hPI_s_7 : PI s_7 := PI.fr hG_s_7 (by decide) hPI
          have hSI_s_7 : SI s_7 := SI.fr hG_s_7 (by decide) hSI
          have n1 := nd_1 hND (by omega)
          refine ok_cals (s_X1_state (x1 := (3 : Int32)) (x2 := ((-1) : Int32)) (x3 := v_7) (σ := s_7) hB_s_7 hPI_s_7 hSI_s_7 hKI_s_7 (by omega) (by omega) (by omega) (by first | exact t2_o (by omega) | exact t2_T (by omega) (by omega) ⟨by omega, z115 (by omega)⟩ (by omega))) (fun s_8 h_11 => ?_)
          obtain ⟨hB_s_8, hG_s_8, hPI_s_8, hSI_s_8, hKI_s_8, x_s_8⟩ := h_11
          (try dsimp only at hB_s_8 hG_s_8 hPI_s_8 hSI_s_8 hKI_s_8 x_s_8)
          have hF_s_8 : FR [46, 47, 48, 49, 50, 51, 52, 53, 54, 55, 57, 58, 60, 61] [] σ s_8 := FR.cal hF_s_7 hG_s_8 rfl rfl
          have w_s_8_61 : (s_8.1 61 0).toInt = (s_7.1 61 0).toInt := by rw [hG_s_8.1 61 (by decide)]
          have z57_s_8 : (s_8.1 57 x1.toNatClampNeg).toInt = (s_7.1 57 x1.toNatClampNeg).toInt := by rw [hG_s_8.1 57 (by decide)]
          exact ok_ret ⟨hB_s_8, hF_s_8, hPI_s_8, hSI_s_8, hKI_s_8, ⟨by (try dsimp only); omega, by (try dsimp only); omega, by (try dsimp only); first | exact (by rw [← e_v_1]; exact hd_o (vs_op hV (by omega)) x_s_23.2.1 x_s_23.2.2) | exact (by rw [← e_v_1]; exact hd_1 (by omega))⟩⟩
        · have c_9 := c_9
          refine ok_ite (fun c_12 => ?_) (fun c_12 => ?_)
          · have c_12 := c_12
            refine ok_calv (s_X1_pop  (σ := σ) hB hKI) (fun v_9 s_9 h_13 => ?_)
            obtain ⟨b_v_9, hB_s_9, hG_s_9, hKI_s_9, x_s_9⟩ := h_13
            (try dsimp only at b_v_9 hB_s_9 hG_s_9 hKI_s_9 x_s_9)
            have hF_s_9 : FR [46, 47, 48, 49, 50, 51, 52, 53, 54, 55, 57, 58, 60, 61] [] σ s_9 := FR.cal hF hG_s_9 rfl rfl
            have w_s_9_46 : (s_9.1 46 0).toInt = (σ.1 46 0).toInt := by rw [hG_s_9.1 46 (by decide)]
            have z57_s_9 : (s_9.1 57 x1.toNatClampNeg).toInt = (σ.1 57 x1.toNatClampNeg).toInt := by rw [hG_s_9.1 57 (by decide)]
            have hPI_s_9 : PI s_9 := PI.fr hG_s_9 (by decide) hPI
            have hSI_s_9 : SI s_9 := SI.fr hG_s_9 (by decide) hSI
            have n1 := nd_1 hND (by omega)
            refine ok_cals (s_X1_drop (x1 := v_9) (σ := s_9) hB_s_9 hPI_s_9 hSI_s_9 hKI_s_9 (by omega)) (fun s_10 h_14 => ?_)
            obtain ⟨hB_s_10, hG_s_10, hPI_s_10, hSI_s_10, hKI_s_10, x_s_10⟩ := h_14
            (try dsimp only at hB_s_10 hG_s_10 hPI_s_10 hSI_s_10 hKI_s_10 x_s_10)
            have hF_s_10 : FR [46, 47, 48, 49, 50, 51, 52, 53, 54, 55, 57, 58, 60, 61] [] σ s_10 := FR.cal hF_s_9 hG_s_10 rfl rfl
            have w_s_10_61 : (s_10.1 61 0).toInt = (s_9.1 61 0).toInt := by rw [hG_s_10.1 61 (by decide)]
            have z57_s_10 : (s_10.1 57 x1.toNatClampNeg).toInt = (s_9.1 57 x1.toNatClampNeg).toInt := by rw [hG_s_10.1 57 (by decide)]
            exact ok_ret ⟨hB_s_10, hF_s_10, hPI_s_10, hSI_s_10, hKI_s_10, ⟨by (try dsimp only); omega, by (try dsimp only); omega, by (try dsimp only); first | exact (by rw [← e_v_1]; exact hd_o (vs_op hV (by omega)) x_s_23.2.1 x_s_23.2.2) | exact (by rw [← e_v_1]; exact hd_1 (by omega))⟩⟩
          · have c_12 := c_12
            refine ok_ite (fun c_15 => ?_) (fun c_15 => ?_)
            · have c_15 := c_15
              refine ok_cals (s_X1_state (x1 := (6 : Int32)) (x2 := ((-1) : Int32)) (x3 := ((-1) : Int32)) (σ := σ) hB hPI hSI hKI (by omega) (by omega) (by omega) (by first | exact t2_o (by omega) | exact t2_T (by omega) (by omega) ⟨by omega, z115 (by omega)⟩ (by omega))) (fun s_11 h_16 => ?_)
              obtain ⟨hB_s_11, hG_s_11, hPI_s_11, hSI_s_11, hKI_s_11, x_s_11⟩ := h_16
              (try dsimp only at hB_s_11 hG_s_11 hPI_s_11 hSI_s_11 hKI_s_11 x_s_11)
              have hF_s_11 : FR [46, 47, 48, 49, 50, 51, 52, 53, 54, 55, 57, 58, 60, 61] [] σ s_11 := FR.cal hF hG_s_11 rfl rfl
              have w_s_11_61 : (s_11.1 61 0).toInt = (σ.1 61 0).toInt := by rw [hG_s_11.1 61 (by decide)]
              have z57_s_11 : (s_11.1 57 x1.toNatClampNeg).toInt = (σ.1 57 x1.toNatClampNeg).toInt := by rw [hG_s_11.1 57 (by decide)]
              exact ok_ret ⟨hB_s_11, hF_s_11, hPI_s_11, hSI_s_11, hKI_s_11, ⟨by (try dsimp only); omega, by (try dsimp only); omega, by (try dsimp only); first | exact (by rw [← e_v_1]; exact hd_o (vs_op hV (by omega)) x_s_23.2.1 x_s_23.2.2) | exact (by rw [← e_v_1]; exact hd_1 (by omega))⟩⟩
            · have c_15 := c_15
              refine ok_ite (fun c_17 => ?_) (fun c_17 => ?_)
              · have c_17 := c_17
                refine ok_calv (s_X1_pop  (σ := σ) hB hKI) (fun v_12 s_12 h_18 => ?_)
                obtain ⟨b_v_12, hB_s_12, hG_s_12, hKI_s_12, x_s_12⟩ := h_18
                (try dsimp only at b_v_12 hB_s_12 hG_s_12 hKI_s_12 x_s_12)
                have hF_s_12 : FR [46, 47, 48, 49, 50, 51, 52, 53, 54, 55, 57, 58, 60, 61] [] σ s_12 := FR.cal hF hG_s_12 rfl rfl
                have w_s_12_46 : (s_12.1 46 0).toInt = (σ.1 46 0).toInt := by rw [hG_s_12.1 46 (by decide)]
                have z57_s_12 : (s_12.1 57 x1.toNatClampNeg).toInt = (σ.1 57 x1.toNatClampNeg).toInt := by rw [hG_s_12.1 57 (by decide)]
                have hPI_s_12 : PI s_12 := PI.fr hG_s_12 (by decide) hPI
                have hSI_s_12 : SI s_12 := SI.fr hG_s_12 (by decide) hSI
                have n1 := nd_1 hND (by omega)
                refine ok_cals (s_X1_state (x1 := (0 : Int32)) (x2 := v_2) (x3 := v_12) (σ := s_12) hB_s_12 hPI_s_12 hSI_s_12 hKI_s_12 (by omega) (by omega) (by omega) (by first | exact t2_o (by omega) | exact t2_T (by omega) (by omega) ⟨by omega, z115 (by omega)⟩ (by omega))) (fun s_13 h_19 => ?_)
                obtain ⟨hB_s_13, hG_s_13, hPI_s_13, hSI_s_13, hKI_s_13, x_s_13⟩ := h_19
                (try dsimp only at hB_s_13 hG_s_13 hPI_s_13 hSI_s_13 hKI_s_13 x_s_13)
                have hF_s_13 : FR [46, 47, 48, 49, 50, 51, 52, 53, 54, 55, 57, 58, 60, 61] [] σ s_13 := FR.cal hF_s_12 hG_s_13 rfl rfl
                have w_s_13_61 : (s_13.1 61 0).toInt = (s_12.1 61 0).toInt := by rw [hG_s_13.1 61 (by decide)]
                have z57_s_13 : (s_13.1 57 x1.toNatClampNeg).toInt = (s_12.1 57 x1.toNatClampNeg).toInt := by rw [hG_s_13.1 57 (by decide)]
                exact ok_ret ⟨hB_s_13, hF_s_13, hPI_s_13, hSI_s_13, hKI_s_13, ⟨by (try dsimp only); omega, by (try dsimp only); omega, by (try dsimp only); first | exact (by rw [← e_v_1]; exact hd_o (vs_op hV (by omega)) x_s_23.2.1 x_s_23.2.2) | exact (by rw [← e_v_1]; exact hd_1 (by omega))⟩⟩
              · have c_17 := c_17
                refine ok_ite (fun c_20 => ?_) (fun c_20 => ?_)
                · have c_20 := c_20
                  refine ok_calv (s_X1_pop  (σ := σ) hB hKI) (fun v_14 s_14 h_21 => ?_)
                  obtain ⟨b_v_14, hB_s_14, hG_s_14, hKI_s_14, x_s_14⟩ := h_21
                  (try dsimp only at b_v_14 hB_s_14 hG_s_14 hKI_s_14 x_s_14)
                  have hF_s_14 : FR [46, 47, 48, 49, 50, 51, 52, 53, 54, 55, 57, 58, 60, 61] [] σ s_14 := FR.cal hF hG_s_14 rfl rfl
                  have w_s_14_46 : (s_14.1 46 0).toInt = (σ.1 46 0).toInt := by rw [hG_s_14.1 46 (by decide)]
                  have z57_s_14 : (s_14.1 57 x1.toNatClampNeg).toInt = (σ.1 57 x1.toNatClampNeg).toInt := by rw [hG_s_14.1 57 (by decide)]
                  have hPI_s_14 : PI s_14 := PI.fr hG_s_14 (by decide) hPI
                  have hSI_s_14 : SI s_14 := SI.fr hG_s_14 (by decide) hSI
                  have n1 := nd_1 hND (by omega)
                  refine ok_cals (s_X1_state (x1 := (5 : Int32)) (x2 := ((-1) : Int32)) (x3 := v_14) (σ := s_14) hB_s_14 hPI_s_14 hSI_s_14 hKI_s_14 (by omega) (by omega) (by omega) (by first | exact t2_o (by omega) | exact t2_T (by omega) (by omega) ⟨by omega, z115 (by omega)⟩ (by omega))) (fun s_15 h_22 => ?_)
                  obtain ⟨hB_s_15, hG_s_15, hPI_s_15, hSI_s_15, hKI_s_15, x_s_15⟩ := h_22
                  (try dsimp only at hB_s_15 hG_s_15 hPI_s_15 hSI_s_15 hKI_s_15 x_s_15)
                  have hF_s_15 : FR [46, 47, 48, 49, 50, 51, 52, 53, 54, 55, 57, 58, 60, 61] [] σ s_15 := FR.cal hF_s_14 hG_s_15 rfl rfl
                  have w_s_15_61 : (s_15.1 61 0).toInt = (s_14.1 61 0).toInt := by rw [hG_s_15.1 61 (by decide)]
                  have z57_s_15 : (s_15.1 57 x1.toNatClampNeg).toInt = (s_14.1 57 x1.toNatClampNeg).toInt := by rw [hG_s_15.1 57 (by decide)]
                  exact ok_ret ⟨hB_s_15, hF_s_15, hPI_s_15, hSI_s_15, hKI_s_15, ⟨by (try dsimp only); omega, by (try dsimp only); omega, by (try dsimp only); first | exact (by rw [← e_v_1]; exact hd_o (vs_op hV (by omega)) x_s_23.2.1 x_s_23.2.2) | exact (by rw [← e_v_1]; exact hd_1 (by omega))⟩⟩
                · have c_20 := c_20
                  refine ok_ite (fun c_23 => ?_) (fun c_23 => ?_)
                  · have c_23 := c_23
                    refine ok_cals (s_X1_exchange  (σ := σ) hB hPI hSI hKI (nd_119 hND (by omega)).1 (nd_119 hND (by omega)).2) (fun s_16 h_24 => ?_)
                    obtain ⟨hB_s_16, hG_s_16, hPI_s_16, hSI_s_16, hKI_s_16, x_s_16⟩ := h_24
                    (try dsimp only at hB_s_16 hG_s_16 hPI_s_16 hSI_s_16 hKI_s_16 x_s_16)
                    have hF_s_16 : FR [46, 47, 48, 49, 50, 51, 52, 53, 54, 55, 57, 58, 60, 61] [] σ s_16 := FR.cal hF hG_s_16 rfl rfl
                    have z57_s_16 : (s_16.1 57 x1.toNatClampNeg).toInt = (σ.1 57 x1.toNatClampNeg).toInt := by rw [hG_s_16.1 57 (by decide)]
                    exact ok_ret ⟨hB_s_16, hF_s_16, hPI_s_16, hSI_s_16, hKI_s_16, ⟨by (try dsimp only); omega, by (try dsimp only); omega, by (try dsimp only); first | exact (by rw [← e_v_1]; exact hd_o (vs_op hV (by omega)) x_s_23.2.1 x_s_23.2.2) | exact (by rw [← e_v_1]; exact hd_1 (by omega))⟩⟩
                  · have c_23 := c_23
                    refine ok_ite (fun c_25 => ?_) (fun c_25 => ?_)
                    · have c_25 := c_25
                      refine ok_calp (s_X3_chooses (x1 := x2) (σ := σ) hB (by omega)) (fun v_17 h_26 => ?_)
                      have b_v_17 := h_26
                      (try dsimp only at b_v_17)
                      refine ok_ite (fun c_27 => ?_) (fun c_27 => ?_)
                      · rw [fa_eq] at c_27
                        refine ok_calv (s_X1_pop  (σ := σ) hB hKI) (fun v_19 s_19 h_28 => ?_)
                        obtain ⟨b_v_19, hB_s_19, hG_s_19, hKI_s_19, x_s_19⟩ := h_28
                        (try dsimp only at b_v_19 hB_s_19 hG_s_19 hKI_s_19 x_s_19)
                        have hF_s_19 : FR [46, 47, 48, 49, 50, 51, 52, 53, 54, 55, 57, 58, 60, 61] [] σ s_19 := FR.cal hF hG_s_19 rfl rfl
                        have w_s_19_46 : (s_19.1 46 0).toInt = (σ.1 46 0).toInt := by rw [hG_s_19.1 46 (by decide)]
                        have z57_s_19 : (s_19.1 57 x1.toNatClampNeg).toInt = (σ.1 57 x1.toNatClampNeg).toInt := by rw [hG_s_19.1 57 (by decide)]
                        have hPI_s_19 : PI s_19 := PI.fr hG_s_19 (by decide) hPI
                        have hSI_s_19 : SI s_19 := SI.fr hG_s_19 (by decide) hSI
                        have n1 := nd_1 hND (by omega)
                        refine ok_cals (s_X1_drop (x1 := v_19) (σ := s_19) hB_s_19 hPI_s_19 hSI_s_19 hKI_s_19 (by omega)) (fun s_20 h_29 => ?_)
                        obtain ⟨hB_s_20, hG_s_20, hPI_s_20, hSI_s_20, hKI_s_20, x_s_20⟩ := h_29
                        (try dsimp only at hB_s_20 hG_s_20 hPI_s_20 hSI_s_20 hKI_s_20 x_s_20)
                        have hF_s_20 : FR [46, 47, 48, 49, 50, 51, 52, 53, 54, 55, 57, 58, 60, 61] [] σ s_20 := FR.cal hF_s_19 hG_s_20 rfl rfl
                        have w_s_20_61 : (s_20.1 61 0).toInt = (s_19.1 61 0).toInt := by rw [hG_s_20.1 61 (by decide)]
                        have z57_s_20 : (s_20.1 57 x1.toNatClampNeg).toInt = (s_19.1 57 x1.toNatClampNeg).toInt := by rw [hG_s_20.1 57 (by decide)]
                        exact ok_ret ⟨hB_s_20, hF_s_20, hPI_s_20, hSI_s_20, hKI_s_20, ⟨by (try dsimp only); omega, by (try dsimp only); omega, by (try dsimp only); first | exact (by rw [← e_v_1]; exact hd_o (vs_op hV (by omega)) x_s_23.2.1 x_s_23.2.2) | exact (by rw [← e_v_1]; exact hd_1 (by omega))⟩⟩
                      · rw [fa_eq] at c_27
                        refine ok_calv (s_X1_pop  (σ := σ) hB hKI) (fun v_21 s_21 h_30 => ?_)
                        obtain ⟨b_v_21, hB_s_21, hG_s_21, hKI_s_21, x_s_21⟩ := h_30
                        (try dsimp only at b_v_21 hB_s_21 hG_s_21 hKI_s_21 x_s_21)
                        have hF_s_21 : FR [46, 47, 48, 49, 50, 51, 52, 53, 54, 55, 57, 58, 60, 61] [] σ s_21 := FR.cal hF hG_s_21 rfl rfl
                        have w_s_21_46 : (s_21.1 46 0).toInt = (σ.1 46 0).toInt := by rw [hG_s_21.1 46 (by decide)]
                        have z57_s_21 : (s_21.1 57 x1.toNatClampNeg).toInt = (σ.1 57 x1.toNatClampNeg).toInt := by rw [hG_s_21.1 57 (by decide)]
                        have hPI_s_21 : PI s_21 := PI.fr hG_s_21 (by decide) hPI
                        have hSI_s_21 : SI s_21 := SI.fr hG_s_21 (by decide) hSI
                        have n1 := nd_1 hND (by omega)
                        refine ok_ix ⟨by omega, by omega⟩ ?_
                        refine ok_lt fun s_22 e_s_22 => ?_
                        have hB_s_22 : BX s_22 := by rw [e_s_22]; exact pX_57 hB_s_21 (by omega)
                        have hF_s_22 : FR [46, 47, 48, 49, 50, 51, 52, 53, 54, 55, 57, 58, 60, 61] [] σ s_22 := by rw [e_s_22]; exact FR.st hF_s_21 (by decide)
                        have w_s_22_46 : (s_22.1 46 0).toInt = (s_21.1 46 0).toInt := by rw [e_s_22]; rfl
                        have w_s_22_61 : (s_22.1 61 0).toInt = (s_21.1 61 0).toInt := by rw [e_s_22]; rfl
                        have hKI_s_22 : KI s_22 := by rw [e_s_22]; exact KI.st1 (by decide) hKI_s_21
                        have hPI_s_22 : PI s_22 := by rw [e_s_22]; exact PI.st1 (by decide) hPI_s_21
                        have hSI_s_22 : SI s_22 := by rw [e_s_22]; exact SI.st1 (by decide) hSI_s_21
                        have z22 : (s_22.1 57 x1.toNatClampNeg).toInt = v_21.toInt := by rw [e_s_22, sti_s]
                        exact ok_ret ⟨hB_s_22, hF_s_22, hPI_s_22, hSI_s_22, hKI_s_22, ⟨by (try dsimp only); omega, by (try dsimp only); omega, by (try dsimp only); first | exact (by rw [← e_v_1]; exact hd_o (vs_op hV (by omega)) x_s_23.2.1 x_s_23.2.2) | exact (by rw [← e_v_1]; exact hd_1 (by omega))⟩⟩
                    · have c_25 := c_25
                      refine ok_cals (s_X1_operate (x1 := v_1) (σ := σ) hB hPI hSI hKI (by omega) (vs_op hV (by omega)) (nd_o hND (vs_op hV (by omega))) (nd_B hND)) (fun s_23 h_31 => ?_)
                      obtain ⟨hB_s_23, hG_s_23, hPI_s_23, hSI_s_23, hKI_s_23, x_s_23⟩ := h_31
                      (try dsimp only at hB_s_23 hG_s_23 hPI_s_23 hSI_s_23 hKI_s_23 x_s_23)
                      have hF_s_23 : FR [46, 47, 48, 49, 50, 51, 52, 53, 54, 55, 57, 58, 60, 61] [] σ s_23 := FR.cal hF hG_s_23 rfl rfl
                      have z57_s_23 : (s_23.1 57 x1.toNatClampNeg).toInt = (σ.1 57 x1.toNatClampNeg).toInt := by rw [hG_s_23.1 57 (by decide)]
                      exact ok_ret ⟨hB_s_23, hF_s_23, hPI_s_23, hSI_s_23, hKI_s_23, ⟨by (try dsimp only); omega, by (try dsimp only); omega, by (try dsimp only); first | exact (by rw [← e_v_1]; exact hd_o (vs_op hV (by omega)) x_s_23.2.1 x_s_23.2.2) | exact (by rw [← e_v_1]; exact hd_1 (by omega))⟩⟩

set_option maxHeartbeats 4000000 in
theorem s_X1_lift {σ : Sto} (hB : BX σ) (hPI : PI σ) (hSI : SI σ) (hGB : GB σ) : OK (f_X1_lift σ) (fun s => BX s ∧ FR [46, 47, 48, 49, 50, 51, 52, 53, 54, 55, 56, 57, 58, 59, 60, 61, 62] [] σ s ∧ PI s ∧ SI s) := by
  unfold f_X1_lift
  have hF : FR [46, 47, 48, 49, 50, 51, 52, 53, 54, 55, 56, 57, 58, 59, 60, 61, 62] [] σ σ := FR.rf
  have k_m1 : ((-1) : Int32).toInt = -1 := by decide +kernel
  have k_0 : (0 : Int32).toInt = 0 := by decide +kernel
  have k_1 : (1 : Int32).toInt = 1 := by decide +kernel
  have k_84 : (84 : Int32).toInt = 84 := by decide +kernel
  refine ok_lt fun s_1 e_s_1 => ?_
  have hB_s_1 : BX s_1 := by rw [e_s_1]; exact pX_52 hB (by omega)
  have hF_s_1 : FR [46, 47, 48, 49, 50, 51, 52, 53, 54, 55, 56, 57, 58, 59, 60, 61, 62] [] σ s_1 := by rw [e_s_1]; exact FR.st hF (by decide)
  have w_s_1_46 : (s_1.1 46 0).toInt = (σ.1 46 0).toInt := by rw [e_s_1]; rfl
  have w_s_1_52 : (s_1.1 52 0).toInt = (0 : Int32).toInt := by rw [e_s_1, sti_s]
  have w_s_1_61 : (s_1.1 61 0).toInt = (σ.1 61 0).toInt := by rw [e_s_1]; rfl
  have f_s_1_20 : (s_1.1 20 0).toInt = (σ.1 20 0).toInt := by rw [hF_s_1.1 20 (by decide)]
  have hPI_s_1 : PI s_1 := by rw [e_s_1]; exact PI.st1 (by decide) hPI
  have hSI_s_1 : SI s_1 := by rw [e_s_1]; exact SI.st1 (by decide) hSI
  have hGB_s_1 : GB s_1 := by rw [e_s_1]; exact GB.st1 (by decide) hGB
  refine ok_lt fun s_2 e_s_2 => ?_
  have hB_s_2 : BX s_2 := by rw [e_s_2]; exact pX_58 hB_s_1 (by omega)
  have hF_s_2 : FR [46, 47, 48, 49, 50, 51, 52, 53, 54, 55, 56, 57, 58, 59, 60, 61, 62] [] σ s_2 := by rw [e_s_2]; exact FR.st hF_s_1 (by decide)
  have w_s_2_46 : (s_2.1 46 0).toInt = (s_1.1 46 0).toInt := by rw [e_s_2]; rfl
  have w_s_2_52 : (s_2.1 52 0).toInt = (s_1.1 52 0).toInt := by rw [e_s_2]; rfl
  have w_s_2_61 : (s_2.1 61 0).toInt = (s_1.1 61 0).toInt := by rw [e_s_2]; rfl
  have f_s_2_20 : (s_2.1 20 0).toInt = (σ.1 20 0).toInt := by rw [hF_s_2.1 20 (by decide)]
  have hPI_s_2 : PI s_2 := by rw [e_s_2]; exact PI.st1 (by decide) hPI_s_1
  have hSI_s_2 : SI s_2 := by rw [e_s_2]; exact SI.st1 (by decide) hSI_s_1
  have hGB_s_2 : GB s_2 := by rw [e_s_2]; exact GB.st1 (by decide) hGB_s_1
  refine ok_lt fun s_3 e_s_3 => ?_
  have hB_s_3 : BX s_3 := by rw [e_s_3]; exact pX_46 hB_s_2 (by omega)
  have hF_s_3 : FR [46, 47, 48, 49, 50, 51, 52, 53, 54, 55, 56, 57, 58, 59, 60, 61, 62] [] σ s_3 := by rw [e_s_3]; exact FR.st hF_s_2 (by decide)
  have w_s_3_46 : (s_3.1 46 0).toInt = (0 : Int32).toInt := by rw [e_s_3, sti_s]
  have w_s_3_52 : (s_3.1 52 0).toInt = (s_2.1 52 0).toInt := by rw [e_s_3]; rfl
  have w_s_3_61 : (s_3.1 61 0).toInt = (s_2.1 61 0).toInt := by rw [e_s_3]; rfl
  have f_s_3_20 : (s_3.1 20 0).toInt = (σ.1 20 0).toInt := by rw [hF_s_3.1 20 (by decide)]
  have hPI_s_3 : PI s_3 := by rw [e_s_3]; exact PI.st1 (by decide) hPI_s_2
  have hSI_s_3 : SI s_3 := by rw [e_s_3]; exact SI.st1 (by decide) hSI_s_2
  have hGB_s_3 : GB s_3 := by rw [e_s_3]; exact GB.st1 (by decide) hGB_s_2
  refine ok_itr2 (fun (n : Nat) (x1_4 : Int32) (s_4 : Sto) => n = (41 - x1_4.toInt).toNat ∧ (0 ≤ x1_4.toInt ∧ x1_4.toInt ≤ 40) ∧ (BX s_4) ∧ (FR [46, 47, 48, 49, 50, 51, 52, 53, 54, 55, 56, 57, 58, 59, 60, 61, 62] [] σ s_4) ∧ (PI s_4) ∧ (SI s_4)) ?_ (n := _) ⟨rfl, (by omega), hB_s_3, hF_s_3, hPI_s_3, hSI_s_3⟩ (show _ < 10000000 by omega)
  intro a_20 n x1_4 s_4 hI ih_a_20
  obtain ⟨hn_a_20, b_x1_4, hB_s_4, hF_s_4, hPI_s_4, hSI_s_4⟩ := hI
  have f_s_4_20 : (s_4.1 20 0).toInt = (σ.1 20 0).toInt := by rw [hF_s_4.1 20 (by decide)]
  have g_2 := gX_20 hB_s_4 0
  have g_3 : (s_4.1 20 0).toInt = (σ.1 20 0).toInt := by rw [hF_s_4.1 20 (by decide)]
  have g_4 := gX_20 hB 0
  refine ok_ite (fun c_1 => ?_) (fun c_1 => ?_)
  · rw [fa_le] at c_1
    refine ok_ix ⟨by omega, by omega⟩ ?_
    have g_5 := gX_52 hB_s_4 0
    refine ok_lt fun s_6 e_s_6 => ?_
    have hB_s_6 : BX s_6 := by rw [e_s_6]; exact pX_56 hB_s_4 (by omega)
    have hF_s_6 : FR [46, 47, 48, 49, 50, 51, 52, 53, 54, 55, 56, 57, 58, 59, 60, 61, 62] [] σ s_6 := by rw [e_s_6]; exact FR.st hF_s_4 (by decide)
    have w_s_6_46 : (s_6.1 46 0).toInt = (s_4.1 46 0).toInt := by rw [e_s_6]; rfl
    have w_s_6_52 : (s_6.1 52 0).toInt = (s_4.1 52 0).toInt := by rw [e_s_6]; rfl
    have w_s_6_61 : (s_6.1 61 0).toInt = (s_4.1 61 0).toInt := by rw [e_s_6]; rfl
    have f_s_6_20 : (s_6.1 20 0).toInt = (σ.1 20 0).toInt := by rw [hF_s_6.1 20 (by decide)]
    have hPI_s_6 : PI s_6 := by rw [e_s_6]; exact PI.st1 (by decide) hPI_s_4
    have hSI_s_6 : SI s_6 := by rw [e_s_6]; exact SI.st1 (by decide) hSI_s_4
    refine ok_cals (s_X1_countUnlike  (σ := s_6) hB_s_6 hPI_s_6) (fun s_7 h_6 => ?_)
    obtain ⟨hB_s_7, hG_s_7⟩ := h_6
    (try dsimp only at hB_s_7 hG_s_7)
    have hF_s_7 : FR [46, 47, 48, 49, 50, 51, 52, 53, 54, 55, 56, 57, 58, 59, 60, 61, 62] [] σ s_7 := FR.cal hF_s_6 hG_s_7 rfl rfl
    have w_s_7_46 : (s_7.1 46 0).toInt = (s_6.1 46 0).toInt := by rw [hG_s_7.1 46 (by decide)]
    have w_s_7_52 : (s_7.1 52 0).toInt = (s_6.1 52 0).toInt := by rw [hG_s_7.1 52 (by decide)]
    have w_s_7_61 : (s_7.1 61 0).toInt = (s_6.1 61 0).toInt := by rw [hG_s_7.1 61 (by decide)]
    have f_s_7_20 : (s_7.1 20 0).toInt = (σ.1 20 0).toInt := by rw [hF_s_7.1 20 (by decide)]
    have hPI_s_7 : PI s_7 := PI.fr hG_s_7 (by decide) hPI_s_6
    have hSI_s_7 : SI s_7 := SI.fr hG_s_7 (by decide) hSI_s_6
    exact ok_ret ⟨hB_s_7, hF_s_7, hPI_s_7, hSI_s_7⟩
  · rw [fa_le] at c_1
    refine ok_ix ⟨by omega, by omega⟩ ?_
    have g_7 := gX_52 hB_s_4 0
    refine ok_lt fun s_8 e_s_8 => ?_
    have hB_s_8 : BX s_8 := by rw [e_s_8]; exact pX_56 hB_s_4 (by omega)
    have hF_s_8 : FR [46, 47, 48, 49, 50, 51, 52, 53, 54, 55, 56, 57, 58, 59, 60, 61, 62] [] σ s_8 := by rw [e_s_8]; exact FR.st hF_s_4 (by decide)
    have w_s_8_46 : (s_8.1 46 0).toInt = (s_4.1 46 0).toInt := by rw [e_s_8]; rfl
    have w_s_8_52 : (s_8.1 52 0).toInt = (s_4.1 52 0).toInt := by rw [e_s_8]; rfl
    have w_s_8_61 : (s_8.1 61 0).toInt = (s_4.1 61 0).toInt := by rw [e_s_8]; rfl
    have f_s_8_20 : (s_8.1 20 0).toInt = (σ.1 20 0).toInt := by rw [hF_s_8.1 20 (by decide)]
    have hPI_s_8 : PI s_8 := by rw [e_s_8]; exact PI.st1 (by decide) hPI_s_4
    have hSI_s_8 : SI s_8 := by rw [e_s_8]; exact SI.st1 (by decide) hSI_s_4
    obtain ⟨G1, G2, G3, G4, G5, G6⟩ := hGB x1_4.toNatClampNeg (by have := clamp_I (x := x1_4) (by omega); omega)
    refine ok_ix ⟨by omega, by omega⟩ ?_
    refine ok_lt fun s_9 e_s_9 => ?_
    have hB_s_9 : BX s_9 := by rw [e_s_9]; exact pX_57 hB_s_8 (by omega)
    have hF_s_9 : FR [46, 47, 48, 49, 50, 51, 52, 53, 54, 55, 56, 57, 58, 59, 60, 61, 62] [] σ s_9 := by rw [e_s_9]; exact FR.st hF_s_8 (by decide)
    have w_s_9_46 : (s_9.1 46 0).toInt = (s_8.1 46 0).toInt := by rw [e_s_9]; rfl
    have w_s_9_52 : (s_9.1 52 0).toInt = (s_8.1 52 0).toInt := by rw [e_s_9]; rfl
    have w_s_9_61 : (s_9.1 61 0).toInt = (s_8.1 61 0).toInt := by rw [e_s_9]; rfl
    have f_s_9_20 : (s_9.1 20 0).toInt = (σ.1 20 0).toInt := by rw [hF_s_9.1 20 (by decide)]
    have hPI_s_9 : PI s_9 := by rw [e_s_9]; exact PI.st1 (by decide) hPI_s_8
    have hSI_s_9 : SI s_9 := by rw [e_s_9]; exact SI.st1 (by decide) hSI_s_8
    have z9 : (s_9.1 57 x1_4.toNatClampNeg).toInt = -1 := by rw [e_s_9, sti_s]; exact k_m1
    refine ok_lt fun s_10 e_s_10 => ?_
    have hB_s_10 : BX s_10 := by rw [e_s_10]; exact pX_61 hB_s_9 (by omega)
    have hF_s_10 : FR [46, 47, 48, 49, 50, 51, 52, 53, 54, 55, 56, 57, 58, 59, 60, 61, 62] [] σ s_10 := by rw [e_s_10]; exact FR.st hF_s_9 (by decide)
    have w_s_10_46 : (s_10.1 46 0).toInt = (s_9.1 46 0).toInt := by rw [e_s_10]; rfl
    have w_s_10_52 : (s_10.1 52 0).toInt = (s_9.1 52 0).toInt := by rw [e_s_10]; rfl
    have w_s_10_61 : (s_10.1 61 0).toInt = (0 : Int32).toInt := by rw [e_s_10, sti_s]
    have f_s_10_20 : (s_10.1 20 0).toInt = (σ.1 20 0).toInt := by rw [hF_s_10.1 20 (by decide)]
    have hPI_s_10 : PI s_10 := by rw [e_s_10]; exact PI.st1 (by decide) hPI_s_9
    have hSI_s_10 : SI s_10 := by rw [e_s_10]; exact SI.st1 (by decide) hSI_s_9
    have z10 : (s_10.1 57 x1_4.toNatClampNeg).toInt = -1 := by rw [e_s_10]; exact z9
    have z61 : (s_10.1 61 0).toInt = 0 := by rw [e_s_10, sti_s]; exact k_0
    have hKI_s_10 : KI s_10 := fun k hk => by omega
    have g46 := gX_46 hB_s_10 0
    refine ok_itr2 (fun (n : Nat) (x2_11 : Int32) (s_11 : Sto) => n = (7 - x2_11.toInt).toNat ∧ (0 ≤ x2_11.toInt ∧ x2_11.toInt ≤ 6) ∧ (BX s_11) ∧ (FR [46, 47, 48, 49, 50, 51, 52, 53, 54, 55, 56, 57, 58, 59, 60, 61, 62] [] σ s_11) ∧ (PI s_11) ∧ (SI s_11) ∧ (KI s_11) ∧ ((s_11.1 61 0).toInt = x2_11.toInt) ∧ (x2_11.toInt ≤ (σ.1 8 (σ.1 21 x1_4.toNatClampNeg).toNatClampNeg).toInt) ∧ ((s_11.1 57 x1_4.toNatClampNeg).toInt < (s_11.1 46 0).toInt)) ?_ (n := _) ⟨rfl, (by omega), hB_s_10, hF_s_10, hPI_s_10, hSI_s_10, hKI_s_10, (by omega), (by omega), (by omega)⟩ (show _ < 10000000 by omega)
    intro a_55 n x2_11 s_11 hI ih_a_55
    obtain ⟨hn_a_55, b_x2_11, hB_s_11, hF_s_11, hPI_s_11, hSI_s_11, hKI_s_11, hht, hle, htb⟩ := hI
    have f_s_11_20 : (s_11.1 20 0).toInt = (σ.1 20 0).toInt := by rw [hF_s_11.1 20 (by decide)]
    refine ok_ix ⟨by omega, by omega⟩ ?_
    have g_8 := gX_21 hB_s_11 (x1_4.toNatClampNeg)
    refine ok_lt fun v_12 e_v_12 => ?_
    have b_v_12 : 0 ≤ v_12.toInt ∧ v_12.toInt ≤ 39 := by rw [e_v_12]; exact gX_21 hB_s_11 _
    have q_v_12 : v_12.toInt = (σ.1 21 (x1_4.toNatClampNeg)).toInt := by rw [e_v_12, hF_s_11.1 21 (by decide)]
    refine ok_ix ⟨by omega, by omega⟩ ?_
    have g_9 := gX_8 hB_s_11 (v_12.toNatClampNeg)
    refine ok_lt fun v_13 e_v_13 => ?_
    have b_v_13 : (-1) ≤ v_13.toInt ∧ v_13.toInt ≤ 6 := by rw [e_v_13]; exact gX_8 hB_s_11 _
    have e13 : v_13.toInt = (σ.1 8 (σ.1 21 x1_4.toNatClampNeg).toNatClampNeg).toInt := by rw [e_v_13, e_v_12, hF_s_11.1 8 (by decide), hF_s_11.1 21 (by decide)]
    refine ok_ite (fun c_10 => ?_) (fun c_10 => ?_)
    · rw [fa_le] at c_10
      refine ok_ix ⟨by omega, by omega⟩ ?_
      refine ok_lt fun v_15 e_v_15 => ?_
      have b_v_15 : 0 ≤ v_15.toInt ∧ v_15.toInt ≤ 39 := by rw [e_v_15]; exact gX_21 hB_s_11 _
      have q_v_15 : v_15.toInt = (σ.1 21 (x1_4.toNatClampNeg)).toInt := by rw [e_v_15, hF_s_11.1 21 (by decide)]
      have e15 : v_15 = σ.1 21 x1_4.toNatClampNeg := by rw [e_v_15, hF_s_11.1 21 (by decide)]
      refine ok_itr2 (fun (n : Nat) (x2_16 : Int32) (s_16 : Sto) => n = (41 - x2_16.toInt).toNat ∧ (0 ≤ x2_16.toInt ∧ x2_16.toInt ≤ 40) ∧ (BX s_16) ∧ (FR [46, 47, 48, 49, 50, 51, 52, 53, 54, 55, 56, 57, 58, 59, 60, 61, 62] [] σ s_16) ∧ (PI s_16) ∧ (SI s_16) ∧ (KI s_16) ∧ ((s_16.1 61 0).toInt ≤ 6) ∧ ((σ.1 21 x1_4.toNatClampNeg).toInt ≤ x2_16.toInt) ∧ ((s_16.1 57 x1_4.toNatClampNeg).toInt < (s_16.1 46 0).toInt) ∧ (x2_16.toInt ≤ (σ.1 22 x1_4.toNatClampNeg).toInt → (s_16.1 61 0).toInt = (σ.1 8 x2_16.toNatClampNeg).toInt)) ?_ (n := _) ⟨rfl, (by omega), hB_s_11, hF_s_11, hPI_s_11, hSI_s_11, hKI_s_11, (by omega), (by rw [e15]; exact Int.le_refl _), (by omega), (fun _ => by rw [e15]; omega)⟩ (show _ < 10000000 by omega)
      intro a_107 n x2_16 s_16 hI ih_a_107
      obtain ⟨hn_a_107, b_x2_16, hB_s_16, hF_s_16, hPI_s_16, hSI_s_16, hKI_s_16, hh6, hfi, htb, hst⟩ := hI
      have f_s_16_20 : (s_16.1 20 0).toInt = (σ.1 20 0).toInt := by rw [hF_s_16.1 20 (by decide)]
      refine ok_ix ⟨by omega, by omega⟩ ?_
      have g_11 := gX_22 hB_s_16 (x1_4.toNatClampNeg)
      refine ok_lt fun v_17 e_v_17 => ?_
      have b_v_17 : 0 ≤ v_17.toInt ∧ v_17.toInt ≤ 39 := by rw [e_v_17]; exact gX_22 hB_s_16 _
      have q_v_17 : v_17.toInt = (σ.1 22 (x1_4.toNatClampNeg)).toInt := by rw [e_v_17, hF_s_16.1 22 (by decide)]
      have e17 : v_17.toInt = (σ.1 22 x1_4.toNatClampNeg).toInt := by rw [e_v_17, hF_s_16.1 22 (by decide)]
      refine ok_ite (fun c_12 => ?_) (fun c_12 => ?_)
      · rw [fa_lt] at c_12
        refine ok_ix ⟨by omega, by omega⟩ ?_
        refine ok_lt fun v_19 e_v_19 => ?_
        have b_v_19 : 0 ≤ v_19.toInt ∧ v_19.toInt ≤ 39 := by rw [e_v_19]; exact gX_22 hB_s_16 _
        have q_v_19 : v_19.toInt = (σ.1 22 (x1_4.toNatClampNeg)).toInt := by rw [e_v_19, hF_s_16.1 22 (by decide)]
        refine ok_calp (s_X3_ends (x1 := v_19) (σ := s_16) hB_s_16 (by omega)) (fun v_20 h_13 => ?_)
        obtain ⟨b_v_20, x_v_20⟩ := h_13
        (try dsimp only at b_v_20 x_v_20)
        refine ok_jn ?_
        refine ok_ite (fun c_14 => ?_) (fun c_14 => ?_)
        · rw [fa_eq] at c_14
          refine ok_cals (s_X1_handOver (x1 := x1_4) (σ := s_16) hB_s_16 hPI_s_16 hSI_s_16 hKI_s_16 (by omega) (by omega) (by omega)) (fun s_24 h_15 => ?_)
          obtain ⟨hB_s_24, hG_s_24, hPI_s_24, hSI_s_24, hKI_s_24, x_s_24⟩ := h_15
          (try dsimp only at hB_s_24 hG_s_24 hPI_s_24 hSI_s_24 hKI_s_24 x_s_24)
          have hF_s_24 : FR [46, 47, 48, 49, 50, 51, 52, 53, 54, 55, 56, 57, 58, 59, 60, 61, 62] [] σ s_24 := FR.cal hF_s_16 hG_s_24 rfl rfl
          have w_s_24_61 : (s_24.1 61 0).toInt = (s_16.1 61 0).toInt := by rw [hG_s_24.1 61 (by decide)]
          have f_s_24_20 : (s_24.1 20 0).toInt = (σ.1 20 0).toInt := by rw [hF_s_24.1 20 (by decide)]
          obtain ⟨t_16, ht_16, g_16⟩ : ∃ t : Int, (x1_4 + 1).toInt = t ∧ t = x1_4.toInt + (1 : Int32).toInt := ⟨_, rfl, by have h9 := fb_addI (x := x1_4) (y := (1 : Int32)) (by omega) (by omega); exact h9⟩
          refine ok_lt fun x1_22 e_x1_22 => ?_
          have q_x1_22 : x1_22.toInt = t_16 := by rw [e_x1_22]; exact ht_16
          exact ih_a_20 _ x1_22 s_24 (by rw [hn_a_20]; omega) ⟨rfl, (by omega), hB_s_24, hF_s_24, hPI_s_24, hSI_s_24⟩
        · rw [fa_eq] at c_14
          obtain ⟨t_17, ht_17, g_17⟩ : ∃ t : Int, (x1_4 + 1).toInt = t ∧ t = x1_4.toInt + (1 : Int32).toInt := ⟨_, rfl, by have h9 := fb_addI (x := x1_4) (y := (1 : Int32)) (by omega) (by omega); exact h9⟩
          refine ok_lt fun x1_22 e_x1_22 => ?_
          have q_x1_22 : x1_22.toInt = t_17 := by rw [e_x1_22]; exact ht_17
          exact ih_a_20 _ x1_22 s_16 (by rw [hn_a_20]; omega) ⟨rfl, (by omega), hB_s_16, hF_s_16, hPI_s_16, hSI_s_16⟩
      · rw [fa_lt] at c_12
        refine ok_cals (s_X1_step (x1 := x1_4) (x2 := x2_16) (σ := s_16) hB_s_16 hPI_s_16 hSI_s_16 hKI_s_16 (by omega) (by omega) (by rw [hF_s_16.1 6 (by decide), hF_s_16.1 7 (by decide)]; exact (G6 x2_16.toNatClampNeg (by have q9 := clamp_I (x := x2_16) (by omega); omega) (by have q9 := clamp_I (x := x2_16) (by omega); omega)).1) (by rw [hF_s_16.1 6 (by decide), hst (by omega)]; exact (G6 x2_16.toNatClampNeg (by have q9 := clamp_I (x := x2_16) (by omega); omega) (by have q9 := clamp_I (x := x2_16) (by omega); omega)).2.1) (by omega)) (fun s_25 h_18 => ?_)
        obtain ⟨hB_s_25, hG_s_25, hPI_s_25, hSI_s_25, hKI_s_25, x_s_25⟩ := h_18
        (try dsimp only at hB_s_25 hG_s_25 hPI_s_25 hSI_s_25 hKI_s_25 x_s_25)
        have hF_s_25 : FR [46, 47, 48, 49, 50, 51, 52, 53, 54, 55, 56, 57, 58, 59, 60, 61, 62] [] σ s_25 := FR.cal hF_s_16 hG_s_25 rfl rfl
        have f_s_25_20 : (s_25.1 20 0).toInt = (σ.1 20 0).toInt := by rw [hF_s_25.1 20 (by decide)]
        have M := G6 x2_16.toNatClampNeg (by have q9 := clamp_I (x := x2_16) (by omega); omega) (by have q9 := clamp_I (x := x2_16) (by omega); omega)
        have hd : HD (σ.1 6 x2_16.toNatClampNeg).toInt (s_16.1 61 0).toInt (s_25.1 61 0).toInt := by rw [← hF_s_16.1 6 (by decide)]; exact x_s_25.2.2
        have hn6 : (s_25.1 61 0).toInt ≤ 6 := nd_6 (show ND (σ.1 6 x2_16.toNatClampNeg).toInt (s_16.1 61 0).toInt by rw [hst (by omega)]; exact M.2.1) hd
        have hd2 : x2_16.toInt < (σ.1 22 x1_4.toNatClampNeg).toInt → (s_25.1 61 0).toInt = (σ.1 8 (x2_16.toNatClampNeg + 1)).toInt := fun q => hd_fun (by rw [← hst (by omega)]; exact hd) (M.2.2 (by have q9 := clamp_I (x := x2_16) (by omega); omega))
        obtain ⟨t_19, ht_19, g_19⟩ : ∃ t : Int, (x2_16 + 1).toInt = t ∧ t = x2_16.toInt + (1 : Int32).toInt := ⟨_, rfl, by have h9 := fb_addI (x := x2_16) (y := (1 : Int32)) (by omega) (by omega); exact h9⟩
        refine ok_lt fun x2_26 e_x2_26 => ?_
        have q_x2_26 : x2_26.toInt = t_19 := by rw [e_x2_26]; exact ht_19
        exact ih_a_107 _ x2_26 s_25 (by rw [hn_a_107]; omega) ⟨rfl, (by omega), hB_s_25, hF_s_25, hPI_s_25, hSI_s_25, hKI_s_25, (by omega), (by omega), (by omega), (fun q => by rw [show x2_26.toNatClampNeg = x2_16.toNatClampNeg + 1 by have := clamp_I (x := x2_16) (by omega); have := clamp_I (x := x2_26) (by omega); omega]; exact hd2 (by omega))⟩
    · rw [fa_le] at c_10
      refine ok_calv (s_X7_make (x1 := (84 : Int32)) (x2 := x2_11) (x3 := (0 : Int32)) (σ := s_11) hB_s_11 hPI_s_11 (by omega) (by omega) (by omega) (t1_T (by omega) (by omega))) (fun v_27 s_27 h_20 => ?_)
      obtain ⟨b_v_27, hB_s_27, hG_s_27, hPI_s_27, x_s_27⟩ := h_20
      (try dsimp only at b_v_27 hB_s_27 hG_s_27 hPI_s_27 x_s_27)
      have hF_s_27 : FR [46, 47, 48, 49, 50, 51, 52, 53, 54, 55, 56, 57, 58, 59, 60, 61, 62] [] σ s_27 := FR.cal hF_s_11 hG_s_27 rfl rfl
      have w_s_27_52 : (s_27.1 52 0).toInt = (s_11.1 52 0).toInt := by rw [hG_s_27.1 52 (by decide)]
      have w_s_27_61 : (s_27.1 61 0).toInt = (s_11.1 61 0).toInt := by rw [hG_s_27.1 61 (by decide)]
      have f_s_27_20 : (s_27.1 20 0).toInt = (σ.1 20 0).toInt := by rw [hF_s_27.1 20 (by decide)]
      have hSI_s_27 : SI s_27 := SI.fr hG_s_27 (by decide) hSI_s_11
      have hKI_s_27 : KI s_27 := KI.up hKI_s_11 (hG_s_27.1 60 (by decide)) (hG_s_27.1 61 (by decide)) x_s_27.1
      have z57_s_27 : (s_27.1 57 x1_4.toNatClampNeg).toInt = (s_11.1 57 x1_4.toNatClampNeg).toInt := by rw [hG_s_27.1 57 (by decide)]
      refine ok_cals (s_X1_push (x1 := v_27) (σ := s_27) hB_s_27 hKI_s_27 (by omega) (by omega)) (fun s_28 h_21 => ?_)
      obtain ⟨hB_s_28, hG_s_28, hKI_s_28, x_s_28⟩ := h_21
      (try dsimp only at hB_s_28 hG_s_28 hKI_s_28 x_s_28)
      have hF_s_28 : FR [46, 47, 48, 49, 50, 51, 52, 53, 54, 55, 56, 57, 58, 59, 60, 61, 62] [] σ s_28 := FR.cal hF_s_27 hG_s_28 rfl rfl
      have w_s_28_46 : (s_28.1 46 0).toInt = (s_27.1 46 0).toInt := by rw [hG_s_28.1 46 (by decide)]
      have w_s_28_52 : (s_28.1 52 0).toInt = (s_27.1 52 0).toInt := by rw [hG_s_28.1 52 (by decide)]
      have f_s_28_20 : (s_28.1 20 0).toInt = (σ.1 20 0).toInt := by rw [hF_s_28.1 20 (by decide)]
      have hPI_s_28 : PI s_28 := PI.fr hG_s_28 (by decide) hPI_s_27
      have hSI_s_28 : SI s_28 := SI.fr hG_s_28 (by decide) hSI_s_27
      have z57_s_28 : (s_28.1 57 x1_4.toNatClampNeg).toInt = (s_27.1 57 x1_4.toNatClampNeg).toInt := by rw [hG_s_28.1 57 (by decide)]
      obtain ⟨t_22, ht_22, g_22⟩ : ∃ t : Int, (x2_11 + 1).toInt = t ∧ t = x2_11.toInt + (1 : Int32).toInt := ⟨_, rfl, by have h9 := fb_addI (x := x2_11) (y := (1 : Int32)) (by omega) (by omega); exact h9⟩
      refine ok_lt fun x2_29 e_x2_29 => ?_
      have q_x2_29 : x2_29.toInt = t_22 := by rw [e_x2_29]; exact ht_22
      exact ih_a_55 _ x2_29 s_28 (by rw [hn_a_55]; omega) ⟨rfl, (by omega), hB_s_28, hF_s_28, hPI_s_28, hSI_s_28, hKI_s_28, (by omega), (by omega), (by omega)⟩

set_option maxHeartbeats 4000000 in
theorem s_X10_assumeAll {σ : Sto} (hB : BX σ) : OK (f_X10_assumeAll σ) (fun s => BX s ∧ FR [63, 64, 65] [] σ s) := by
  unfold f_X10_assumeAll
  have hF : FR [63, 64, 65] [] σ σ := FR.rf
  have k_0 : (0 : Int32).toInt = 0 := by decide +kernel
  have k_1 : (1 : Int32).toInt = 1 := by decide +kernel
  have k_6 : (6 : Int32).toInt = 6 := by decide +kernel
  have k_160 : (160 : Int32).toInt = 160 := by decide +kernel
  refine ok_itr2 (fun (n : Nat) (x1_1 : Int32) (s_1 : Sto) => n = (7 - x1_1.toInt).toNat ∧ (0 ≤ x1_1.toInt ∧ x1_1.toInt ≤ 6) ∧ (BX s_1) ∧ (FR [63, 64, 65] [] σ s_1)) ?_ (n := _) ⟨rfl, (by omega), hB, hF⟩ (show _ < 10000000 by omega)
  intro a_2 n x1_1 s_1 hI ih_a_2
  obtain ⟨hn_a_2, b_x1_1, hB_s_1, hF_s_1⟩ := hI
  refine ok_ite (fun c_1 => ?_) (fun c_1 => ?_)
  · rw [fa_le] at c_1
    refine ok_itr2 (fun (n : Nat) (x1_3 : Int32) (s_3 : Sto) => n = (7 - x1_3.toInt).toNat ∧ (0 ≤ x1_3.toInt ∧ x1_3.toInt ≤ 6) ∧ (BX s_3) ∧ (FR [63, 64, 65] [] σ s_3)) ?_ (n := _) ⟨rfl, (by omega), hB_s_1, hF_s_1⟩ (show _ < 10000000 by omega)
    intro a_32 n x1_3 s_3 hI ih_a_32
    obtain ⟨hn_a_32, b_x1_3, hB_s_3, hF_s_3⟩ := hI
    refine ok_ite (fun c_2 => ?_) (fun c_2 => ?_)
    · rw [fa_le] at c_2
      refine ok_itr2 (fun (n : Nat) (x1_5 : Int32) (s_5 : Sto) => n = (161 - x1_5.toInt).toNat ∧ (0 ≤ x1_5.toInt ∧ x1_5.toInt ≤ 160) ∧ (BX s_5) ∧ (FR [63, 64, 65] [] σ s_5)) ?_ (n := _) ⟨rfl, (by omega), hB_s_3, hF_s_3⟩ (show _ < 10000000 by omega)
      intro a_53 n x1_5 s_5 hI ih_a_53
      obtain ⟨hn_a_53, b_x1_5, hB_s_5, hF_s_5⟩ := hI
      refine ok_ite (fun c_3 => ?_) (fun c_3 => ?_)
      · rw [fa_le] at c_3
        refine ok_itr2 (fun (n : Nat) (x1_7 : Int32) (s_7 : Sto) => n = (121 - x1_7.toInt).toNat ∧ (0 ≤ x1_7.toInt ∧ x1_7.toInt ≤ 120) ∧ (BX s_7) ∧ (FR [63, 64, 65] [] σ s_7)) ?_ (n := _) ⟨rfl, (by omega), hB_s_5, hF_s_5⟩ (show _ < 10000000 by omega)
        intro a_75 n x1_7 s_7 hI ih_a_75
        obtain ⟨hn_a_75, b_x1_7, hB_s_7, hF_s_7⟩ := hI
        have g_5 := gX_27 hB_s_7 0
        have g_6 : (s_7.1 27 0).toInt = (σ.1 27 0).toInt := by rw [hF_s_7.1 27 (by decide)]
        have g_7 := gX_27 hB 0
        refine ok_ite (fun c_4 => ?_) (fun c_4 => ?_)
        · rw [fa_le] at c_4
          exact ok_ret ⟨hB_s_7, hF_s_7⟩
        · rw [fa_le] at c_4
          refine ok_ix ⟨by omega, by omega⟩ ?_
          have g_8 := gX_31 hB_s_7 (x1_7.toNatClampNeg)
          refine ok_lt fun v_9 e_v_9 => ?_
          have b_v_9 : 0 ≤ v_9.toInt ∧ v_9.toInt ≤ 1 := by rw [e_v_9]; exact gX_31 hB_s_7 _
          refine ok_jn ?_
          refine ok_ite (fun c_9 => ?_) (fun c_9 => ?_)
          · rw [fa_eq] at c_9
            obtain ⟨t_10, ht_10, g_10⟩ : ∃ t : Int, (x1_7 + 1).toInt = t ∧ t = x1_7.toInt + (1 : Int32).toInt := ⟨_, rfl, by have h9 := fb_addI (x := x1_7) (y := (1 : Int32)) (by omega) (by omega); exact h9⟩
            refine ok_lt fun x1_11 e_x1_11 => ?_
            have q_x1_11 : x1_11.toInt = t_10 := by rw [e_x1_11]; exact ht_10
            exact ih_a_75 _ x1_11 s_7 (by rw [hn_a_75]; omega) ⟨rfl, (by omega), hB_s_7, hF_s_7⟩
          · rw [fa_eq] at c_9
            refine ok_ix ⟨by omega, by omega⟩ ?_
            refine ok_lt fun s_13 e_s_13 => ?_
            have hB_s_13 : BX s_13 := by rw [e_s_13]; exact pX_64 hB_s_7 (by omega)
            have hF_s_13 : FR [63, 64, 65] [] σ s_13 := by rw [e_s_13]; exact FR.st hF_s_7 (by decide)
            obtain ⟨t_11, ht_11, g_11⟩ : ∃ t : Int, (x1_7 + 1).toInt = t ∧ t = x1_7.toInt + (1 : Int32).toInt := ⟨_, rfl, by have h9 := fb_addI (x := x1_7) (y := (1 : Int32)) (by omega) (by omega); exact h9⟩
            refine ok_lt fun x1_11 e_x1_11 => ?_
            have q_x1_11 : x1_11.toInt = t_11 := by rw [e_x1_11]; exact ht_11
            exact ih_a_75 _ x1_11 s_13 (by rw [hn_a_75]; omega) ⟨rfl, (by omega), hB_s_13, hF_s_13⟩
      · rw [fa_le] at c_3
        refine ok_ix ⟨by omega, by omega⟩ ?_
        refine ok_lt fun s_14 e_s_14 => ?_
        have hB_s_14 : BX s_14 := by rw [e_s_14]; exact pX_65 hB_s_5 (by omega)
        have hF_s_14 : FR [63, 64, 65] [] σ s_14 := by rw [e_s_14]; exact FR.st hF_s_5 (by decide)
        obtain ⟨t_12, ht_12, g_12⟩ : ∃ t : Int, (x1_5 + 1).toInt = t ∧ t = x1_5.toInt + (1 : Int32).toInt := ⟨_, rfl, by have h9 := fb_addI (x := x1_5) (y := (1 : Int32)) (by omega) (by omega); exact h9⟩
        refine ok_lt fun x1_15 e_x1_15 => ?_
        have q_x1_15 : x1_15.toInt = t_12 := by rw [e_x1_15]; exact ht_12
        exact ih_a_53 _ x1_15 s_14 (by rw [hn_a_53]; omega) ⟨rfl, (by omega), hB_s_14, hF_s_14⟩
    · rw [fa_le] at c_2
      refine ok_ix ⟨by omega, by omega⟩ ?_
      refine ok_lt fun s_16 e_s_16 => ?_
      have hB_s_16 : BX s_16 := by rw [e_s_16]; exact pX_64 hB_s_3 (by omega)
      have hF_s_16 : FR [63, 64, 65] [] σ s_16 := by rw [e_s_16]; exact FR.st hF_s_3 (by decide)
      obtain ⟨t_13, ht_13, g_13⟩ : ∃ t : Int, (x1_3 + 1).toInt = t ∧ t = x1_3.toInt + (1 : Int32).toInt := ⟨_, rfl, by have h9 := fb_addI (x := x1_3) (y := (1 : Int32)) (by omega) (by omega); exact h9⟩
      refine ok_lt fun x1_17 e_x1_17 => ?_
      have q_x1_17 : x1_17.toInt = t_13 := by rw [e_x1_17]; exact ht_13
      exact ih_a_32 _ x1_17 s_16 (by rw [hn_a_32]; omega) ⟨rfl, (by omega), hB_s_16, hF_s_16⟩
  · rw [fa_le] at c_1
    refine ok_jn ?_
    refine ok_ite (fun c_14 => ?_) (fun c_14 => ?_)
    · rw [fa_le] at c_14
      refine ok_bz (by rw [fa_eq, fa_eq]; omega) ?_
      refine ok_ix ⟨by omega, by omega⟩ ?_
      refine ok_lt fun s_19 e_s_19 => ?_
      have hB_s_19 : BX s_19 := by rw [e_s_19]; exact pX_63 hB_s_1 (by omega)
      have hF_s_19 : FR [63, 64, 65] [] σ s_19 := by rw [e_s_19]; exact FR.st hF_s_1 (by decide)
      obtain ⟨t_15, ht_15, g_15⟩ : ∃ t : Int, (x1_1 + 1).toInt = t ∧ t = x1_1.toInt + (1 : Int32).toInt := ⟨_, rfl, by have h9 := fb_addI (x := x1_1) (y := (1 : Int32)) (by omega) (by omega); exact h9⟩
      refine ok_lt fun x1_21 e_x1_21 => ?_
      have q_x1_21 : x1_21.toInt = t_15 := by rw [e_x1_21]; exact ht_15
      exact ih_a_2 _ x1_21 s_19 (by rw [hn_a_2]; omega) ⟨rfl, (by omega), hB_s_19, hF_s_19⟩
    · rw [fa_le] at c_14
      refine ok_bz (by rw [fa_eq, fa_eq]; omega) ?_
      refine ok_ix ⟨by omega, by omega⟩ ?_
      refine ok_lt fun s_19 e_s_19 => ?_
      have hB_s_19 : BX s_19 := by rw [e_s_19]; exact pX_63 hB_s_1 (by omega)
      have hF_s_19 : FR [63, 64, 65] [] σ s_19 := by rw [e_s_19]; exact FR.st hF_s_1 (by decide)
      obtain ⟨t_16, ht_16, g_16⟩ : ∃ t : Int, (x1_1 + 1).toInt = t ∧ t = x1_1.toInt + (1 : Int32).toInt := ⟨_, rfl, by have h9 := fb_addI (x := x1_1) (y := (1 : Int32)) (by omega) (by omega); exact h9⟩
      refine ok_lt fun x1_21 e_x1_21 => ?_
      have q_x1_21 : x1_21.toInt = t_16 := by rw [e_x1_21]; exact ht_16
      exact ih_a_2 _ x1_21 s_19 (by rw [hn_a_2]; omega) ⟨rfl, (by omega), hB_s_19, hF_s_19⟩

set_option maxHeartbeats 4000000 in
theorem s_X10_holds {x1 : Int32} {σ : Sto} (hB : BX σ) (hPI : PI σ) (p_x1 : 0 ≤ x1.toInt ∧ x1.toInt ≤ 511) : OK (f_X10_holds x1 σ) (fun v => (0 ≤ v.toInt ∧ v.toInt ≤ 1)) := by
  unfold f_X10_holds
  have hF : FR [] [] σ σ := FR.rf
  have k_0 : (0 : Int32).toInt = 0 := by decide +kernel
  have k_1 : (1 : Int32).toInt = 1 := by decide +kernel
  have k_84 : (84 : Int32).toInt = 84 := by decide +kernel
  have k_88 : (88 : Int32).toInt = 88 := by decide +kernel
  have k_107 : (107 : Int32).toInt = 107 := by decide +kernel
  have k_108 : (108 : Int32).toInt = 108 := by decide +kernel
  have k_160 : (160 : Int32).toInt = 160 := by decide +kernel
  refine ok_ix ⟨by omega, by omega⟩ ?_
  have g_1 := gX_48 hB (x1.toNatClampNeg)
  refine ok_lt fun v_1 e_v_1 => ?_
  have b_v_1 : 0 ≤ v_1.toInt ∧ v_1.toInt ≤ 999 := by rw [e_v_1]; exact gX_48 hB _
  refine ok_ix ⟨by omega, by omega⟩ ?_
  have g_2 := gX_47 hB (x1.toNatClampNeg)
  refine ok_lt fun v_2 e_v_2 => ?_
  have b_v_2 : 0 ≤ v_2.toInt ∧ v_2.toInt ≤ 255 := by rw [e_v_2]; exact gX_47 hB _
  have y2 : v_2.toInt = 108 → v_1.toInt ≤ 5 := by rw [e_v_2, e_v_1]; exact (hPI _).2.1
  have y3 : v_2.toInt = 84 → v_1.toInt ≤ 5 := by rw [e_v_2, e_v_1]; exact (hPI _).2.2.1
  refine ok_ite (fun c_3 => ?_) (fun c_3 => ?_)
  · have c_3 := c_3
    exact ok_ret (by (try dsimp only); omega)
  · have c_3 := c_3
    refine ok_ite (fun c_4 => ?_) (fun c_4 => ?_)
    · have c_4 := c_4
      refine ok_ix ⟨by omega, by omega⟩ ?_
      have g_5 := gX_64 hB (v_1.toNatClampNeg)
      refine ok_lt fun v_4 e_v_4 => ?_
      have b_v_4 : 0 ≤ v_4.toInt ∧ v_4.toInt ≤ 1 := by rw [e_v_4]; exact gX_64 hB _
      refine ok_bz (by rw [fa_eq, fa_eq]; omega) ?_
      exact ok_ret (by (try dsimp only); omega)
    · have c_4 := c_4
      refine ok_ite (fun c_6 => ?_) (fun c_6 => ?_)
      · have c_6 := c_6
        refine ok_jn ?_
        refine ok_ite (fun c_7 => ?_) (fun c_7 => ?_)
        · rw [fa_le] at c_7
          exact ok_ret (by (try dsimp only); omega)
        · rw [fa_le] at c_7
          refine ok_ix ⟨by omega, by omega⟩ ?_
          have g_8 := gX_65 hB (v_1.toNatClampNeg)
          refine ok_lt fun v_8 e_v_8 => ?_
          have b_v_8 : 0 ≤ v_8.toInt ∧ v_8.toInt ≤ 1 := by rw [e_v_8]; exact gX_65 hB _
          refine ok_ite (fun c_9 => ?_) (fun c_9 => ?_)
          · rw [fa_eq] at c_9
            exact ok_ret (by (try dsimp only); omega)
          · rw [fa_eq] at c_9
            exact ok_ret (by (try dsimp only); omega)
      · have c_6 := c_6
        refine ok_ite (fun c_10 => ?_) (fun c_10 => ?_)
        · have c_10 := c_10
          refine ok_ite (fun c_11 => ?_) (fun c_11 => ?_)
          · rw [fa_lt] at c_11
            exact ok_ret (by (try dsimp only); omega)
          · rw [fa_lt] at c_11
            exact ok_ret (by (try dsimp only); omega)
        · have c_10 := c_10
          refine ok_ite (fun c_12 => ?_) (fun c_12 => ?_)
          · have c_12 := c_12
            refine ok_ix ⟨by omega, by omega⟩ ?_
            have g_13 := gX_63 hB (v_1.toNatClampNeg)
            refine ok_lt fun v_11 e_v_11 => ?_
            have b_v_11 : 0 ≤ v_11.toInt ∧ v_11.toInt ≤ 1 := by rw [e_v_11]; exact gX_63 hB _
            refine ok_bz (by rw [fa_eq, fa_eq]; omega) ?_
            exact ok_ret (by (try dsimp only); omega)
          · have c_12 := c_12
            exact ok_ret (by (try dsimp only); omega)

set_option maxHeartbeats 4000000 in
theorem s_X10_isTaken {x1 : Int32} {σ : Sto} (hB : BX σ) (hSI : SI σ) (p_x1 : 0 ≤ x1.toInt ∧ x1.toInt ≤ 319) (hk : (σ.1 53 x1.toNatClampNeg).toInt ≤ 2) : OK (f_X10_isTaken x1 σ) (fun v => (0 ≤ v.toInt ∧ v.toInt ≤ 1) ∧ ((v.toInt = 1 → (σ.1 53 x1.toNatClampNeg).toInt = 2 → (σ.1 54 x1.toNatClampNeg).toInt < 160))) := by
  unfold f_X10_isTaken
  have hF : FR [] [] σ σ := FR.rf
  have k_0 : (0 : Int32).toInt = 0 := by decide +kernel
  have k_1 : (1 : Int32).toInt = 1 := by decide +kernel
  have k_160 : (160 : Int32).toInt = 160 := by decide +kernel
  refine ok_ix ⟨by omega, by omega⟩ ?_
  have g_1 := gX_54 hB (x1.toNatClampNeg)
  refine ok_lt fun v_1 e_v_1 => ?_
  have b_v_1 : (-1) ≤ v_1.toInt ∧ v_1.toInt ≤ 160 := by rw [e_v_1]; exact gX_54 hB _
  refine ok_ix ⟨by omega, by omega⟩ ?_
  have g_2 := gX_53 hB (x1.toNatClampNeg)
  refine ok_lt fun v_2 e_v_2 => ?_
  have b_v_2 : 0 ≤ v_2.toInt ∧ v_2.toInt ≤ 6 := by rw [e_v_2]; exact gX_53 hB _
  have z1 : v_1.toInt = (σ.1 54 x1.toNatClampNeg).toInt := by rw [e_v_1]
  have z2 : v_2.toInt = (σ.1 53 x1.toNatClampNeg).toInt := by rw [e_v_2]
  have y1 := (hSI x1.toNatClampNeg).1
  have y2 := (hSI x1.toNatClampNeg).2.1
  have y3 := (hSI x1.toNatClampNeg).2.2.1
  refine ok_ite (fun c_3 => ?_) (fun c_3 => ?_)
  · have c_3 := c_3
    refine ok_ix ⟨by omega, by omega⟩ ?_
    have g_4 := gX_63 hB (v_1.toNatClampNeg)
    refine ok_lt fun v_4 e_v_4 => ?_
    have b_v_4 : 0 ≤ v_4.toInt ∧ v_4.toInt ≤ 1 := by rw [e_v_4]; exact gX_63 hB _
    refine ok_bz (by rw [fa_eq, fa_eq]; omega) ?_
    exact ok_ret ⟨(by (try dsimp only); omega), (by (try dsimp only); omega)⟩
  · have c_3 := c_3
    refine ok_ite (fun c_5 => ?_) (fun c_5 => ?_)
    · have c_5 := c_5
      refine ok_ix ⟨by omega, by omega⟩ ?_
      have g_6 := gX_64 hB (v_1.toNatClampNeg)
      refine ok_lt fun v_6 e_v_6 => ?_
      have b_v_6 : 0 ≤ v_6.toInt ∧ v_6.toInt ≤ 1 := by rw [e_v_6]; exact gX_64 hB _
      refine ok_bz (by rw [fa_eq, fa_eq]; omega) ?_
      exact ok_ret ⟨(by (try dsimp only); omega), (by (try dsimp only); omega)⟩
    · have c_5 := c_5
      refine ok_jn ?_
      refine ok_ite (fun c_7 => ?_) (fun c_7 => ?_)
      · rw [fa_le] at c_7
        exact ok_ret ⟨(by (try dsimp only); omega), (by (try dsimp only); omega)⟩
      · rw [fa_le] at c_7
        refine ok_ix ⟨by omega, by omega⟩ ?_
        have g_8 := gX_65 hB (v_1.toNatClampNeg)
        refine ok_lt fun v_10 e_v_10 => ?_
        have b_v_10 : 0 ≤ v_10.toInt ∧ v_10.toInt ≤ 1 := by rw [e_v_10]; exact gX_65 hB _
        refine ok_ite (fun c_9 => ?_) (fun c_9 => ?_)
        · rw [fa_eq] at c_9
          exact ok_ret ⟨(by (try dsimp only); omega), (by (try dsimp only); omega)⟩
        · rw [fa_eq] at c_9
          exact ok_ret ⟨(by (try dsimp only); omega), (by (try dsimp only); omega)⟩

set_option maxHeartbeats 4000000 in
theorem s_X10_deny {x1 : Int32} {σ : Sto} (hB : BX σ) (hSI : SI σ) (p_x1 : 0 ≤ x1.toInt ∧ x1.toInt ≤ 319) (hk : (σ.1 53 x1.toNatClampNeg).toInt ≤ 2) (hw : (σ.1 53 x1.toNatClampNeg).toInt = 2 → (σ.1 54 x1.toNatClampNeg).toInt < 160) : OK (f_X10_deny x1 σ) (fun s => BX s ∧ FR [63, 64, 65] [] σ s) := by
  unfold f_X10_deny
  have hF : FR [63, 64, 65] [] σ σ := FR.rf
  have k_0 : (0 : Int32).toInt = 0 := by decide +kernel
  have k_1 : (1 : Int32).toInt = 1 := by decide +kernel
  refine ok_ix ⟨by omega, by omega⟩ ?_
  have g_1 := gX_54 hB (x1.toNatClampNeg)
  refine ok_lt fun v_1 e_v_1 => ?_
  have b_v_1 : (-1) ≤ v_1.toInt ∧ v_1.toInt ≤ 160 := by rw [e_v_1]; exact gX_54 hB _
  refine ok_ix ⟨by omega, by omega⟩ ?_
  have g_2 := gX_53 hB (x1.toNatClampNeg)
  refine ok_lt fun v_2 e_v_2 => ?_
  have b_v_2 : 0 ≤ v_2.toInt ∧ v_2.toInt ≤ 6 := by rw [e_v_2]; exact gX_53 hB _
  have z1 : v_1.toInt = (σ.1 54 x1.toNatClampNeg).toInt := by rw [e_v_1]
  have z2 : v_2.toInt = (σ.1 53 x1.toNatClampNeg).toInt := by rw [e_v_2]
  have y1 := (hSI x1.toNatClampNeg).1
  have y2 := (hSI x1.toNatClampNeg).2.1
  have y3 := (hSI x1.toNatClampNeg).2.2.1
  refine ok_ite (fun c_3 => ?_) (fun c_3 => ?_)
  · have c_3 := c_3
    refine ok_ix ⟨by omega, by omega⟩ ?_
    refine ok_lt fun s_4 e_s_4 => ?_
    have hB_s_4 : BX s_4 := by rw [e_s_4]; exact pX_63 hB (by omega)
    have hF_s_4 : FR [63, 64, 65] [] σ s_4 := by rw [e_s_4]; exact FR.st hF (by decide)
    have hSI_s_4 : SI s_4 := by rw [e_s_4]; exact SI.st1 (by decide) hSI
    exact ok_ret ⟨hB_s_4, hF_s_4⟩
  · have c_3 := c_3
    refine ok_ite (fun c_4 => ?_) (fun c_4 => ?_)
    · have c_4 := c_4
      refine ok_ix ⟨by omega, by omega⟩ ?_
      refine ok_lt fun s_5 e_s_5 => ?_
      have hB_s_5 : BX s_5 := by rw [e_s_5]; exact pX_64 hB (by omega)
      have hF_s_5 : FR [63, 64, 65] [] σ s_5 := by rw [e_s_5]; exact FR.st hF (by decide)
      have hSI_s_5 : SI s_5 := by rw [e_s_5]; exact SI.st1 (by decide) hSI
      exact ok_ret ⟨hB_s_5, hF_s_5⟩
    · have c_4 := c_4
      refine ok_ix ⟨by omega, by omega⟩ ?_
      refine ok_lt fun s_6 e_s_6 => ?_
      have hB_s_6 : BX s_6 := by rw [e_s_6]; exact pX_65 hB (by omega)
      have hF_s_6 : FR [63, 64, 65] [] σ s_6 := by rw [e_s_6]; exact FR.st hF (by decide)
      have hSI_s_6 : SI s_6 := by rw [e_s_6]; exact SI.st1 (by decide) hSI
      exact ok_ret ⟨hB_s_6, hF_s_6⟩

set_option maxHeartbeats 4000000 in
theorem s_X10_judge {σ : Sto} (hB : BX σ) (hPI : PI σ) (hSI : SI σ) : OK (f_X10_judge σ) (fun s => BX s ∧ FR [63, 64, 65] [] σ s) := by
  unfold f_X10_judge
  have hF : FR [63, 64, 65] [] σ σ := FR.rf
  have k_0 : (0 : Int32).toInt = 0 := by decide +kernel
  have k_1 : (1 : Int32).toInt = 1 := by decide +kernel
  have k_2 : (2 : Int32).toInt = 2 := by decide +kernel
  have k_1000000 : (1000000 : Int32).toInt = 1000000 := by decide +kernel
  refine ok_cals (s_X10_assumeAll  (σ := σ) hB) (fun s_1 h_1 => ?_)
  obtain ⟨hB_s_1, hG_s_1⟩ := h_1
  (try dsimp only at hB_s_1 hG_s_1)
  have hF_s_1 : FR [63, 64, 65] [] σ s_1 := FR.cal hF hG_s_1 rfl rfl
  have hPI_s_1 : PI s_1 := PI.fr hG_s_1 (by decide) hPI
  have hSI_s_1 : SI s_1 := SI.fr hG_s_1 (by decide) hSI
  refine ok_itr3 (fun (n : Nat) (x1_2 : Int32) (x2_2 : Int32) (s_2 : Sto) => n = (1000001 - x2_2.toInt).toNat ∧ (0 ≤ x1_2.toInt ∧ x1_2.toInt ≤ 1) ∧ (0 ≤ x2_2.toInt ∧ x2_2.toInt ≤ 1000000) ∧ (BX s_2) ∧ (FR [63, 64, 65] [] σ s_2) ∧ (PI s_2) ∧ (SI s_2)) ?_ (n := _) ⟨rfl, (by omega), (by omega), hB_s_1, hF_s_1, hPI_s_1, hSI_s_1⟩ (show _ < 10000000 by omega)
  intro a_8 n x1_2 x2_2 s_2 hI ih_a_8
  obtain ⟨hn_a_8, b_x1_2, b_x2_2, hB_s_2, hF_s_2, hPI_s_2, hSI_s_2⟩ := hI
  refine ok_ite (fun c_2 => ?_) (fun c_2 => ?_)
  · rw [fa_le] at c_2
    exact ok_ret ⟨hB_s_2, hF_s_2⟩
  · rw [fa_le] at c_2
    refine ok_ite (fun c_3 => ?_) (fun c_3 => ?_)
    · rw [fa_eq] at c_3
      exact ok_ret ⟨hB_s_2, hF_s_2⟩
    · rw [fa_eq] at c_3
      refine ok_itr3 (fun (n : Nat) (x1_5 : Int32) (x3_5 : Int32) (s_5 : Sto) => n = (321 - x3_5.toInt).toNat ∧ (0 ≤ x1_5.toInt ∧ x1_5.toInt ≤ 1) ∧ (0 ≤ x3_5.toInt ∧ x3_5.toInt ≤ 320) ∧ (BX s_5) ∧ (FR [63, 64, 65] [] σ s_5) ∧ (PI s_5) ∧ (SI s_5)) ?_ (n := _) ⟨rfl, (by omega), (by omega), hB_s_2, hF_s_2, hPI_s_2, hSI_s_2⟩ (show _ < 10000000 by omega)
      intro a_22 n x1_5 x3_5 s_5 hI ih_a_22
      obtain ⟨hn_a_22, b_x1_5, b_x3_5, hB_s_5, hF_s_5, hPI_s_5, hSI_s_5⟩ := hI
      have g_5 := gX_52 hB_s_5 0
      have g_6 : (s_5.1 52 0).toInt = (σ.1 52 0).toInt := by rw [hF_s_5.1 52 (by decide)]
      have g_7 := gX_52 hB 0
      refine ok_ite (fun c_4 => ?_) (fun c_4 => ?_)
      · rw [fa_le] at c_4
        obtain ⟨t_8, ht_8, g_8⟩ : ∃ t : Int, (x2_2 + 1).toInt = t ∧ t = x2_2.toInt + (1 : Int32).toInt := ⟨_, rfl, by have h9 := fb_addI (x := x2_2) (y := (1 : Int32)) (by omega) (by omega); exact h9⟩
        refine ok_lt fun x2_7 e_x2_7 => ?_
        have q_x2_7 : x2_7.toInt = t_8 := by rw [e_x2_7]; exact ht_8
        exact ih_a_8 _ x1_5 x2_7 s_5 (by rw [hn_a_8]; omega) ⟨rfl, (by omega), (by omega), hB_s_5, hF_s_5, hPI_s_5, hSI_s_5⟩
      · rw [fa_le] at c_4
        refine ok_ix ⟨by omega, by omega⟩ ?_
        have g_9 := gX_53 hB_s_5 (x3_5.toNatClampNeg)
        refine ok_lt fun v_8 e_v_8 => ?_
        have b_v_8 : 0 ≤ v_8.toInt ∧ v_8.toInt ≤ 6 := by rw [e_v_8]; exact gX_53 hB_s_5 _
        refine ok_jn ?_
        refine ok_ite (fun c_10 => ?_) (fun c_10 => ?_)
        · rw [fa_lt] at c_10
          refine ok_jn ?_
          refine ok_ite (fun c_11 => ?_) (fun c_11 => ?_)
          · rw [fa_eq] at c_11
            obtain ⟨t_12, ht_12, g_12⟩ : ∃ t : Int, (x3_5 + 1).toInt = t ∧ t = x3_5.toInt + (1 : Int32).toInt := ⟨_, rfl, by have h9 := fb_addI (x := x3_5) (y := (1 : Int32)) (by omega) (by omega); exact h9⟩
            refine ok_lt fun x3_11 e_x3_11 => ?_
            have q_x3_11 : x3_11.toInt = t_12 := by rw [e_x3_11]; exact ht_12
            exact ih_a_22 _ x1_5 x3_11 s_5 (by rw [hn_a_22]; omega) ⟨rfl, (by omega), (by omega), hB_s_5, hF_s_5, hPI_s_5, hSI_s_5⟩
          · rw [fa_eq] at c_11
            exfalso; omega
        · rw [fa_lt] at c_10
          refine ok_jn ?_
          refine ok_ite (fun c_13 => ?_) (fun c_13 => ?_)
          · rw [fa_eq] at c_13
            exfalso; omega
          · rw [fa_eq] at c_13
            refine ok_ix ⟨by omega, by omega⟩ ?_
            have g_14 := gX_55 hB_s_5 (x3_5.toNatClampNeg)
            refine ok_lt fun v_13 e_v_13 => ?_
            have b_v_13 : (-1) ≤ v_13.toInt ∧ v_13.toInt ≤ 511 := by rw [e_v_13]; exact gX_55 hB_s_5 _
            have y4 : v_8.toInt ≤ 2 → 0 ≤ v_13.toInt := by rw [e_v_8, e_v_13]; exact (hSI_s_5 _).2.2.2
            have z8 : v_8.toInt = (s_5.1 53 x3_5.toNatClampNeg).toInt := by rw [e_v_8]
            refine ok_calp (s_X10_holds (x1 := v_13) (σ := s_5) hB_s_5 hPI_s_5 (by omega)) (fun v_14 h_15 => ?_)
            have b_v_14 := h_15
            (try dsimp only at b_v_14)
            refine ok_ite (fun c_16 => ?_) (fun c_16 => ?_)
            · rw [fa_eq] at c_16
              refine ok_calp (s_X10_isTaken (x1 := x3_5) (σ := s_5) hB_s_5 hSI_s_5 (by omega) (by omega)) (fun v_16 h_17 => ?_)
              obtain ⟨b_v_16, x_v_16⟩ := h_17
              (try dsimp only at b_v_16 x_v_16)
              refine ok_ite (fun c_18 => ?_) (fun c_18 => ?_)
              · rw [fa_eq] at c_18
                obtain ⟨t_19, ht_19, g_19⟩ : ∃ t : Int, (x3_5 + 1).toInt = t ∧ t = x3_5.toInt + (1 : Int32).toInt := ⟨_, rfl, by have h9 := fb_addI (x := x3_5) (y := (1 : Int32)) (by omega) (by omega); exact h9⟩
                refine ok_lt fun x3_11 e_x3_11 => ?_
                have q_x3_11 : x3_11.toInt = t_19 := by rw [e_x3_11]; exact ht_19
                exact ih_a_22 _ x1_5 x3_11 s_5 (by rw [hn_a_22]; omega) ⟨rfl, (by omega), (by omega), hB_s_5, hF_s_5, hPI_s_5, hSI_s_5⟩
              · rw [fa_eq] at c_18
                refine ok_cals (s_X10_deny (x1 := x3_5) (σ := s_5) hB_s_5 hSI_s_5 (by omega) (by omega) (by omega)) (fun s_18 h_20 => ?_)
                obtain ⟨hB_s_18, hG_s_18⟩ := h_20
                (try dsimp only at hB_s_18 hG_s_18)
                have hF_s_18 : FR [63, 64, 65] [] σ s_18 := FR.cal hF_s_5 hG_s_18 rfl rfl
                have hPI_s_18 : PI s_18 := PI.fr hG_s_18 (by decide) hPI_s_5
                have hSI_s_18 : SI s_18 := SI.fr hG_s_18 (by decide) hSI_s_5
                obtain ⟨t_21, ht_21, g_21⟩ : ∃ t : Int, (x3_5 + 1).toInt = t ∧ t = x3_5.toInt + (1 : Int32).toInt := ⟨_, rfl, by have h9 := fb_addI (x := x3_5) (y := (1 : Int32)) (by omega) (by omega); exact h9⟩
                refine ok_lt fun x3_11 e_x3_11 => ?_
                have q_x3_11 : x3_11.toInt = t_21 := by rw [e_x3_11]; exact ht_21
                exact ih_a_22 _ (1 : Int32) x3_11 s_18 (by rw [hn_a_22]; omega) ⟨rfl, (by omega), (by omega), hB_s_18, hF_s_18, hPI_s_18, hSI_s_18⟩
            · rw [fa_eq] at c_16
              obtain ⟨t_22, ht_22, g_22⟩ : ∃ t : Int, (x3_5 + 1).toInt = t ∧ t = x3_5.toInt + (1 : Int32).toInt := ⟨_, rfl, by have h9 := fb_addI (x := x3_5) (y := (1 : Int32)) (by omega) (by omega); exact h9⟩
              refine ok_lt fun x3_11 e_x3_11 => ?_
              have q_x3_11 : x3_11.toInt = t_22 := by rw [e_x3_11]; exact ht_22
              exact ih_a_22 _ x1_5 x3_11 s_5 (by rw [hn_a_22]; omega) ⟨rfl, (by omega), (by omega), hB_s_5, hF_s_5, hPI_s_5, hSI_s_5⟩

set_option maxHeartbeats 4000000 in
theorem s_X4_flowThrough {x1 : Int32} {σ : Sto} (hB : BX σ) (p_x1 : 0 ≤ x1.toInt ∧ x1.toInt ≤ 39) : OK (f_X4_flowThrough x1 σ) (fun s => BX s ∧ FR [66, 67] [6] σ s) := by
  unfold f_X4_flowThrough
  have hF : FR [66, 67] [6] σ σ := FR.rf
  have k_m1 : ((-1) : Int32).toInt = -1 := by decide +kernel
  have k_0 : (0 : Int32).toInt = 0 := by decide +kernel
  have k_1 : (1 : Int32).toInt = 1 := by decide +kernel
  have k_108 : (108 : Int32).toInt = 108 := by decide +kernel
  have k_115 : (115 : Int32).toInt = 115 := by decide +kernel
  refine ok_ix ⟨by omega, by omega⟩ ?_
  refine ok_lt fun s_1 e_s_1 => ?_
  have hB_s_1 : BX s_1 := by rw [e_s_1]; exact pX_67 hB (tI_rng _)
  have hF_s_1 : FR [66, 67] [6] σ s_1 := by rw [e_s_1]; exact FR.st hF (by decide)
  refine ok_ix ⟨by omega, by omega⟩ ?_
  have g_1 := gX_28 hB_s_1 (x1.toNatClampNeg)
  refine ok_lt fun v_2 e_v_2 => ?_
  have b_v_2 : 0 ≤ v_2.toInt ∧ v_2.toInt ≤ 120 := by rw [e_v_2]; exact gX_28 hB_s_1 _
  refine ok_itr2 (fun (n : Nat) (x2_3 : Int32) (s_3 : Sto) => n = (121 - x2_3.toInt).toNat ∧ (0 ≤ x2_3.toInt ∧ x2_3.toInt ≤ 120) ∧ (BX s_3) ∧ (FR [66, 67] [6] σ s_3)) ?_ (n := _) ⟨rfl, (by omega), hB_s_1, hF_s_1⟩ (show _ < 10000000 by omega)
  intro a_17 n x2_3 s_3 hI ih_a_17
  obtain ⟨hn_a_17, b_x2_3, hB_s_3, hF_s_3⟩ := hI
  obtain ⟨t_2, ht_2, g_2⟩ : ∃ t : Int, (x1 + 1).toInt = t ∧ t = x1.toInt + (1 : Int32).toInt := ⟨_, rfl, by have h9 := fb_addI (x := x1) (y := (1 : Int32)) (by omega) (by omega); exact h9⟩
  refine ok_ix ⟨by rw [ht_2]; omega, by rw [ht_2]; omega⟩ ?_
  have g_3 := gX_28 hB_s_3 ((x1 + 1).toNatClampNeg)
  refine ok_lt fun v_4 e_v_4 => ?_
  have b_v_4 : 0 ≤ v_4.toInt ∧ v_4.toInt ≤ 120 := by rw [e_v_4]; exact gX_28 hB_s_3 _
  refine ok_ite (fun c_4 => ?_) (fun c_4 => ?_)
  · rw [fa_le] at c_4
    refine ok_ix ⟨by omega, by omega⟩ ?_
    have g_5 := gX_26 hB_s_3 (x1.toNatClampNeg)
    refine ok_lt fun v_6 e_v_6 => ?_
    have b_v_6 : (-1) ≤ v_6.toInt ∧ v_6.toInt ≤ 39 := by rw [e_v_6]; exact gX_26 hB_s_3 _
    have q_v_6 : v_6.toInt = (σ.1 26 (x1.toNatClampNeg)).toInt := by rw [e_v_6, hF_s_3.1 26 (by decide)]
    refine ok_jn ?_
    refine ok_ite (fun c_6 => ?_) (fun c_6 => ?_)
    · rw [fa_eq] at c_6
      refine ok_ix ⟨by omega, by omega⟩ ?_
      refine ok_lt fun v_8 e_v_8 => ?_
      have q_v_8 : v_8.toInt = (s_3.1 67 x1.toNatClampNeg).toInt := by rw [e_v_8]
      refine ok_ix ⟨by omega, by omega⟩ ?_
      have g_7 := gX_22 hB_s_3 (x1.toNatClampNeg)
      refine ok_lt fun v_9 e_v_9 => ?_
      have b_v_9 : 0 ≤ v_9.toInt ∧ v_9.toInt ≤ 39 := by rw [e_v_9]; exact gX_22 hB_s_3 _
      refine ok_itr3 (fun (n : Nat) (x3_10 : Int32) (x4_10 : Int32) (s_10 : Sto) => n = (x4_10.toInt - (-2)).toNat ∧ ((-1) ≤ x4_10.toInt ∧ x4_10.toInt ≤ 39) ∧ (BX s_10) ∧ (FR [66, 67] [6] σ s_10)) ?_ (n := _) ⟨rfl, (by omega), hB_s_3, hF_s_3⟩ (show _ < 10000000 by omega)
      intro a_111 n x3_10 x4_10 s_10 hI ih_a_111
      obtain ⟨hn_a_111, b_x4_10, hB_s_10, hF_s_10⟩ := hI
      refine ok_ix ⟨by omega, by omega⟩ ?_
      have g_8 := gX_21 hB_s_10 (x1.toNatClampNeg)
      refine ok_lt fun v_11 e_v_11 => ?_
      have b_v_11 : 0 ≤ v_11.toInt ∧ v_11.toInt ≤ 39 := by rw [e_v_11]; exact gX_21 hB_s_10 _
      refine ok_ite (fun c_9 => ?_) (fun c_9 => ?_)
      · rw [fa_lt] at c_9
        refine ok_ix ⟨by omega, by omega⟩ ?_
        obtain ⟨t_10, ht_10, g_10⟩ : ∃ t : Int, (x3_10 ||| (0 : Int32)).toInt = t ∧ -2147483648 ≤ t ∧ t ≤ 2147483647 := ⟨_, rfl, tI_rng _⟩
        refine ok_lt fun s_13 e_s_13 => ?_
        have hB_s_13 : BX s_13 := by rw [e_s_13]; exact pX_66 hB_s_10 (tI_rng _)
        have hF_s_13 : FR [66, 67] [6] σ s_13 := by rw [e_s_13]; exact FR.st hF_s_10 (by decide)
        exact ok_ret ⟨hB_s_13, hF_s_13⟩
      · rw [fa_lt] at c_9
        refine ok_ix ⟨by omega, by omega⟩ ?_
        have g_11 := gX_7 hB_s_10 (x4_10.toNatClampNeg)
        refine ok_lt fun v_14 e_v_14 => ?_
        have b_v_14 : 0 ≤ v_14.toInt ∧ v_14.toInt ≤ 999 := by rw [e_v_14]; exact gX_7 hB_s_10 _
        obtain ⟨t_12, ht_12, g_12⟩ : ∃ t : Int, ((1 : Int32) <<< (v_14 &&& 31)).toInt = t ∧ -2147483648 ≤ t ∧ t ≤ 2147483647 := ⟨_, rfl, tI_rng _⟩
        refine ok_lt fun x5_15 e_x5_15 => ?_
        have q_x5_15 : x5_15.toInt = t_12 := by rw [e_x5_15]; exact ht_12
        refine ok_ix ⟨by omega, by omega⟩ ?_
        have g_13 := gX_6 hB_s_10 (x4_10.toNatClampNeg)
        refine ok_lt fun v_16 e_v_16 => ?_
        have b_v_16 : 0 ≤ v_16.toInt ∧ v_16.toInt ≤ 255 := by rw [e_v_16]; exact gX_6 hB_s_10 _
        have q_v_16 : v_16.toInt = (σ.1 6 (x4_10.toNatClampNeg)).toInt := by rw [e_v_16, hF_s_10.1 6 (by decide)]
        refine ok_jn ?_
        refine ok_ite (fun c_14 => ?_) (fun c_14 => ?_)
        · rw [fa_eq] at c_14
          obtain ⟨t_15, ht_15, g_15⟩ : ∃ t : Int, (x3_10 ||| x5_15).toInt = t ∧ -2147483648 ≤ t ∧ t ≤ 2147483647 := ⟨_, rfl, tI_rng _⟩
          refine ok_lt fun x3_20 e_x3_20 => ?_
          have q_x3_20 : x3_20.toInt = t_15 := by rw [e_x3_20]; exact ht_15
          obtain ⟨t_16, ht_16, g_16⟩ : ∃ t : Int, (x4_10 + (-1)).toInt = t ∧ t = x4_10.toInt + ((-1) : Int32).toInt := ⟨_, rfl, by have h9 := fb_addI (x := x4_10) (y := ((-1) : Int32)) (by omega) (by omega); exact h9⟩
          refine ok_lt fun x4_18 e_x4_18 => ?_
          have q_x4_18 : x4_18.toInt = t_16 := by rw [e_x4_18]; exact ht_16
          exact ih_a_111 _ x3_20 x4_18 s_10 (by rw [hn_a_111]; omega) ⟨rfl, (by omega), hB_s_10, hF_s_10⟩
        · rw [fa_eq] at c_14
          refine ok_ix ⟨by omega, by omega⟩ ?_
          refine ok_lt fun v_21 e_v_21 => ?_
          have b_v_21 : 0 ≤ v_21.toInt ∧ v_21.toInt ≤ 255 := by rw [e_v_21]; exact gX_6 hB_s_10 _
          have q_v_21 : v_21.toInt = (σ.1 6 (x4_10.toNatClampNeg)).toInt := by rw [e_v_21, hF_s_10.1 6 (by decide)]
          refine ok_ite (fun c_17 => ?_) (fun c_17 => ?_)
          · rw [fa_eq] at c_17
            refine ok_jn ?_
            obtain ⟨t_19, ht_19, g_19⟩ : ∃ t : Int, (x3_10 &&& x5_15).toInt = t ∧ -2147483648 ≤ t ∧ t ≤ 2147483647 := ⟨_, rfl, tI_rng _⟩
            refine ok_ite (fun c_18 => ?_) (fun c_18 => ?_)
            · rw [fa_eq, ht_19] at c_18
              refine ok_lt fun s_26 e_s_26 => ?_
              have hB_s_26 : BX s_26 := by rw [e_s_26]; exact BD.stl hB_s_10
              have hF_s_26 : FR [66, 67] [6] σ s_26 := by rw [e_s_26]; exact FR.stl hF_s_10 (by decide)
              obtain ⟨t_20, ht_20, g_20⟩ : ∃ t : Int, ((x3_10 &&& (x5_15 ^^^ (-1))) ||| (0 : Int32)).toInt = t ∧ -2147483648 ≤ t ∧ t ≤ 2147483647 := ⟨_, rfl, tI_rng _⟩
              refine ok_lt fun x3_24 e_x3_24 => ?_
              have q_x3_24 : x3_24.toInt = t_20 := by rw [e_x3_24]; exact ht_20
              obtain ⟨t_21, ht_21, g_21⟩ : ∃ t : Int, (x4_10 + (-1)).toInt = t ∧ t = x4_10.toInt + ((-1) : Int32).toInt := ⟨_, rfl, by have h9 := fb_addI (x := x4_10) (y := ((-1) : Int32)) (by omega) (by omega); exact h9⟩
              refine ok_lt fun x4_18 e_x4_18 => ?_
              have q_x4_18 : x4_18.toInt = t_21 := by rw [e_x4_18]; exact ht_21
              exact ih_a_111 _ x3_24 x4_18 s_26 (by rw [hn_a_111]; omega) ⟨rfl, (by omega), hB_s_26, hF_s_26⟩
            · rw [fa_eq, ht_19] at c_18
              obtain ⟨t_22, ht_22, g_22⟩ : ∃ t : Int, ((x3_10 &&& (x5_15 ^^^ (-1))) ||| (0 : Int32)).toInt = t ∧ -2147483648 ≤ t ∧ t ≤ 2147483647 := ⟨_, rfl, tI_rng _⟩
              refine ok_lt fun x3_24 e_x3_24 => ?_
              have q_x3_24 : x3_24.toInt = t_22 := by rw [e_x3_24]; exact ht_22
              obtain ⟨t_23, ht_23, g_23⟩ : ∃ t : Int, (x4_10 + (-1)).toInt = t ∧ t = x4_10.toInt + ((-1) : Int32).toInt := ⟨_, rfl, by have h9 := fb_addI (x := x4_10) (y := ((-1) : Int32)) (by omega) (by omega); exact h9⟩
              refine ok_lt fun x4_18 e_x4_18 => ?_
              have q_x4_18 : x4_18.toInt = t_23 := by rw [e_x4_18]; exact ht_23
              exact ih_a_111 _ x3_24 x4_18 s_10 (by rw [hn_a_111]; omega) ⟨rfl, (by omega), hB_s_10, hF_s_10⟩
          · rw [fa_eq] at c_17
            obtain ⟨t_24, ht_24, g_24⟩ : ∃ t : Int, (x4_10 + (-1)).toInt = t ∧ t = x4_10.toInt + ((-1) : Int32).toInt := ⟨_, rfl, by have h9 := fb_addI (x := x4_10) (y := ((-1) : Int32)) (by omega) (by omega); exact h9⟩
            refine ok_lt fun x4_18 e_x4_18 => ?_
            have q_x4_18 : x4_18.toInt = t_24 := by rw [e_x4_18]; exact ht_24
            exact ih_a_111 _ x3_10 x4_18 s_10 (by rw [hn_a_111]; omega) ⟨rfl, (by omega), hB_s_10, hF_s_10⟩
    · rw [fa_eq] at c_6
      refine ok_ix ⟨by omega, by omega⟩ ?_
      refine ok_lt fun v_28 e_v_28 => ?_
      have b_v_28 : (-1) ≤ v_28.toInt ∧ v_28.toInt ≤ 39 := by rw [e_v_28]; exact gX_26 hB_s_3 _
      have q_v_28 : v_28.toInt = (σ.1 26 (x1.toNatClampNeg)).toInt := by rw [e_v_28, hF_s_3.1 26 (by decide)]
      refine ok_ix ⟨by omega, by omega⟩ ?_
      refine ok_lt fun v_29 e_v_29 => ?_
      refine ok_ix ⟨by omega, by omega⟩ ?_
      refine ok_lt fun v_8 e_v_8 => ?_
      have q_v_8 : v_8.toInt = (s_3.1 67 x1.toNatClampNeg).toInt := by rw [e_v_8]
      refine ok_ix ⟨by omega, by omega⟩ ?_
      have g_25 := gX_22 hB_s_3 (x1.toNatClampNeg)
      refine ok_lt fun v_9 e_v_9 => ?_
      have b_v_9 : 0 ≤ v_9.toInt ∧ v_9.toInt ≤ 39 := by rw [e_v_9]; exact gX_22 hB_s_3 _
      refine ok_itr3 (fun (n : Nat) (x3_10 : Int32) (x4_10 : Int32) (s_10 : Sto) => n = (x4_10.toInt - (-2)).toNat ∧ ((-1) ≤ x4_10.toInt ∧ x4_10.toInt ≤ 39) ∧ (BX s_10) ∧ (FR [66, 67] [6] σ s_10)) ?_ (n := _) ⟨rfl, (by omega), hB_s_3, hF_s_3⟩ (show _ < 10000000 by omega)
      intro a_111 n x3_10 x4_10 s_10 hI ih_a_111
      obtain ⟨hn_a_111, b_x4_10, hB_s_10, hF_s_10⟩ := hI
      refine ok_ix ⟨by omega, by omega⟩ ?_
      have g_26 := gX_21 hB_s_10 (x1.toNatClampNeg)
      refine ok_lt fun v_11 e_v_11 => ?_
      have b_v_11 : 0 ≤ v_11.toInt ∧ v_11.toInt ≤ 39 := by rw [e_v_11]; exact gX_21 hB_s_10 _
      refine ok_ite (fun c_27 => ?_) (fun c_27 => ?_)
      · rw [fa_lt] at c_27
        refine ok_ix ⟨by omega, by omega⟩ ?_
        obtain ⟨t_28, ht_28, g_28⟩ : ∃ t : Int, (x3_10 ||| v_29).toInt = t ∧ -2147483648 ≤ t ∧ t ≤ 2147483647 := ⟨_, rfl, tI_rng _⟩
        refine ok_lt fun s_13 e_s_13 => ?_
        have hB_s_13 : BX s_13 := by rw [e_s_13]; exact pX_66 hB_s_10 (tI_rng _)
        have hF_s_13 : FR [66, 67] [6] σ s_13 := by rw [e_s_13]; exact FR.st hF_s_10 (by decide)
        exact ok_ret ⟨hB_s_13, hF_s_13⟩
      · rw [fa_lt] at c_27
        refine ok_ix ⟨by omega, by omega⟩ ?_
        have g_29 := gX_7 hB_s_10 (x4_10.toNatClampNeg)
        refine ok_lt fun v_14 e_v_14 => ?_
        have b_v_14 : 0 ≤ v_14.toInt ∧ v_14.toInt ≤ 999 := by rw [e_v_14]; exact gX_7 hB_s_10 _
        obtain ⟨t_30, ht_30, g_30⟩ : ∃ t : Int, ((1 : Int32) <<< (v_14 &&& 31)).toInt = t ∧ -2147483648 ≤ t ∧ t ≤ 2147483647 := ⟨_, rfl, tI_rng _⟩
        refine ok_lt fun x5_15 e_x5_15 => ?_
        have q_x5_15 : x5_15.toInt = t_30 := by rw [e_x5_15]; exact ht_30
        refine ok_ix ⟨by omega, by omega⟩ ?_
        have g_31 := gX_6 hB_s_10 (x4_10.toNatClampNeg)
        refine ok_lt fun v_16 e_v_16 => ?_
        have b_v_16 : 0 ≤ v_16.toInt ∧ v_16.toInt ≤ 255 := by rw [e_v_16]; exact gX_6 hB_s_10 _
        have q_v_16 : v_16.toInt = (σ.1 6 (x4_10.toNatClampNeg)).toInt := by rw [e_v_16, hF_s_10.1 6 (by decide)]
        refine ok_jn ?_
        refine ok_ite (fun c_32 => ?_) (fun c_32 => ?_)
        · rw [fa_eq] at c_32
          obtain ⟨t_33, ht_33, g_33⟩ : ∃ t : Int, (x3_10 ||| x5_15).toInt = t ∧ -2147483648 ≤ t ∧ t ≤ 2147483647 := ⟨_, rfl, tI_rng _⟩
          refine ok_lt fun x3_20 e_x3_20 => ?_
          have q_x3_20 : x3_20.toInt = t_33 := by rw [e_x3_20]; exact ht_33
          obtain ⟨t_34, ht_34, g_34⟩ : ∃ t : Int, (x4_10 + (-1)).toInt = t ∧ t = x4_10.toInt + ((-1) : Int32).toInt := ⟨_, rfl, by have h9 := fb_addI (x := x4_10) (y := ((-1) : Int32)) (by omega) (by omega); exact h9⟩
          refine ok_lt fun x4_18 e_x4_18 => ?_
          have q_x4_18 : x4_18.toInt = t_34 := by rw [e_x4_18]; exact ht_34
          exact ih_a_111 _ x3_20 x4_18 s_10 (by rw [hn_a_111]; omega) ⟨rfl, (by omega), hB_s_10, hF_s_10⟩
        · rw [fa_eq] at c_32
          refine ok_ix ⟨by omega, by omega⟩ ?_
          refine ok_lt fun v_21 e_v_21 => ?_
          have b_v_21 : 0 ≤ v_21.toInt ∧ v_21.toInt ≤ 255 := by rw [e_v_21]; exact gX_6 hB_s_10 _
          have q_v_21 : v_21.toInt = (σ.1 6 (x4_10.toNatClampNeg)).toInt := by rw [e_v_21, hF_s_10.1 6 (by decide)]
          refine ok_ite (fun c_35 => ?_) (fun c_35 => ?_)
          · rw [fa_eq] at c_35
            refine ok_jn ?_
            obtain ⟨t_37, ht_37, g_37⟩ : ∃ t : Int, (x3_10 &&& x5_15).toInt = t ∧ -2147483648 ≤ t ∧ t ≤ 2147483647 := ⟨_, rfl, tI_rng _⟩
            refine ok_ite (fun c_36 => ?_) (fun c_36 => ?_)
            · rw [fa_eq, ht_37] at c_36
              refine ok_lt fun s_26 e_s_26 => ?_
              have hB_s_26 : BX s_26 := by rw [e_s_26]; exact BD.stl hB_s_10
              have hF_s_26 : FR [66, 67] [6] σ s_26 := by rw [e_s_26]; exact FR.stl hF_s_10 (by decide)
              obtain ⟨t_38, ht_38, g_38⟩ : ∃ t : Int, ((x3_10 &&& (x5_15 ^^^ (-1))) ||| v_29).toInt = t ∧ -2147483648 ≤ t ∧ t ≤ 2147483647 := ⟨_, rfl, tI_rng _⟩
              refine ok_lt fun x3_24 e_x3_24 => ?_
              have q_x3_24 : x3_24.toInt = t_38 := by rw [e_x3_24]; exact ht_38
              obtain ⟨t_39, ht_39, g_39⟩ : ∃ t : Int, (x4_10 + (-1)).toInt = t ∧ t = x4_10.toInt + ((-1) : Int32).toInt := ⟨_, rfl, by have h9 := fb_addI (x := x4_10) (y := ((-1) : Int32)) (by omega) (by omega); exact h9⟩
              refine ok_lt fun x4_18 e_x4_18 => ?_
              have q_x4_18 : x4_18.toInt = t_39 := by rw [e_x4_18]; exact ht_39
              exact ih_a_111 _ x3_24 x4_18 s_26 (by rw [hn_a_111]; omega) ⟨rfl, (by omega), hB_s_26, hF_s_26⟩
            · rw [fa_eq, ht_37] at c_36
              obtain ⟨t_40, ht_40, g_40⟩ : ∃ t : Int, ((x3_10 &&& (x5_15 ^^^ (-1))) ||| v_29).toInt = t ∧ -2147483648 ≤ t ∧ t ≤ 2147483647 := ⟨_, rfl, tI_rng _⟩
              refine ok_lt fun x3_24 e_x3_24 => ?_
              have q_x3_24 : x3_24.toInt = t_40 := by rw [e_x3_24]; exact ht_40
              obtain ⟨t_41, ht_41, g_41⟩ : ∃ t : Int, (x4_10 + (-1)).toInt = t ∧ t = x4_10.toInt + ((-1) : Int32).toInt := ⟨_, rfl, by have h9 := fb_addI (x := x4_10) (y := ((-1) : Int32)) (by omega) (by omega); exact h9⟩
              refine ok_lt fun x4_18 e_x4_18 => ?_
              have q_x4_18 : x4_18.toInt = t_41 := by rw [e_x4_18]; exact ht_41
              exact ih_a_111 _ x3_24 x4_18 s_10 (by rw [hn_a_111]; omega) ⟨rfl, (by omega), hB_s_10, hF_s_10⟩
          · rw [fa_eq] at c_35
            obtain ⟨t_42, ht_42, g_42⟩ : ∃ t : Int, (x4_10 + (-1)).toInt = t ∧ t = x4_10.toInt + ((-1) : Int32).toInt := ⟨_, rfl, by have h9 := fb_addI (x := x4_10) (y := ((-1) : Int32)) (by omega) (by omega); exact h9⟩
            refine ok_lt fun x4_18 e_x4_18 => ?_
            have q_x4_18 : x4_18.toInt = t_42 := by rw [e_x4_18]; exact ht_42
            exact ih_a_111 _ x3_10 x4_18 s_10 (by rw [hn_a_111]; omega) ⟨rfl, (by omega), hB_s_10, hF_s_10⟩
  · rw [fa_le] at c_4
    refine ok_ix ⟨by omega, by omega⟩ ?_
    refine ok_lt fun v_30 e_v_30 => ?_
    have q_v_30 : v_30.toInt = (s_3.1 67 x1.toNatClampNeg).toInt := by rw [e_v_30]
    refine ok_ix ⟨by omega, by omega⟩ ?_
    have g_43 := gX_30 hB_s_3 (x2_3.toNatClampNeg)
    refine ok_lt fun v_31 e_v_31 => ?_
    have b_v_31 : 0 ≤ v_31.toInt ∧ v_31.toInt ≤ 39 := by rw [e_v_31]; exact gX_30 hB_s_3 _
    refine ok_ix ⟨by omega, by omega⟩ ?_
    refine ok_lt fun v_32 e_v_32 => ?_
    refine ok_ix ⟨by omega, by omega⟩ ?_
    obtain ⟨t_44, ht_44, g_44⟩ : ∃ t : Int, (v_30 ||| v_32).toInt = t ∧ -2147483648 ≤ t ∧ t ≤ 2147483647 := ⟨_, rfl, tI_rng _⟩
    refine ok_lt fun s_33 e_s_33 => ?_
    have hB_s_33 : BX s_33 := by rw [e_s_33]; exact pX_67 hB_s_3 (tI_rng _)
    have hF_s_33 : FR [66, 67] [6] σ s_33 := by rw [e_s_33]; exact FR.st hF_s_3 (by decide)
    obtain ⟨t_45, ht_45, g_45⟩ : ∃ t : Int, (x2_3 + 1).toInt = t ∧ t = x2_3.toInt + (1 : Int32).toInt := ⟨_, rfl, by have h9 := fb_addI (x := x2_3) (y := (1 : Int32)) (by omega) (by omega); exact h9⟩
    refine ok_lt fun x2_34 e_x2_34 => ?_
    have q_x2_34 : x2_34.toInt = t_45 := by rw [e_x2_34]; exact ht_45
    exact ih_a_17 _ x2_34 s_33 (by rw [hn_a_17]; omega) ⟨rfl, (by omega), hB_s_33, hF_s_33⟩

set_option maxHeartbeats 4000000 in
theorem s_X4_flow {σ : Sto} (hB : BX σ) : OK (f_X4_flow σ) (fun s => BX s ∧ FR [66, 67] [6] σ s) := by
  unfold f_X4_flow
  have hF : FR [66, 67] [6] σ σ := FR.rf
  have k_m1 : ((-1) : Int32).toInt = -1 := by decide +kernel
  have k_0 : (0 : Int32).toInt = 0 := by decide +kernel
  have k_1 : (1 : Int32).toInt = 1 := by decide +kernel
  have k_1000000 : (1000000 : Int32).toInt = 1000000 := by decide +kernel
  refine ok_itr2 (fun (n : Nat) (x1_1 : Int32) (s_1 : Sto) => n = (41 - x1_1.toInt).toNat ∧ (0 ≤ x1_1.toInt ∧ x1_1.toInt ≤ 40) ∧ (BX s_1) ∧ (FR [66, 67] [6] σ s_1)) ?_ (n := _) ⟨rfl, (by omega), hB, hF⟩ (show _ < 10000000 by omega)
  intro a_2 n x1_1 s_1 hI ih_a_2
  obtain ⟨hn_a_2, b_x1_1, hB_s_1, hF_s_1⟩ := hI
  have g_2 := gX_20 hB_s_1 0
  have g_3 : (s_1.1 20 0).toInt = (σ.1 20 0).toInt := by rw [hF_s_1.1 20 (by decide)]
  have g_4 := gX_20 hB 0
  refine ok_ite (fun c_1 => ?_) (fun c_1 => ?_)
  · rw [fa_le] at c_1
    refine ok_itr3 (fun (n : Nat) (x1_3 : Int32) (x2_3 : Int32) (s_3 : Sto) => n = (1000001 - x2_3.toInt).toNat ∧ (0 ≤ x1_3.toInt ∧ x1_3.toInt ≤ 1) ∧ (0 ≤ x2_3.toInt ∧ x2_3.toInt ≤ 1000000) ∧ (BX s_3) ∧ (FR [66, 67] [6] σ s_3)) ?_ (n := _) ⟨rfl, (by omega), (by omega), hB_s_1, hF_s_1⟩ (show _ < 10000000 by omega)
    intro a_30 n x1_3 x2_3 s_3 hI ih_a_30
    obtain ⟨hn_a_30, b_x1_3, b_x2_3, hB_s_3, hF_s_3⟩ := hI
    refine ok_ite (fun c_5 => ?_) (fun c_5 => ?_)
    · rw [fa_le] at c_5
      exact ok_ret ⟨hB_s_3, hF_s_3⟩
    · rw [fa_le] at c_5
      refine ok_ite (fun c_6 => ?_) (fun c_6 => ?_)
      · rw [fa_eq] at c_6
        exact ok_ret ⟨hB_s_3, hF_s_3⟩
      · rw [fa_eq] at c_6
        refine ok_lt fun s_6 e_s_6 => ?_
        have hB_s_6 : BX s_6 := by rw [e_s_6]; exact BD.stl hB_s_3
        have hF_s_6 : FR [66, 67] [6] σ s_6 := by rw [e_s_6]; exact FR.stl hF_s_3 (by decide)
        have g_7 := gX_20 hB_s_6 0
        have g_8 : (s_6.1 20 0).toInt = (σ.1 20 0).toInt := by rw [hF_s_6.1 20 (by decide)]
        obtain ⟨t_9, ht_9, g_9⟩ : ∃ t : Int, ((s_6.1 20 0) - 1).toInt = t ∧ t = (s_6.1 20 0).toInt - (1 : Int32).toInt := ⟨_, rfl, by have h9 := fb_subI (x := (s_6.1 20 0)) (y := (1 : Int32)) (by omega) (by omega); exact h9⟩
        refine ok_lt fun x3_7 e_x3_7 => ?_
        have q_x3_7 : x3_7.toInt = t_9 := by rw [e_x3_7]; exact ht_9
        refine ok_itr3 (fun (n : Nat) (x1_8 : Int32) (x3_8 : Int32) (s_8 : Sto) => n = (x3_8.toInt - (-2)).toNat ∧ (0 ≤ x1_8.toInt ∧ x1_8.toInt ≤ 1) ∧ ((-1) ≤ x3_8.toInt ∧ x3_8.toInt ≤ 39) ∧ (BX s_8) ∧ (FR [66, 67] [6] σ s_8)) ?_ (n := _) ⟨rfl, (by omega), (by omega), hB_s_6, hF_s_6⟩ (show _ < 10000000 by omega)
        intro a_57 n x1_8 x3_8 s_8 hI ih_a_57
        obtain ⟨hn_a_57, b_x1_8, b_x3_8, hB_s_8, hF_s_8⟩ := hI
        refine ok_ite (fun c_10 => ?_) (fun c_10 => ?_)
        · rw [fa_lt] at c_10
          obtain ⟨t_11, ht_11, g_11⟩ : ∃ t : Int, (x2_3 + 1).toInt = t ∧ t = x2_3.toInt + (1 : Int32).toInt := ⟨_, rfl, by have h9 := fb_addI (x := x2_3) (y := (1 : Int32)) (by omega) (by omega); exact h9⟩
          refine ok_lt fun x2_10 e_x2_10 => ?_
          have q_x2_10 : x2_10.toInt = t_11 := by rw [e_x2_10]; exact ht_11
          exact ih_a_30 _ x1_8 x2_10 s_8 (by rw [hn_a_30]; omega) ⟨rfl, (by omega), (by omega), hB_s_8, hF_s_8⟩
        · rw [fa_lt] at c_10
          refine ok_ix ⟨by omega, by omega⟩ ?_
          refine ok_lt fun v_11 e_v_11 => ?_
          refine ok_cals (s_X4_flowThrough (x1 := x3_8) (σ := s_8) hB_s_8 (by omega)) (fun s_12 h_12 => ?_)
          obtain ⟨hB_s_12, hG_s_12⟩ := h_12
          (try dsimp only at hB_s_12 hG_s_12)
          have hF_s_12 : FR [66, 67] [6] σ s_12 := FR.cal hF_s_8 hG_s_12 rfl rfl
          refine ok_jn ?_
          refine ok_jn ?_
          refine ok_ite (fun c_13 => ?_) (fun c_13 => ?_)
          · rw [fa_eq] at c_13
            refine ok_ix ⟨by omega, by omega⟩ ?_
            refine ok_lt fun v_17 e_v_17 => ?_
            refine ok_ite (fun c_14 => ?_) (fun c_14 => ?_)
            · rw [fa_eq] at c_14
              obtain ⟨t_15, ht_15, g_15⟩ : ∃ t : Int, (x3_8 + (-1)).toInt = t ∧ t = x3_8.toInt + ((-1) : Int32).toInt := ⟨_, rfl, by have h9 := fb_addI (x := x3_8) (y := ((-1) : Int32)) (by omega) (by omega); exact h9⟩
              refine ok_lt fun x3_14 e_x3_14 => ?_
              have q_x3_14 : x3_14.toInt = t_15 := by rw [e_x3_14]; exact ht_15
              exact ih_a_57 _ (0 : Int32) x3_14 s_12 (by rw [hn_a_57]; omega) ⟨rfl, (by omega), (by omega), hB_s_12, hF_s_12⟩
            · rw [fa_eq] at c_14
              obtain ⟨t_16, ht_16, g_16⟩ : ∃ t : Int, (x3_8 + (-1)).toInt = t ∧ t = x3_8.toInt + ((-1) : Int32).toInt := ⟨_, rfl, by have h9 := fb_addI (x := x3_8) (y := ((-1) : Int32)) (by omega) (by omega); exact h9⟩
              refine ok_lt fun x3_14 e_x3_14 => ?_
              have q_x3_14 : x3_14.toInt = t_16 := by rw [e_x3_14]; exact ht_16
              exact ih_a_57 _ (1 : Int32) x3_14 s_12 (by rw [hn_a_57]; omega) ⟨rfl, (by omega), (by omega), hB_s_12, hF_s_12⟩
          · rw [fa_eq] at c_13
            obtain ⟨t_17, ht_17, g_17⟩ : ∃ t : Int, (x3_8 + (-1)).toInt = t ∧ t = x3_8.toInt + ((-1) : Int32).toInt := ⟨_, rfl, by have h9 := fb_addI (x := x3_8) (y := ((-1) : Int32)) (by omega) (by omega); exact h9⟩
            refine ok_lt fun x3_14 e_x3_14 => ?_
            have q_x3_14 : x3_14.toInt = t_17 := by rw [e_x3_14]; exact ht_17
            exact ih_a_57 _ (1 : Int32) x3_14 s_12 (by rw [hn_a_57]; omega) ⟨rfl, (by omega), (by omega), hB_s_12, hF_s_12⟩
  · rw [fa_le] at c_1
    refine ok_ix ⟨by omega, by omega⟩ ?_
    refine ok_lt fun s_19 e_s_19 => ?_
    have hB_s_19 : BX s_19 := by rw [e_s_19]; exact pX_66 hB_s_1 (tI_rng _)
    have hF_s_19 : FR [66, 67] [6] σ s_19 := by rw [e_s_19]; exact FR.st hF_s_1 (by decide)
    obtain ⟨t_18, ht_18, g_18⟩ : ∃ t : Int, (x1_1 + 1).toInt = t ∧ t = x1_1.toInt + (1 : Int32).toInt := ⟨_, rfl, by have h9 := fb_addI (x := x1_1) (y := (1 : Int32)) (by omega) (by omega); exact h9⟩
    refine ok_lt fun x1_20 e_x1_20 => ?_
    have q_x1_20 : x1_20.toInt = t_18 := by rw [e_x1_20]; exact ht_18
    exact ih_a_2 _ x1_20 s_19 (by rw [hn_a_2]; omega) ⟨rfl, (by omega), hB_s_19, hF_s_19⟩

set_option maxHeartbeats 4000000 in
theorem s_X2_add {x1 : Int32} {x2 : Int32} {x3 : Int32} {σ : Sto} (hB : BX σ) (hLI : LI σ) (p_x1 : 0 ≤ x1.toInt ∧ x1.toInt ≤ 12) (p_x2 : 0 ≤ x2.toInt ∧ x2.toInt ≤ 39) (p_x3 : (-1) ≤ x3.toInt ∧ x3.toInt ≤ 319) (hT : T3 x1 x3) : OK (f_X2_add x1 x2 x3 σ) (fun s => BX s ∧ FR [68, 69, 70, 71, 72] [] σ s ∧ LI s) := by
  unfold f_X2_add
  have hF : FR [68, 69, 70, 71, 72] [] σ σ := FR.rf
  have k_1 : (1 : Int32).toInt = 1 := by decide +kernel
  have k_800 : (800 : Int32).toInt = 800 := by decide +kernel
  have g9 := gX_68 hB 0
  have g_2 := gX_68 hB 0
  refine ok_ite (fun c_1 => ?_) (fun c_1 => ?_)
  · rw [fa_le] at c_1
    exact ok_ret ⟨hB, hF, hLI⟩
  · rw [fa_le] at c_1
    refine ok_ix ⟨by omega, by omega⟩ ?_
    refine ok_lt fun s_2 e_s_2 => ?_
    have hB_s_2 : BX s_2 := by rw [e_s_2]; exact pX_69 hB (by omega)
    have hF_s_2 : FR [68, 69, 70, 71, 72] [] σ s_2 := by rw [e_s_2]; exact FR.st hF (by decide)
    have w_s_2_68 : (s_2.1 68 0).toInt = (σ.1 68 0).toInt := by rw [e_s_2]; rfl
    have g_3 := gX_68 hB_s_2 0
    refine ok_ix ⟨by omega, by omega⟩ ?_
    refine ok_lt fun s_3 e_s_3 => ?_
    have hB_s_3 : BX s_3 := by rw [e_s_3]; exact pX_70 hB_s_2 (by omega)
    have hF_s_3 : FR [68, 69, 70, 71, 72] [] σ s_3 := by rw [e_s_3]; exact FR.st hF_s_2 (by decide)
    have w_s_3_68 : (s_3.1 68 0).toInt = (s_2.1 68 0).toInt := by rw [e_s_3]; rfl
    have g_4 := gX_68 hB_s_3 0
    refine ok_ix ⟨by omega, by omega⟩ ?_
    have g_5 : (s_3.1 77 0).toInt = (σ.1 77 0).toInt := by rw [hF_s_3.1 77 (by decide)]
    refine ok_lt fun s_4 e_s_4 => ?_
    have hB_s_4 : BX s_4 := by rw [e_s_4]; exact pX_71 hB_s_3 (tI_rng _)
    have hF_s_4 : FR [68, 69, 70, 71, 72] [] σ s_4 := by rw [e_s_4]; exact FR.st hF_s_3 (by decide)
    have w_s_4_68 : (s_4.1 68 0).toInt = (s_3.1 68 0).toInt := by rw [e_s_4]; rfl
    have g_6 := gX_68 hB_s_4 0
    refine ok_ix ⟨by omega, by omega⟩ ?_
    refine ok_lt fun s_5 e_s_5 => ?_
    have hB_s_5 : BX s_5 := by rw [e_s_5]; exact pX_72 hB_s_4 (by omega)
    have hF_s_5 : FR [68, 69, 70, 71, 72] [] σ s_5 := by rw [e_s_5]; exact FR.st hF_s_4 (by decide)
    have w_s_5_68 : (s_5.1 68 0).toInt = (s_4.1 68 0).toInt := by rw [e_s_5]; rfl
    have hLI_s_5 : LI s_5 := LI.two hLI e_s_2 (by rw [e_s_4, e_s_3]; rfl) (by rw [e_s_4, e_s_3, e_s_2]; rfl) e_s_5 (by rw [show s_4.1 68 = σ.1 68 by rw [e_s_4, e_s_3, e_s_2]; rfl]) hT
    have g_7 := gX_68 hB_s_5 0
    obtain ⟨t_8, ht_8, g_8⟩ : ∃ t : Int, ((s_5.1 68 0) + 1).toInt = t ∧ t = (s_5.1 68 0).toInt + (1 : Int32).toInt := ⟨_, rfl, by have h9 := fb_addI (x := (s_5.1 68 0)) (y := (1 : Int32)) (by omega) (by omega); exact h9⟩
    refine ok_lt fun s_6 e_s_6 => ?_
    have hB_s_6 : BX s_6 := by rw [e_s_6]; exact pX_68 hB_s_5 (by rw [ht_8]; omega)
    have hF_s_6 : FR [68, 69, 70, 71, 72] [] σ s_6 := by rw [e_s_6]; exact FR.st hF_s_5 (by decide)
    have w_s_6_68 : (s_6.1 68 0).toInt = t_8 := by rw [e_s_6, sti_s, ht_8]
    have hLI_s_6 : LI s_6 := by rw [e_s_6]; exact LI.st1 (by decide) hLI_s_5
    exact ok_ret ⟨hB_s_6, hF_s_6, hLI_s_6⟩

set_option maxHeartbeats 4000000 in
theorem s_X2_openLine {x1 : Int32} {x2 : Int32} {σ : Sto} (hB : BX σ) (hLI : LI σ) (p_x1 : 1 ≤ x1.toInt ∧ x1.toInt ≤ 12) (p_x2 : 0 ≤ x2.toInt ∧ x2.toInt ≤ 39) : OK (f_X2_openLine x1 x2 σ) (fun s => BX s ∧ FR [68, 69, 70, 71, 72, 77] [] σ s ∧ LI s) := by
  unfold f_X2_openLine
  have hF : FR [68, 69, 70, 71, 72, 77] [] σ σ := FR.rf
  have k_m1 : ((-1) : Int32).toInt = -1 := by decide +kernel
  have k_1 : (1 : Int32).toInt = 1 := by decide +kernel
  refine ok_cals (s_X2_add (x1 := x1) (x2 := x2) (x3 := ((-1) : Int32)) (σ := σ) hB hLI (by omega) (by omega) (by omega) (fun h => by omega)) (fun s_1 h_1 => ?_)
  obtain ⟨hB_s_1, hG_s_1, hLI_s_1⟩ := h_1
  (try dsimp only at hB_s_1 hG_s_1 hLI_s_1)
  have hF_s_1 : FR [68, 69, 70, 71, 72, 77] [] σ s_1 := FR.cal hF hG_s_1 rfl rfl
  have w_s_1_77 : (s_1.1 77 0).toInt = (σ.1 77 0).toInt := by rw [hG_s_1.1 77 (by decide)]
  obtain ⟨t_2, ht_2, g_2⟩ : ∃ t : Int, ((s_1.1 77 0) + 1).toInt = t ∧ -2147483648 ≤ t ∧ t ≤ 2147483647 := ⟨_, rfl, tI_rng _⟩
  refine ok_lt fun s_2 e_s_2 => ?_
  have hB_s_2 : BX s_2 := by rw [e_s_2]; exact pX_77 hB_s_1 (tI_rng _)
  have hF_s_2 : FR [68, 69, 70, 71, 72, 77] [] σ s_2 := by rw [e_s_2]; exact FR.st hF_s_1 (by decide)
  have w_s_2_77 : (s_2.1 77 0).toInt = t_2 := by rw [e_s_2, sti_s, ht_2]
  have hLI_s_2 : LI s_2 := by rw [e_s_2]; exact LI.st1 (by decide) hLI_s_1
  exact ok_ret ⟨hB_s_2, hF_s_2, hLI_s_2⟩

set_option maxHeartbeats 4000000 in
theorem s_X2_tellStatements {x1 : Int32} {σ : Sto} (hB : BX σ) (hLI : LI σ) (p_x1 : 0 ≤ x1.toInt ∧ x1.toInt ≤ 39) : OK (f_X2_tellStatements x1 σ) (fun s => BX s ∧ FR [68, 69, 70, 71, 72, 77] [] σ s ∧ LI s) := by
  unfold f_X2_tellStatements
  have hF : FR [68, 69, 70, 71, 72, 77] [] σ σ := FR.rf
  have k_m1 : ((-1) : Int32).toInt = -1 := by decide +kernel
  have k_0 : (0 : Int32).toInt = 0 := by decide +kernel
  have k_1 : (1 : Int32).toInt = 1 := by decide +kernel
  have k_9 : (9 : Int32).toInt = 9 := by decide +kernel
  have k_10 : (10 : Int32).toInt = 10 := by decide +kernel
  have k_11 : (11 : Int32).toInt = 11 := by decide +kernel
  refine ok_cals (s_X2_add (x1 := (11 : Int32)) (x2 := x1) (x3 := ((-1) : Int32)) (σ := σ) hB hLI (by omega) (by omega) (by omega) (fun h => by omega)) (fun s_1 h_1 => ?_)
  obtain ⟨hB_s_1, hG_s_1, hLI_s_1⟩ := h_1
  (try dsimp only at hB_s_1 hG_s_1 hLI_s_1)
  have hF_s_1 : FR [68, 69, 70, 71, 72, 77] [] σ s_1 := FR.cal hF hG_s_1 rfl rfl
  have w_s_1_77 : (s_1.1 77 0).toInt = (σ.1 77 0).toInt := by rw [hG_s_1.1 77 (by decide)]
  refine ok_ix ⟨by omega, by omega⟩ ?_
  have g_2 := gX_26 hB_s_1 (x1.toNatClampNeg)
  refine ok_lt fun v_2 e_v_2 => ?_
  have b_v_2 : (-1) ≤ v_2.toInt ∧ v_2.toInt ≤ 39 := by rw [e_v_2]; exact gX_26 hB_s_1 _
  have q_v_2 : v_2.toInt = (σ.1 26 (x1.toNatClampNeg)).toInt := by rw [e_v_2, hF_s_1.1 26 (by decide)]
  refine ok_jn ?_
  refine ok_ite (fun c_3 => ?_) (fun c_3 => ?_)
  · rw [fa_eq] at c_3
    refine ok_jn ?_
    refine ok_ite (fun c_4 => ?_) (fun c_4 => ?_)
    · rw [fa_eq] at c_4
      refine ok_ix ⟨by omega, by omega⟩ ?_
      have g_5 := gX_56 hB_s_1 (x1.toNatClampNeg)
      refine ok_lt fun v_5 e_v_5 => ?_
      have b_v_5 : 0 ≤ v_5.toInt ∧ v_5.toInt ≤ 320 := by rw [e_v_5]; exact gX_56 hB_s_1 _
      refine ok_itr2 (fun (n : Nat) (x3_6 : Int32) (s_6 : Sto) => n = (321 - x3_6.toInt).toNat ∧ (0 ≤ x3_6.toInt ∧ x3_6.toInt ≤ 320) ∧ (BX s_6) ∧ (FR [68, 69, 70, 71, 72, 77] [] σ s_6) ∧ (LI s_6)) ?_ (n := _) ⟨rfl, (by omega), hB_s_1, hF_s_1, hLI_s_1⟩ (show _ < 10000000 by omega)
      intro a_48 n x3_6 s_6 hI ih_a_48
      obtain ⟨hn_a_48, b_x3_6, hB_s_6, hF_s_6, hLI_s_6⟩ := hI
      obtain ⟨t_6, ht_6, g_6⟩ : ∃ t : Int, (x1 + 1).toInt = t ∧ t = x1.toInt + (1 : Int32).toInt := ⟨_, rfl, by have h9 := fb_addI (x := x1) (y := (1 : Int32)) (by omega) (by omega); exact h9⟩
      refine ok_ix ⟨by rw [ht_6]; omega, by rw [ht_6]; omega⟩ ?_
      have g_7 := gX_56 hB_s_6 ((x1 + 1).toNatClampNeg)
      refine ok_lt fun v_7 e_v_7 => ?_
      have b_v_7 : 0 ≤ v_7.toInt ∧ v_7.toInt ≤ 320 := by rw [e_v_7]; exact gX_56 hB_s_6 _
      refine ok_ite (fun c_8 => ?_) (fun c_8 => ?_)
      · rw [fa_le] at c_8
        refine ok_ite (fun c_9 => ?_) (fun c_9 => ?_)
        · rw [fa_eq] at c_9
          exact ok_ret ⟨hB_s_6, hF_s_6, hLI_s_6⟩
        · rw [fa_eq] at c_9
          exfalso; omega
      · rw [fa_le] at c_8
        refine ok_cals (s_X2_add (x1 := (0 : Int32)) (x2 := x1) (x3 := x3_6) (σ := s_6) hB_s_6 hLI_s_6 (by omega) (by omega) (by omega) (fun h => by omega)) (fun s_13 h_10 => ?_)
        obtain ⟨hB_s_13, hG_s_13, hLI_s_13⟩ := h_10
        (try dsimp only at hB_s_13 hG_s_13 hLI_s_13)
        have hF_s_13 : FR [68, 69, 70, 71, 72, 77] [] σ s_13 := FR.cal hF_s_6 hG_s_13 rfl rfl
        have w_s_13_77 : (s_13.1 77 0).toInt = (s_6.1 77 0).toInt := by rw [hG_s_13.1 77 (by decide)]
        obtain ⟨t_11, ht_11, g_11⟩ : ∃ t : Int, (x3_6 + 1).toInt = t ∧ t = x3_6.toInt + (1 : Int32).toInt := ⟨_, rfl, by have h9 := fb_addI (x := x3_6) (y := (1 : Int32)) (by omega) (by omega); exact h9⟩
        refine ok_lt fun x3_14 e_x3_14 => ?_
        have q_x3_14 : x3_14.toInt = t_11 := by rw [e_x3_14]; exact ht_11
        exact ih_a_48 _ x3_14 s_13 (by rw [hn_a_48]; omega) ⟨rfl, (by omega), hB_s_13, hF_s_13, hLI_s_13⟩
    · rw [fa_eq] at c_4
      exfalso; omega
  · rw [fa_eq] at c_3
    refine ok_jn ?_
    refine ok_ite (fun c_12 => ?_) (fun c_12 => ?_)
    · rw [fa_eq] at c_12
      exfalso; omega
    · rw [fa_eq] at c_12
      refine ok_cals (s_X2_openLine (x1 := (9 : Int32)) (x2 := x1) (σ := s_1) hB_s_1 hLI_s_1 (by omega) (by omega)) (fun s_16 h_13 => ?_)
      obtain ⟨hB_s_16, hG_s_16, hLI_s_16⟩ := h_13
      (try dsimp only at hB_s_16 hG_s_16 hLI_s_16)
      have hF_s_16 : FR [68, 69, 70, 71, 72, 77] [] σ s_16 := FR.cal hF_s_1 hG_s_16 rfl rfl
      refine ok_ix ⟨by omega, by omega⟩ ?_
      have g_14 := gX_56 hB_s_16 (x1.toNatClampNeg)
      refine ok_lt fun v_5 e_v_5 => ?_
      have b_v_5 : 0 ≤ v_5.toInt ∧ v_5.toInt ≤ 320 := by rw [e_v_5]; exact gX_56 hB_s_16 _
      refine ok_itr2 (fun (n : Nat) (x3_6 : Int32) (s_6 : Sto) => n = (321 - x3_6.toInt).toNat ∧ (0 ≤ x3_6.toInt ∧ x3_6.toInt ≤ 320) ∧ (BX s_6) ∧ (FR [68, 69, 70, 71, 72, 77] [] σ s_6) ∧ (LI s_6)) ?_ (n := _) ⟨rfl, (by omega), hB_s_16, hF_s_16, hLI_s_16⟩ (show _ < 10000000 by omega)
      intro a_48 n x3_6 s_6 hI ih_a_48
      obtain ⟨hn_a_48, b_x3_6, hB_s_6, hF_s_6, hLI_s_6⟩ := hI
      obtain ⟨t_15, ht_15, g_15⟩ : ∃ t : Int, (x1 + 1).toInt = t ∧ t = x1.toInt + (1 : Int32).toInt := ⟨_, rfl, by have h9 := fb_addI (x := x1) (y := (1 : Int32)) (by omega) (by omega); exact h9⟩
      refine ok_ix ⟨by rw [ht_15]; omega, by rw [ht_15]; omega⟩ ?_
      have g_16 := gX_56 hB_s_6 ((x1 + 1).toNatClampNeg)
      refine ok_lt fun v_7 e_v_7 => ?_
      have b_v_7 : 0 ≤ v_7.toInt ∧ v_7.toInt ≤ 320 := by rw [e_v_7]; exact gX_56 hB_s_6 _
      refine ok_ite (fun c_17 => ?_) (fun c_17 => ?_)
      · rw [fa_le] at c_17
        refine ok_ite (fun c_18 => ?_) (fun c_18 => ?_)
        · rw [fa_eq] at c_18
          exfalso; omega
        · rw [fa_eq] at c_18
          obtain ⟨t_19, ht_19, g_19⟩ : ∃ t : Int, ((s_6.1 77 0) - 1).toInt = t ∧ -2147483648 ≤ t ∧ t ≤ 2147483647 := ⟨_, rfl, tI_rng _⟩
          refine ok_lt fun s_10 e_s_10 => ?_
          have hB_s_10 : BX s_10 := by rw [e_s_10]; exact pX_77 hB_s_6 (tI_rng _)
          have hF_s_10 : FR [68, 69, 70, 71, 72, 77] [] σ s_10 := by rw [e_s_10]; exact FR.st hF_s_6 (by decide)
          have w_s_10_77 : (s_10.1 77 0).toInt = t_19 := by rw [e_s_10, sti_s, ht_19]
          have hLI_s_10 : LI s_10 := by rw [e_s_10]; exact LI.st1 (by decide) hLI_s_6
          refine ok_ix ⟨by omega, by omega⟩ ?_
          have g_20 := gX_26 hB_s_10 (x1.toNatClampNeg)
          refine ok_lt fun v_11 e_v_11 => ?_
          have b_v_11 : (-1) ≤ v_11.toInt ∧ v_11.toInt ≤ 39 := by rw [e_v_11]; exact gX_26 hB_s_10 _
          have q_v_11 : v_11.toInt = (σ.1 26 (x1.toNatClampNeg)).toInt := by rw [e_v_11, hF_s_10.1 26 (by decide)]
          refine ok_cals (s_X2_add (x1 := (10 : Int32)) (x2 := v_11) (x3 := ((-1) : Int32)) (σ := s_10) hB_s_10 hLI_s_10 (by omega) (by omega) (by omega) (fun h => by omega)) (fun s_12 h_21 => ?_)
          obtain ⟨hB_s_12, hG_s_12, hLI_s_12⟩ := h_21
          (try dsimp only at hB_s_12 hG_s_12 hLI_s_12)
          have hF_s_12 : FR [68, 69, 70, 71, 72, 77] [] σ s_12 := FR.cal hF_s_10 hG_s_12 rfl rfl
          have w_s_12_77 : (s_12.1 77 0).toInt = (s_10.1 77 0).toInt := by rw [hG_s_12.1 77 (by decide)]
          exact ok_ret ⟨hB_s_12, hF_s_12, hLI_s_12⟩
      · rw [fa_le] at c_17
        refine ok_cals (s_X2_add (x1 := (0 : Int32)) (x2 := x1) (x3 := x3_6) (σ := s_6) hB_s_6 hLI_s_6 (by omega) (by omega) (by omega) (fun h => by omega)) (fun s_13 h_22 => ?_)
        obtain ⟨hB_s_13, hG_s_13, hLI_s_13⟩ := h_22
        (try dsimp only at hB_s_13 hG_s_13 hLI_s_13)
        have hF_s_13 : FR [68, 69, 70, 71, 72, 77] [] σ s_13 := FR.cal hF_s_6 hG_s_13 rfl rfl
        have w_s_13_77 : (s_13.1 77 0).toInt = (s_6.1 77 0).toInt := by rw [hG_s_13.1 77 (by decide)]
        obtain ⟨t_23, ht_23, g_23⟩ : ∃ t : Int, (x3_6 + 1).toInt = t ∧ t = x3_6.toInt + (1 : Int32).toInt := ⟨_, rfl, by have h9 := fb_addI (x := x3_6) (y := (1 : Int32)) (by omega) (by omega); exact h9⟩
        refine ok_lt fun x3_14 e_x3_14 => ?_
        have q_x3_14 : x3_14.toInt = t_23 := by rw [e_x3_14]; exact ht_23
        exact ih_a_48 _ x3_14 s_13 (by rw [hn_a_48]; omega) ⟨rfl, (by omega), hB_s_13, hF_s_13, hLI_s_13⟩

theorem s_X2_goOn {x1 : Int32} {x2 : Int32} {x3 : Int32} {σ : Sto} (hB : BX σ) (p_x1 : 0 ≤ x1.toInt ∧ x1.toInt ≤ 39) (p_x2 : (-1) ≤ x2.toInt ∧ x2.toInt ≤ 39) (p_x3 : 0 ≤ x3.toInt ∧ x3.toInt ≤ 60) : OK (f_X2_goOn 250 x1 x2 x3 σ) (fun s => BX s ∧ FR [68, 69, 70, 71, 72, 77] [] σ s) := sorry
set_option maxHeartbeats 4000000 in
theorem s_X2_closeLine {x1 : Int32} {σ : Sto} (hB : BX σ) (hLI : LI σ) (p_x1 : 0 ≤ x1.toInt ∧ x1.toInt ≤ 39) : OK (f_X2_closeLine x1 σ) (fun s => BX s ∧ FR [68, 69, 70, 71, 72, 77] [] σ s ∧ LI s) := by
  unfold f_X2_closeLine
  have hF : FR [68, 69, 70, 71, 72, 77] [] σ σ := FR.rf
  have k_m1 : ((-1) : Int32).toInt = -1 := by decide +kernel
  have k_1 : (1 : Int32).toInt = 1 := by decide +kernel
  have k_5 : (5 : Int32).toInt = 5 := by decide +kernel
  obtain ⟨t_1, ht_1, g_1⟩ : ∃ t : Int, ((σ.1 77 0) - 1).toInt = t ∧ -2147483648 ≤ t ∧ t ≤ 2147483647 := ⟨_, rfl, tI_rng _⟩
  refine ok_lt fun s_1 e_s_1 => ?_
  have hB_s_1 : BX s_1 := by rw [e_s_1]; exact pX_77 hB (tI_rng _)
  have hF_s_1 : FR [68, 69, 70, 71, 72, 77] [] σ s_1 := by rw [e_s_1]; exact FR.st hF (by decide)
  have w_s_1_77 : (s_1.1 77 0).toInt = t_1 := by rw [e_s_1, sti_s, ht_1]
  have hLI_s_1 : LI s_1 := by rw [e_s_1]; exact LI.st1 (by decide) hLI
  refine ok_cals (s_X2_add (x1 := (5 : Int32)) (x2 := x1) (x3 := ((-1) : Int32)) (σ := s_1) hB_s_1 hLI_s_1 (by omega) (by omega) (by omega) (fun h => by omega)) (fun s_2 h_2 => ?_)
  obtain ⟨hB_s_2, hG_s_2, hLI_s_2⟩ := h_2
  (try dsimp only at hB_s_2 hG_s_2 hLI_s_2)
  have hF_s_2 : FR [68, 69, 70, 71, 72, 77] [] σ s_2 := FR.cal hF_s_1 hG_s_2 rfl rfl
  have w_s_2_77 : (s_2.1 77 0).toInt = (s_1.1 77 0).toInt := by rw [hG_s_2.1 77 (by decide)]
  exact ok_ret ⟨hB_s_2, hF_s_2, hLI_s_2⟩

theorem s_X2_tellEnd {x1 : Int32} {x2 : Int32} {σ : Sto} (hB : BX σ) (p_x1 : 0 ≤ x1.toInt ∧ x1.toInt ≤ 39) (p_x2 : 0 ≤ x2.toInt ∧ x2.toInt ≤ 60) : OK (f_X2_tellEnd 250 x1 x2 σ) (fun s => BX s ∧ FR [68, 69, 70, 71, 72, 77] [] σ s) := sorry
set_option maxHeartbeats 4000000 in
theorem s_X2_isMergeUnder {x1 : Int32} {x2 : Int32} {σ : Sto} (hB : BX σ) (p_x1 : 0 ≤ x1.toInt ∧ x1.toInt ≤ 39) (p_x2 : 0 ≤ x2.toInt ∧ x2.toInt ≤ 39) : OK (f_X2_isMergeUnder x1 x2 σ) (fun v => (0 ≤ v.toInt ∧ v.toInt ≤ 1)) := by
  unfold f_X2_isMergeUnder
  have hF : FR [] [] σ σ := FR.rf
  have k_0 : (0 : Int32).toInt = 0 := by decide +kernel
  have k_1 : (1 : Int32).toInt = 1 := by decide +kernel
  refine ok_calp (s_X11_isIn (x1 := (σ.2 4 0)) (x2 := x1) ) (fun v_1 h_1 => ?_)
  have b_v_1 := h_1
  (try dsimp only at b_v_1)
  refine ok_jn ?_
  refine ok_ite (fun c_2 => ?_) (fun c_2 => ?_)
  · rw [fa_eq] at c_2
    exact ok_ret (by (try dsimp only); omega)
  · rw [fa_eq] at c_2
    refine ok_ix ⟨by omega, by omega⟩ ?_
    have g_3 := gX_41 hB (x1.toNatClampNeg)
    refine ok_lt fun v_4 e_v_4 => ?_
    have b_v_4 : (-1) ≤ v_4.toInt ∧ v_4.toInt ≤ 39 := by rw [e_v_4]; exact gX_41 hB _
    refine ok_ite (fun c_4 => ?_) (fun c_4 => ?_)
    · rw [fa_eq] at c_4
      exact ok_ret (by (try dsimp only); omega)
    · rw [fa_eq] at c_4
      exact ok_ret (by (try dsimp only); omega)

theorem s_X2_tell {x1 : Int32} {x2 : Int32} {σ : Sto} (hB : BX σ) (p_x1 : 0 ≤ x1.toInt ∧ x1.toInt ≤ 39) (p_x2 : 0 ≤ x2.toInt ∧ x2.toInt ≤ 61) : OK (f_X2_tell 250 x1 x2 σ) (fun s => BX s ∧ FR [68, 69, 70, 71, 72, 77] [] σ s) := sorry
set_option maxHeartbeats 4000000 in
theorem s_X2_mark {x1 : Int32} {σ : Sto} (hB : BX σ) (p_x1 : 0 ≤ x1.toInt ∧ x1.toInt ≤ 799) : OK (f_X2_mark x1 σ) (fun s => BX s ∧ FR [73, 74, 75] [] σ s) := by
  unfold f_X2_mark
  have hF : FR [73, 74, 75] [] σ σ := FR.rf
  have k_1 : (1 : Int32).toInt = 1 := by decide +kernel
  have k_2 : (2 : Int32).toInt = 2 := by decide +kernel
  have k_5 : (5 : Int32).toInt = 5 := by decide +kernel
  have k_11 : (11 : Int32).toInt = 11 := by decide +kernel
  refine ok_ix ⟨by omega, by omega⟩ ?_
  have g_1 := gX_69 hB (x1.toNatClampNeg)
  refine ok_lt fun v_1 e_v_1 => ?_
  have b_v_1 : 0 ≤ v_1.toInt ∧ v_1.toInt ≤ 12 := by rw [e_v_1]; exact gX_69 hB _
  have q_v_1 : v_1.toInt = (σ.1 69 x1.toNatClampNeg).toInt := by rw [e_v_1]
  refine ok_ite (fun c_2 => ?_) (fun c_2 => ?_)
  · rw [fa_eq] at c_2
    refine ok_ix ⟨by omega, by omega⟩ ?_
    have g_3 := gX_70 hB (x1.toNatClampNeg)
    refine ok_lt fun v_3 e_v_3 => ?_
    have b_v_3 : 0 ≤ v_3.toInt ∧ v_3.toInt ≤ 39 := by rw [e_v_3]; exact gX_70 hB _
    have q_v_3 : v_3.toInt = (σ.1 70 x1.toNatClampNeg).toInt := by rw [e_v_3]
    refine ok_ix ⟨by omega, by omega⟩ ?_
    refine ok_lt fun s_4 e_s_4 => ?_
    have hB_s_4 : BX s_4 := by rw [e_s_4]; exact pX_73 hB (by omega)
    have hF_s_4 : FR [73, 74, 75] [] σ s_4 := by rw [e_s_4]; exact FR.st hF (by decide)
    exact ok_ret ⟨hB_s_4, hF_s_4⟩
  · rw [fa_eq] at c_2
    refine ok_ix ⟨by omega, by omega⟩ ?_
    refine ok_lt fun v_5 e_v_5 => ?_
    have b_v_5 : 0 ≤ v_5.toInt ∧ v_5.toInt ≤ 12 := by rw [e_v_5]; exact gX_69 hB _
    have q_v_5 : v_5.toInt = (σ.1 69 x1.toNatClampNeg).toInt := by rw [e_v_5]
    refine ok_ite (fun c_4 => ?_) (fun c_4 => ?_)
    · rw [fa_eq] at c_4
      refine ok_ix ⟨by omega, by omega⟩ ?_
      have g_5 := gX_70 hB (x1.toNatClampNeg)
      refine ok_lt fun v_7 e_v_7 => ?_
      have b_v_7 : 0 ≤ v_7.toInt ∧ v_7.toInt ≤ 39 := by rw [e_v_7]; exact gX_70 hB _
      have q_v_7 : v_7.toInt = (σ.1 70 x1.toNatClampNeg).toInt := by rw [e_v_7]
      refine ok_ix ⟨by omega, by omega⟩ ?_
      refine ok_lt fun s_8 e_s_8 => ?_
      have hB_s_8 : BX s_8 := by rw [e_s_8]; exact pX_74 hB (by omega)
      have hF_s_8 : FR [73, 74, 75] [] σ s_8 := by rw [e_s_8]; exact FR.st hF (by decide)
      exact ok_ret ⟨hB_s_8, hF_s_8⟩
    · rw [fa_eq] at c_4
      refine ok_ix ⟨by omega, by omega⟩ ?_
      refine ok_lt fun v_9 e_v_9 => ?_
      have b_v_9 : 0 ≤ v_9.toInt ∧ v_9.toInt ≤ 12 := by rw [e_v_9]; exact gX_69 hB _
      have q_v_9 : v_9.toInt = (σ.1 69 x1.toNatClampNeg).toInt := by rw [e_v_9]
      refine ok_ite (fun c_6 => ?_) (fun c_6 => ?_)
      · rw [fa_eq] at c_6
        refine ok_ix ⟨by omega, by omega⟩ ?_
        have g_7 := gX_72 hB (x1.toNatClampNeg)
        refine ok_lt fun v_11 e_v_11 => ?_
        have b_v_11 : (-1) ≤ v_11.toInt ∧ v_11.toInt ≤ 799 := by rw [e_v_11]; exact gX_72 hB _
        refine ok_ite (fun c_8 => ?_) (fun c_8 => ?_)
        · rw [fa_eq] at c_8
          refine ok_ix ⟨by omega, by omega⟩ ?_
          have g_9 := gX_70 hB (x1.toNatClampNeg)
          refine ok_lt fun v_13 e_v_13 => ?_
          have b_v_13 : 0 ≤ v_13.toInt ∧ v_13.toInt ≤ 39 := by rw [e_v_13]; exact gX_70 hB _
          have q_v_13 : v_13.toInt = (σ.1 70 x1.toNatClampNeg).toInt := by rw [e_v_13]
          refine ok_ix ⟨by omega, by omega⟩ ?_
          refine ok_lt fun s_14 e_s_14 => ?_
          have hB_s_14 : BX s_14 := by rw [e_s_14]; exact pX_75 hB (by omega)
          have hF_s_14 : FR [73, 74, 75] [] σ s_14 := by rw [e_s_14]; exact FR.st hF (by decide)
          exact ok_ret ⟨hB_s_14, hF_s_14⟩
        · rw [fa_eq] at c_8
          exact ok_ret ⟨hB, hF⟩
      · rw [fa_eq] at c_6
        exact ok_ret ⟨hB, hF⟩

theorem s_X2_match {σ : Sto} (hB : BX σ) : OK (f_X2_match σ) (fun s => BX s ∧ FR [72, 73, 74, 75, 76] [] σ s) := sorry
set_option maxHeartbeats 4000000 in
theorem s_X2_endsAnyway {x1 : Int32} {σ : Sto} (hB : BX σ) (p_x1 : 0 ≤ x1.toInt ∧ x1.toInt ≤ 799) : OK (f_X2_endsAnyway x1 σ) (fun v => (0 ≤ v.toInt ∧ v.toInt ≤ 1)) := by
  unfold f_X2_endsAnyway
  have hF : FR [] [] σ σ := FR.rf
  have k_0 : (0 : Int32).toInt = 0 := by decide +kernel
  have k_1 : (1 : Int32).toInt = 1 := by decide +kernel
  have k_2 : (2 : Int32).toInt = 2 := by decide +kernel
  have k_4 : (4 : Int32).toInt = 4 := by decide +kernel
  have k_5 : (5 : Int32).toInt = 5 := by decide +kernel
  obtain ⟨t_1, ht_1, g_1⟩ : ∃ t : Int, (x1 + 1).toInt = t ∧ t = x1.toInt + (1 : Int32).toInt := ⟨_, rfl, by have h9 := fb_addI (x := x1) (y := (1 : Int32)) (by omega) (by omega); exact h9⟩
  refine ok_lt fun x2_1 e_x2_1 => ?_
  have q_x2_1 : x2_1.toInt = t_1 := by rw [e_x2_1]; exact ht_1
  refine ok_itr2 (fun (n : Nat) (x2_2 : Int32) (x3_2 : Int32) => n = (801 - x3_2.toInt).toNat ∧ (0 ≤ x2_2.toInt ∧ x2_2.toInt ≤ 800) ∧ (0 ≤ x3_2.toInt ∧ x3_2.toInt ≤ 800)) ?_ (n := _) ⟨rfl, (by omega), (by omega)⟩ (show _ < 10000000 by omega)
  intro a_6 n x2_2 x3_2 hI ih_a_6
  obtain ⟨hn_a_6, b_x2_2, b_x3_2⟩ := hI
  have g_3 := gX_68 hB 0
  refine ok_ite (fun c_2 => ?_) (fun c_2 => ?_)
  · rw [fa_le] at c_2
    exact ok_ret (by (try dsimp only); omega)
  · rw [fa_le] at c_2
    refine ok_ite (fun c_4 => ?_) (fun c_4 => ?_)
    · rw [fa_le] at c_4
      exact ok_ret (by (try dsimp only); omega)
    · rw [fa_le] at c_4
      refine ok_ix ⟨by omega, by omega⟩ ?_
      have g_5 := gX_69 hB (x2_2.toNatClampNeg)
      refine ok_lt fun v_5 e_v_5 => ?_
      have b_v_5 : 0 ≤ v_5.toInt ∧ v_5.toInt ≤ 12 := by rw [e_v_5]; exact gX_69 hB _
      have q_v_5 : v_5.toInt = (σ.1 69 x2_2.toNatClampNeg).toInt := by rw [e_v_5]
      refine ok_jn ?_
      refine ok_ite (fun c_6 => ?_) (fun c_6 => ?_)
      · rw [fa_eq] at c_6
        refine ok_ix ⟨by omega, by omega⟩ ?_
        have g_7 := gX_72 hB (x2_2.toNatClampNeg)
        refine ok_lt fun v_9 e_v_9 => ?_
        have b_v_9 : (-1) ≤ v_9.toInt ∧ v_9.toInt ≤ 799 := by rw [e_v_9]; exact gX_72 hB _
        have q_v_9 : v_9.toInt = (σ.1 72 x2_2.toNatClampNeg).toInt := by rw [e_v_9]
        obtain ⟨t_8, ht_8, g_8⟩ : ∃ t : Int, (v_9 + 1).toInt = t ∧ t = v_9.toInt + (1 : Int32).toInt := ⟨_, rfl, by have h9 := fb_addI (x := v_9) (y := (1 : Int32)) (by omega) (by omega); exact h9⟩
        refine ok_lt fun x2_10 e_x2_10 => ?_
        have q_x2_10 : x2_10.toInt = t_8 := by rw [e_x2_10]; exact ht_8
        obtain ⟨t_9, ht_9, g_9⟩ : ∃ t : Int, (x3_2 + 1).toInt = t ∧ t = x3_2.toInt + (1 : Int32).toInt := ⟨_, rfl, by have h9 := fb_addI (x := x3_2) (y := (1 : Int32)) (by omega) (by omega); exact h9⟩
        refine ok_lt fun x3_7 e_x3_7 => ?_
        have q_x3_7 : x3_7.toInt = t_9 := by rw [e_x3_7]; exact ht_9
        exact ih_a_6 _ x2_10 x3_7 (by rw [hn_a_6]; omega) ⟨rfl, (by omega), (by omega)⟩
      · rw [fa_eq] at c_6
        refine ok_ix ⟨by omega, by omega⟩ ?_
        refine ok_lt fun v_11 e_v_11 => ?_
        have b_v_11 : 0 ≤ v_11.toInt ∧ v_11.toInt ≤ 12 := by rw [e_v_11]; exact gX_69 hB _
        have q_v_11 : v_11.toInt = (σ.1 69 x2_2.toNatClampNeg).toInt := by rw [e_v_11]
        refine ok_ite (fun c_10 => ?_) (fun c_10 => ?_)
        · rw [fa_eq] at c_10
          refine ok_ix ⟨by omega, by omega⟩ ?_
          have g_11 := gX_72 hB (x2_2.toNatClampNeg)
          refine ok_lt fun v_13 e_v_13 => ?_
          have b_v_13 : (-1) ≤ v_13.toInt ∧ v_13.toInt ≤ 799 := by rw [e_v_13]; exact gX_72 hB _
          have q_v_13 : v_13.toInt = (σ.1 72 x2_2.toNatClampNeg).toInt := by rw [e_v_13]
          refine ok_jn ?_
          refine ok_ite (fun c_12 => ?_) (fun c_12 => ?_)
          · rw [fa_eq] at c_12
            refine ok_ix ⟨by omega, by omega⟩ ?_
            have g_13 := gX_70 hB (x2_2.toNatClampNeg)
            refine ok_lt fun v_17 e_v_17 => ?_
            have b_v_17 : 0 ≤ v_17.toInt ∧ v_17.toInt ≤ 39 := by rw [e_v_17]; exact gX_70 hB _
            refine ok_ix ⟨by omega, by omega⟩ ?_
            have g_14 := gX_70 hB (x1.toNatClampNeg)
            refine ok_lt fun v_18 e_v_18 => ?_
            have b_v_18 : 0 ≤ v_18.toInt ∧ v_18.toInt ≤ 39 := by rw [e_v_18]; exact gX_70 hB _
            refine ok_ite (fun c_15 => ?_) (fun c_15 => ?_)
            · rw [fa_eq] at c_15
              exact ok_ret (by (try dsimp only); omega)
            · rw [fa_eq] at c_15
              obtain ⟨t_16, ht_16, g_16⟩ : ∃ t : Int, (x2_2 + 1).toInt = t ∧ t = x2_2.toInt + (1 : Int32).toInt := ⟨_, rfl, by have h9 := fb_addI (x := x2_2) (y := (1 : Int32)) (by omega) (by omega); exact h9⟩
              refine ok_lt fun x2_15 e_x2_15 => ?_
              have q_x2_15 : x2_15.toInt = t_16 := by rw [e_x2_15]; exact ht_16
              obtain ⟨t_17, ht_17, g_17⟩ : ∃ t : Int, (x3_2 + 1).toInt = t ∧ t = x3_2.toInt + (1 : Int32).toInt := ⟨_, rfl, by have h9 := fb_addI (x := x3_2) (y := (1 : Int32)) (by omega) (by omega); exact h9⟩
              refine ok_lt fun x3_7 e_x3_7 => ?_
              have q_x3_7 : x3_7.toInt = t_17 := by rw [e_x3_7]; exact ht_17
              exact ih_a_6 _ x2_15 x3_7 (by rw [hn_a_6]; omega) ⟨rfl, (by omega), (by omega)⟩
          · rw [fa_eq] at c_12
            obtain ⟨t_18, ht_18, g_18⟩ : ∃ t : Int, (x2_2 + 1).toInt = t ∧ t = x2_2.toInt + (1 : Int32).toInt := ⟨_, rfl, by have h9 := fb_addI (x := x2_2) (y := (1 : Int32)) (by omega) (by omega); exact h9⟩
            refine ok_lt fun x2_15 e_x2_15 => ?_
            have q_x2_15 : x2_15.toInt = t_18 := by rw [e_x2_15]; exact ht_18
            obtain ⟨t_19, ht_19, g_19⟩ : ∃ t : Int, (x3_2 + 1).toInt = t ∧ t = x3_2.toInt + (1 : Int32).toInt := ⟨_, rfl, by have h9 := fb_addI (x := x3_2) (y := (1 : Int32)) (by omega) (by omega); exact h9⟩
            refine ok_lt fun x3_7 e_x3_7 => ?_
            have q_x3_7 : x3_7.toInt = t_19 := by rw [e_x3_7]; exact ht_19
            exact ih_a_6 _ x2_15 x3_7 (by rw [hn_a_6]; omega) ⟨rfl, (by omega), (by omega)⟩
        · rw [fa_eq] at c_10
          exact ok_ret (by (try dsimp only); omega)

set_option maxHeartbeats 4000000 in
theorem s_X2_leaveOut {σ : Sto} (hB : BX σ) : OK (f_X2_leaveOut σ) (fun s => BX s ∧ FR [69] [] σ s) := by
  unfold f_X2_leaveOut
  have hF : FR [69] [] σ σ := FR.rf
  have k_0 : (0 : Int32).toInt = 0 := by decide +kernel
  have k_1 : (1 : Int32).toInt = 1 := by decide +kernel
  have k_2 : (2 : Int32).toInt = 2 := by decide +kernel
  have k_4 : (4 : Int32).toInt = 4 := by decide +kernel
  have k_6 : (6 : Int32).toInt = 6 := by decide +kernel
  have k_12 : (12 : Int32).toInt = 12 := by decide +kernel
  refine ok_itr2 (fun (n : Nat) (x1_1 : Int32) (s_1 : Sto) => n = (801 - x1_1.toInt).toNat ∧ (0 ≤ x1_1.toInt ∧ x1_1.toInt ≤ 800) ∧ (BX s_1) ∧ (FR [69] [] σ s_1)) ?_ (n := _) ⟨rfl, (by omega), hB, hF⟩ (show _ < 10000000 by omega)
  intro a_2 n x1_1 s_1 hI ih_a_2
  obtain ⟨hn_a_2, b_x1_1, hB_s_1, hF_s_1⟩ := hI
  have g_2 := gX_68 hB_s_1 0
  have g_3 : (s_1.1 68 0).toInt = (σ.1 68 0).toInt := by rw [hF_s_1.1 68 (by decide)]
  have g_4 := gX_68 hB 0
  refine ok_ite (fun c_1 => ?_) (fun c_1 => ?_)
  · rw [fa_le] at c_1
    refine ok_itr2 (fun (n : Nat) (x1_3 : Int32) (s_3 : Sto) => n = (800 - x1_3.toInt).toNat ∧ (0 ≤ x1_3.toInt ∧ x1_3.toInt ≤ 799) ∧ (BX s_3) ∧ (FR [69] [] σ s_3)) ?_ (n := _) ⟨rfl, (by omega), hB_s_1, hF_s_1⟩ (show _ < 10000000 by omega)
    intro a_45 n x1_3 s_3 hI ih_a_45
    obtain ⟨hn_a_45, b_x1_3, hB_s_3, hF_s_3⟩ := hI
    have g_6 := gX_68 hB_s_3 0
    have g_7 : (s_3.1 68 0).toInt = (σ.1 68 0).toInt := by rw [hF_s_3.1 68 (by decide)]
    obtain ⟨t_8, ht_8, g_8⟩ : ∃ t : Int, (x1_3 + 1).toInt = t ∧ t = x1_3.toInt + (1 : Int32).toInt := ⟨_, rfl, by have h9 := fb_addI (x := x1_3) (y := (1 : Int32)) (by omega) (by omega); exact h9⟩
    refine ok_ite (fun c_5 => ?_) (fun c_5 => ?_)
    · rw [fa_le, ht_8] at c_5
      exact ok_ret ⟨hB_s_3, hF_s_3⟩
    · rw [fa_le, ht_8] at c_5
      refine ok_ix ⟨by omega, by omega⟩ ?_
      have g_9 := gX_69 hB_s_3 (x1_3.toNatClampNeg)
      refine ok_lt fun v_5 e_v_5 => ?_
      have b_v_5 : 0 ≤ v_5.toInt ∧ v_5.toInt ≤ 12 := by rw [e_v_5]; exact gX_69 hB_s_3 _
      refine ok_jn ?_
      refine ok_ite (fun c_10 => ?_) (fun c_10 => ?_)
      · rw [fa_eq] at c_10
        refine ok_ix ⟨by rw [ht_8]; omega, by rw [ht_8]; omega⟩ ?_
        have g_11 := gX_69 hB_s_3 ((x1_3 + 1).toNatClampNeg)
        refine ok_lt fun v_9 e_v_9 => ?_
        have b_v_9 : 0 ≤ v_9.toInt ∧ v_9.toInt ≤ 12 := by rw [e_v_9]; exact gX_69 hB_s_3 _
        refine ok_ite (fun c_12 => ?_) (fun c_12 => ?_)
        · rw [fa_eq] at c_12
          refine ok_ix ⟨by omega, by omega⟩ ?_
          have g_13 := gX_72 hB_s_3 (x1_3.toNatClampNeg)
          refine ok_lt fun v_11 e_v_11 => ?_
          have b_v_11 : (-1) ≤ v_11.toInt ∧ v_11.toInt ≤ 799 := by rw [e_v_11]; exact gX_72 hB_s_3 _
          obtain ⟨t_15, ht_15, g_15⟩ : ∃ t : Int, (x1_3 + 2).toInt = t ∧ t = x1_3.toInt + (2 : Int32).toInt := ⟨_, rfl, by have h9 := fb_addI (x := x1_3) (y := (2 : Int32)) (by omega) (by omega); exact h9⟩
          refine ok_ite (fun c_14 => ?_) (fun c_14 => ?_)
          · rw [fa_eq, ht_15] at c_14
            refine ok_ix ⟨by omega, by omega⟩ ?_
            refine ok_lt fun s_13 e_s_13 => ?_
            have hB_s_13 : BX s_13 := by rw [e_s_13]; exact pX_69 hB_s_3 (by omega)
            have hF_s_13 : FR [69] [] σ s_13 := by rw [e_s_13]; exact FR.st hF_s_3 (by decide)
            refine ok_lt fun x1_7 e_x1_7 => ?_
            have q_x1_7 : x1_7.toInt = t_8 := by rw [e_x1_7]; exact ht_8
            exact ih_a_45 _ x1_7 s_13 (by rw [hn_a_45]; omega) ⟨rfl, (by omega), hB_s_13, hF_s_13⟩
          · rw [fa_eq, ht_15] at c_14
            refine ok_lt fun x1_7 e_x1_7 => ?_
            have q_x1_7 : x1_7.toInt = t_8 := by rw [e_x1_7]; exact ht_8
            exact ih_a_45 _ x1_7 s_3 (by rw [hn_a_45]; omega) ⟨rfl, (by omega), hB_s_3, hF_s_3⟩
        · rw [fa_eq] at c_12
          refine ok_lt fun x1_7 e_x1_7 => ?_
          have q_x1_7 : x1_7.toInt = t_8 := by rw [e_x1_7]; exact ht_8
          exact ih_a_45 _ x1_7 s_3 (by rw [hn_a_45]; omega) ⟨rfl, (by omega), hB_s_3, hF_s_3⟩
      · rw [fa_eq] at c_10
        refine ok_lt fun x1_7 e_x1_7 => ?_
        have q_x1_7 : x1_7.toInt = t_8 := by rw [e_x1_7]; exact ht_8
        exact ih_a_45 _ x1_7 s_3 (by rw [hn_a_45]; omega) ⟨rfl, (by omega), hB_s_3, hF_s_3⟩
  · rw [fa_le] at c_1
    refine ok_ix ⟨by omega, by omega⟩ ?_
    have g_16 := gX_69 hB_s_1 (x1_1.toNatClampNeg)
    refine ok_lt fun v_14 e_v_14 => ?_
    have b_v_14 : 0 ≤ v_14.toInt ∧ v_14.toInt ≤ 12 := by rw [e_v_14]; exact gX_69 hB_s_1 _
    refine ok_jn ?_
    refine ok_ite (fun c_17 => ?_) (fun c_17 => ?_)
    · rw [fa_eq] at c_17
      refine ok_calp (s_X2_endsAnyway (x1 := x1_1) (σ := s_1) hB_s_1 (by omega)) (fun v_18 h_18 => ?_)
      have b_v_18 := h_18
      (try dsimp only at b_v_18)
      refine ok_ite (fun c_19 => ?_) (fun c_19 => ?_)
      · rw [fa_eq] at c_19
        obtain ⟨t_20, ht_20, g_20⟩ : ∃ t : Int, (x1_1 + 1).toInt = t ∧ t = x1_1.toInt + (1 : Int32).toInt := ⟨_, rfl, by have h9 := fb_addI (x := x1_1) (y := (1 : Int32)) (by omega) (by omega); exact h9⟩
        refine ok_lt fun x1_16 e_x1_16 => ?_
        have q_x1_16 : x1_16.toInt = t_20 := by rw [e_x1_16]; exact ht_20
        exact ih_a_2 _ x1_16 s_1 (by rw [hn_a_2]; omega) ⟨rfl, (by omega), hB_s_1, hF_s_1⟩
      · rw [fa_eq] at c_19
        refine ok_ix ⟨by omega, by omega⟩ ?_
        refine ok_lt fun s_20 e_s_20 => ?_
        have hB_s_20 : BX s_20 := by rw [e_s_20]; exact pX_69 hB_s_1 (by omega)
        have hF_s_20 : FR [69] [] σ s_20 := by rw [e_s_20]; exact FR.st hF_s_1 (by decide)
        obtain ⟨t_21, ht_21, g_21⟩ : ∃ t : Int, (x1_1 + 1).toInt = t ∧ t = x1_1.toInt + (1 : Int32).toInt := ⟨_, rfl, by have h9 := fb_addI (x := x1_1) (y := (1 : Int32)) (by omega) (by omega); exact h9⟩
        refine ok_lt fun x1_16 e_x1_16 => ?_
        have q_x1_16 : x1_16.toInt = t_21 := by rw [e_x1_16]; exact ht_21
        exact ih_a_2 _ x1_16 s_20 (by rw [hn_a_2]; omega) ⟨rfl, (by omega), hB_s_20, hF_s_20⟩
    · rw [fa_eq] at c_17
      obtain ⟨t_22, ht_22, g_22⟩ : ∃ t : Int, (x1_1 + 1).toInt = t ∧ t = x1_1.toInt + (1 : Int32).toInt := ⟨_, rfl, by have h9 := fb_addI (x := x1_1) (y := (1 : Int32)) (by omega) (by omega); exact h9⟩
      refine ok_lt fun x1_16 e_x1_16 => ?_
      have q_x1_16 : x1_16.toInt = t_22 := by rw [e_x1_16]; exact ht_22
      exact ih_a_2 _ x1_16 s_1 (by rw [hn_a_2]; omega) ⟨rfl, (by omega), hB_s_1, hF_s_1⟩

set_option maxHeartbeats 4000000 in
theorem s_X2_close {σ : Sto} (hB : BX σ) : OK (f_X2_close σ) (fun s => BX s ∧ FR [68, 69, 70, 71, 72] [] σ s) := by
  unfold f_X2_close
  have hF : FR [68, 69, 70, 71, 72] [] σ σ := FR.rf
  have k_0 : (0 : Int32).toInt = 0 := by decide +kernel
  have k_1 : (1 : Int32).toInt = 1 := by decide +kernel
  have k_12 : (12 : Int32).toInt = 12 := by decide +kernel
  refine ok_itr3 (fun (n : Nat) (x1_1 : Int32) (x2_1 : Int32) (s_1 : Sto) => n = (801 - x2_1.toInt).toNat ∧ (0 ≤ x1_1.toInt ∧ x1_1.toInt ≤ 800) ∧ (0 ≤ x2_1.toInt ∧ x2_1.toInt ≤ 800) ∧ (BX s_1) ∧ (FR [68, 69, 70, 71, 72] [] σ s_1) ∧ (x1_1.toInt ≤ x2_1.toInt)) ?_ (n := _) ⟨rfl, (by omega), (by omega), hB, hF, (by omega)⟩ (show _ < 10000000 by omega)
  intro a_4 n x1_1 x2_1 s_1 hI ih_a_4
  obtain ⟨hn_a_4, b_x1_1, b_x2_1, hB_s_1, hF_s_1, hle⟩ := hI
  have g_2 := gX_68 hB_s_1 0
  refine ok_ite (fun c_1 => ?_) (fun c_1 => ?_)
  · rw [fa_le] at c_1
    refine ok_lt fun s_3 e_s_3 => ?_
    have hB_s_3 : BX s_3 := by rw [e_s_3]; exact pX_68 hB_s_1 (by omega)
    have hF_s_3 : FR [68, 69, 70, 71, 72] [] σ s_3 := by rw [e_s_3]; exact FR.st hF_s_1 (by decide)
    have w_s_3_68 : (s_3.1 68 0).toInt = x1_1.toInt := by rw [e_s_3, sti_s]
    exact ok_ret ⟨hB_s_3, hF_s_3⟩
  · rw [fa_le] at c_1
    refine ok_ix ⟨by omega, by omega⟩ ?_
    have g_3 := gX_69 hB_s_1 (x2_1.toNatClampNeg)
    refine ok_lt fun v_4 e_v_4 => ?_
    have b_v_4 : 0 ≤ v_4.toInt ∧ v_4.toInt ≤ 12 := by rw [e_v_4]; exact gX_69 hB_s_1 _
    have q_v_4 : v_4.toInt = (s_1.1 69 x2_1.toNatClampNeg).toInt := by rw [e_v_4]
    refine ok_jn ?_
    refine ok_ite (fun c_4 => ?_) (fun c_4 => ?_)
    · rw [fa_eq] at c_4
      obtain ⟨t_5, ht_5, g_5⟩ : ∃ t : Int, (x2_1 + 1).toInt = t ∧ t = x2_1.toInt + (1 : Int32).toInt := ⟨_, rfl, by have h9 := fb_addI (x := x2_1) (y := (1 : Int32)) (by omega) (by omega); exact h9⟩
      refine ok_lt fun x2_6 e_x2_6 => ?_
      have q_x2_6 : x2_6.toInt = t_5 := by rw [e_x2_6]; exact ht_5
      exact ih_a_4 _ x1_1 x2_6 s_1 (by rw [hn_a_4]; omega) ⟨rfl, (by omega), (by omega), hB_s_1, hF_s_1, (by omega)⟩
    · rw [fa_eq] at c_4
      refine ok_ix ⟨by omega, by omega⟩ ?_
      refine ok_lt fun v_8 e_v_8 => ?_
      have b_v_8 : 0 ≤ v_8.toInt ∧ v_8.toInt ≤ 12 := by rw [e_v_8]; exact gX_69 hB_s_1 _
      have q_v_8 : v_8.toInt = (s_1.1 69 x2_1.toNatClampNeg).toInt := by rw [e_v_8]
      refine ok_ix ⟨by omega, by omega⟩ ?_
      refine ok_lt fun s_9 e_s_9 => ?_
      have hB_s_9 : BX s_9 := by rw [e_s_9]; exact pX_69 hB_s_1 (by omega)
      have hF_s_9 : FR [68, 69, 70, 71, 72] [] σ s_9 := by rw [e_s_9]; exact FR.st hF_s_1 (by decide)
      have w_s_9_68 : (s_9.1 68 0).toInt = (s_1.1 68 0).toInt := by rw [e_s_9]; rfl
      refine ok_ix ⟨by omega, by omega⟩ ?_
      have g_6 := gX_70 hB_s_9 (x2_1.toNatClampNeg)
      refine ok_lt fun v_10 e_v_10 => ?_
      have b_v_10 : 0 ≤ v_10.toInt ∧ v_10.toInt ≤ 39 := by rw [e_v_10]; exact gX_70 hB_s_9 _
      refine ok_ix ⟨by omega, by omega⟩ ?_
      refine ok_lt fun s_11 e_s_11 => ?_
      have hB_s_11 : BX s_11 := by rw [e_s_11]; exact pX_70 hB_s_9 (by omega)
      have hF_s_11 : FR [68, 69, 70, 71, 72] [] σ s_11 := by rw [e_s_11]; exact FR.st hF_s_9 (by decide)
      have w_s_11_68 : (s_11.1 68 0).toInt = (s_9.1 68 0).toInt := by rw [e_s_11]; rfl
      refine ok_ix ⟨by omega, by omega⟩ ?_
      refine ok_lt fun v_12 e_v_12 => ?_
      refine ok_ix ⟨by omega, by omega⟩ ?_
      refine ok_lt fun s_13 e_s_13 => ?_
      have hB_s_13 : BX s_13 := by rw [e_s_13]; exact pX_71 hB_s_11 (tI_rng _)
      have hF_s_13 : FR [68, 69, 70, 71, 72] [] σ s_13 := by rw [e_s_13]; exact FR.st hF_s_11 (by decide)
      have w_s_13_68 : (s_13.1 68 0).toInt = (s_11.1 68 0).toInt := by rw [e_s_13]; rfl
      refine ok_ix ⟨by omega, by omega⟩ ?_
      have g_7 := gX_72 hB_s_13 (x2_1.toNatClampNeg)
      refine ok_lt fun v_14 e_v_14 => ?_
      have b_v_14 : (-1) ≤ v_14.toInt ∧ v_14.toInt ≤ 799 := by rw [e_v_14]; exact gX_72 hB_s_13 _
      refine ok_ix ⟨by omega, by omega⟩ ?_
      refine ok_lt fun s_15 e_s_15 => ?_
      have hB_s_15 : BX s_15 := by rw [e_s_15]; exact pX_72 hB_s_13 (by omega)
      have hF_s_15 : FR [68, 69, 70, 71, 72] [] σ s_15 := by rw [e_s_15]; exact FR.st hF_s_13 (by decide)
      have w_s_15_68 : (s_15.1 68 0).toInt = (s_13.1 68 0).toInt := by rw [e_s_15]; rfl
      obtain ⟨t_8, ht_8, g_8⟩ : ∃ t : Int, (x1_1 + 1).toInt = t ∧ t = x1_1.toInt + (1 : Int32).toInt := ⟨_, rfl, by have h9 := fb_addI (x := x1_1) (y := (1 : Int32)) (by omega) (by omega); exact h9⟩
      refine ok_lt fun x1_16 e_x1_16 => ?_
      have q_x1_16 : x1_16.toInt = t_8 := by rw [e_x1_16]; exact ht_8
      obtain ⟨t_9, ht_9, g_9⟩ : ∃ t : Int, (x2_1 + 1).toInt = t ∧ t = x2_1.toInt + (1 : Int32).toInt := ⟨_, rfl, by have h9 := fb_addI (x := x2_1) (y := (1 : Int32)) (by omega) (by omega); exact h9⟩
      refine ok_lt fun x2_6 e_x2_6 => ?_
      have q_x2_6 : x2_6.toInt = t_9 := by rw [e_x2_6]; exact ht_9
      exact ih_a_4 _ x1_16 x2_6 s_15 (by rw [hn_a_4]; omega) ⟨rfl, (by omega), (by omega), hB_s_15, hF_s_15, (by omega)⟩

set_option maxHeartbeats 4000000 in
theorem s_X2_tellAll {σ : Sto} (hB : BX σ) : OK (f_X2_tellAll σ) (fun s => BX s ∧ FR [68, 69, 70, 71, 72, 73, 74, 75, 76, 77] [] σ s) := by
  unfold f_X2_tellAll
  have hF : FR [68, 69, 70, 71, 72, 73, 74, 75, 76, 77] [] σ σ := FR.rf
  have k_0 : (0 : Int32).toInt = 0 := by decide +kernel
  refine ok_lt fun s_1 e_s_1 => ?_
  have hB_s_1 : BX s_1 := by rw [e_s_1]; exact pX_68 hB (by omega)
  have hF_s_1 : FR [68, 69, 70, 71, 72, 73, 74, 75, 76, 77] [] σ s_1 := by rw [e_s_1]; exact FR.st hF (by decide)
  refine ok_lt fun s_2 e_s_2 => ?_
  have hB_s_2 : BX s_2 := by rw [e_s_2]; exact pX_77 hB_s_1 (tI_rng _)
  have hF_s_2 : FR [68, 69, 70, 71, 72, 73, 74, 75, 76, 77] [] σ s_2 := by rw [e_s_2]; exact FR.st hF_s_1 (by decide)
  refine ok_cals (s_X2_tell (x1 := (0 : Int32)) (x2 := (0 : Int32)) (σ := s_2) hB_s_2 (by omega) (by omega)) (fun s_3 h_1 => ?_)
  obtain ⟨hB_s_3, hG_s_3⟩ := h_1
  (try dsimp only at hB_s_3 hG_s_3)
  have hF_s_3 : FR [68, 69, 70, 71, 72, 73, 74, 75, 76, 77] [] σ s_3 := FR.cal hF_s_2 hG_s_3 rfl rfl
  refine ok_cals (s_X2_match  (σ := s_3) hB_s_3) (fun s_4 h_2 => ?_)
  obtain ⟨hB_s_4, hG_s_4⟩ := h_2
  (try dsimp only at hB_s_4 hG_s_4)
  have hF_s_4 : FR [68, 69, 70, 71, 72, 73, 74, 75, 76, 77] [] σ s_4 := FR.cal hF_s_3 hG_s_4 rfl rfl
  refine ok_cals (s_X2_leaveOut  (σ := s_4) hB_s_4) (fun s_5 h_3 => ?_)
  obtain ⟨hB_s_5, hG_s_5⟩ := h_3
  (try dsimp only at hB_s_5 hG_s_5)
  have hF_s_5 : FR [68, 69, 70, 71, 72, 73, 74, 75, 76, 77] [] σ s_5 := FR.cal hF_s_4 hG_s_5 rfl rfl
  refine ok_cals (s_X2_close  (σ := s_5) hB_s_5) (fun s_6 h_4 => ?_)
  obtain ⟨hB_s_6, hG_s_6⟩ := h_4
  (try dsimp only at hB_s_6 hG_s_6)
  have hF_s_6 : FR [68, 69, 70, 71, 72, 73, 74, 75, 76, 77] [] σ s_6 := FR.cal hF_s_5 hG_s_6 rfl rfl
  refine ok_cals (s_X2_match  (σ := s_6) hB_s_6) (fun s_7 h_5 => ?_)
  obtain ⟨hB_s_7, hG_s_7⟩ := h_5
  (try dsimp only at hB_s_7 hG_s_7)
  have hF_s_7 : FR [68, 69, 70, 71, 72, 73, 74, 75, 76, 77] [] σ s_7 := FR.cal hF_s_6 hG_s_7 rfl rfl
  exact ok_ret ⟨hB_s_7, hF_s_7⟩

theorem s_X11_adoptDraft {σ : Sto} (hB : BX σ) : OK (f_X11_adoptDraft σ) (fun s => BX s ∧ FR [0, 4, 5, 6, 7, 8, 9, 10, 11, 20, 21, 22, 23, 24, 25, 26, 27, 28, 29, 30, 31, 32, 33, 34, 35, 36, 37, 38, 39, 40, 41, 42, 43, 44, 45, 46, 47, 48, 49, 50, 51, 52, 53, 54, 55, 56, 57, 58, 59, 60, 61, 62, 63, 64, 65, 66, 67, 68, 69, 70, 71, 72, 73, 74, 75, 76, 77] [0, 1, 2, 3, 4, 5, 6] σ s) := sorry
set_option maxHeartbeats 4000000 in
theorem s_X11_code {σ : Sto} (hB : BX σ) : OK (f_X11_code σ) (fun r => ((-6) ≤ r.1.toInt ∧ r.1.toInt ≤ 40) ∧ BX r.2 ∧ FR [0, 2, 3, 4, 5, 6, 7, 8, 9, 10, 11, 12, 13, 14, 15, 16, 17, 18, 19, 20, 21, 22, 23, 24, 25, 26, 27, 28, 29, 30, 31, 32, 33, 34, 35, 36, 37, 38, 39, 40, 41, 42, 43, 44, 45, 46, 47, 48, 49, 50, 51, 52, 53, 54, 55, 56, 57, 58, 59, 60, 61, 62, 63, 64, 65, 66, 67, 68, 69, 70, 71, 72, 73, 74, 75, 76, 77] [0, 1, 2, 3, 4, 5, 6] σ r.2) := by
  unfold f_X11_code
  have hF : FR [0, 2, 3, 4, 5, 6, 7, 8, 9, 10, 11, 12, 13, 14, 15, 16, 17, 18, 19, 20, 21, 22, 23, 24, 25, 26, 27, 28, 29, 30, 31, 32, 33, 34, 35, 36, 37, 38, 39, 40, 41, 42, 43, 44, 45, 46, 47, 48, 49, 50, 51, 52, 53, 54, 55, 56, 57, 58, 59, 60, 61, 62, 63, 64, 65, 66, 67, 68, 69, 70, 71, 72, 73, 74, 75, 76, 77] [0, 1, 2, 3, 4, 5, 6] σ σ := FR.rf
  have k_m1 : ((-1) : Int32).toInt = -1 := by decide +kernel
  have k_0 : (0 : Int32).toInt = 0 := by decide +kernel
  refine ok_calv (s_X9_read_draft  (σ := σ) hB) (fun v_1 s_1 h_1 => ?_)
  obtain ⟨b_v_1, hB_s_1, hG_s_1⟩ := h_1
  (try dsimp only at b_v_1 hB_s_1 hG_s_1)
  have hF_s_1 : FR [0, 2, 3, 4, 5, 6, 7, 8, 9, 10, 11, 12, 13, 14, 15, 16, 17, 18, 19, 20, 21, 22, 23, 24, 25, 26, 27, 28, 29, 30, 31, 32, 33, 34, 35, 36, 37, 38, 39, 40, 41, 42, 43, 44, 45, 46, 47, 48, 49, 50, 51, 52, 53, 54, 55, 56, 57, 58, 59, 60, 61, 62, 63, 64, 65, 66, 67, 68, 69, 70, 71, 72, 73, 74, 75, 76, 77] [0, 1, 2, 3, 4, 5, 6] σ s_1 := FR.cal hF hG_s_1 rfl rfl
  have w_s_1_20 : (s_1.1 20 0).toInt = (σ.1 20 0).toInt := by rw [hG_s_1.1 20 (by decide)]
  refine ok_ite (fun c_2 => ?_) (fun c_2 => ?_)
  · rw [fa_eq] at c_2
    exact ok_ret ⟨(by (try dsimp only); omega), hB_s_1, hF_s_1⟩
  · rw [fa_eq] at c_2
    refine ok_calv (s_X3_judge_draft  (σ := s_1) hB_s_1) (fun v_3 s_3 h_3 => ?_)
    obtain ⟨b_v_3, hB_s_3, hG_s_3⟩ := h_3
    (try dsimp only at b_v_3 hB_s_3 hG_s_3)
    have hF_s_3 : FR [0, 2, 3, 4, 5, 6, 7, 8, 9, 10, 11, 12, 13, 14, 15, 16, 17, 18, 19, 20, 21, 22, 23, 24, 25, 26, 27, 28, 29, 30, 31, 32, 33, 34, 35, 36, 37, 38, 39, 40, 41, 42, 43, 44, 45, 46, 47, 48, 49, 50, 51, 52, 53, 54, 55, 56, 57, 58, 59, 60, 61, 62, 63, 64, 65, 66, 67, 68, 69, 70, 71, 72, 73, 74, 75, 76, 77] [0, 1, 2, 3, 4, 5, 6] σ s_3 := FR.cal hF_s_1 hG_s_3 rfl rfl
    have w_s_3_20 : (s_3.1 20 0).toInt = (s_1.1 20 0).toInt := by rw [hG_s_3.1 20 (by decide)]
    refine ok_ite (fun c_4 => ?_) (fun c_4 => ?_)
    · rw [fa_eq] at c_4
      refine ok_lt fun s_5 e_s_5 => ?_
      have hB_s_5 : BX s_5 := by rw [e_s_5]; exact pX_2 hB_s_3 (by omega)
      have hF_s_5 : FR [0, 2, 3, 4, 5, 6, 7, 8, 9, 10, 11, 12, 13, 14, 15, 16, 17, 18, 19, 20, 21, 22, 23, 24, 25, 26, 27, 28, 29, 30, 31, 32, 33, 34, 35, 36, 37, 38, 39, 40, 41, 42, 43, 44, 45, 46, 47, 48, 49, 50, 51, 52, 53, 54, 55, 56, 57, 58, 59, 60, 61, 62, 63, 64, 65, 66, 67, 68, 69, 70, 71, 72, 73, 74, 75, 76, 77] [0, 1, 2, 3, 4, 5, 6] σ s_5 := by rw [e_s_5]; exact FR.st hF_s_3 (by decide)
      have w_s_5_20 : (s_5.1 20 0).toInt = (s_3.1 20 0).toInt := by rw [e_s_5]; rfl
      refine ok_cals (s_X11_adoptDraft  (σ := s_5) hB_s_5) (fun s_6 h_5 => ?_)
      obtain ⟨hB_s_6, hG_s_6⟩ := h_5
      (try dsimp only at hB_s_6 hG_s_6)
      have hF_s_6 : FR [0, 2, 3, 4, 5, 6, 7, 8, 9, 10, 11, 12, 13, 14, 15, 16, 17, 18, 19, 20, 21, 22, 23, 24, 25, 26, 27, 28, 29, 30, 31, 32, 33, 34, 35, 36, 37, 38, 39, 40, 41, 42, 43, 44, 45, 46, 47, 48, 49, 50, 51, 52, 53, 54, 55, 56, 57, 58, 59, 60, 61, 62, 63, 64, 65, 66, 67, 68, 69, 70, 71, 72, 73, 74, 75, 76, 77] [0, 1, 2, 3, 4, 5, 6] σ s_6 := FR.cal hF_s_5 hG_s_6 rfl rfl
      have g_6 := gX_20 hB_s_6 0
      exact ok_ret ⟨(by (try dsimp only); omega), hB_s_6, hF_s_6⟩
    · rw [fa_eq] at c_4
      exact ok_ret ⟨(by (try dsimp only); omega), hB_s_3, hF_s_3⟩

set_option maxHeartbeats 4000000 in
theorem s_X11_isInstruction {x1 : Int32} {x2 : Int32} : OK (f_X11_isInstruction x1 x2) (fun v => (0 ≤ v.toInt ∧ v.toInt ≤ 1) ∧ ((v.toInt = 1 → VI x1 x2))) := by
  unfold f_X11_isInstruction
  have k_0 : (0 : Int32).toInt = 0 := by decide +kernel
  have k_1 : (1 : Int32).toInt = 1 := by decide +kernel
  have k_6 : (6 : Int32).toInt = 6 := by decide +kernel
  have k_40 : (40 : Int32).toInt = 40 := by decide +kernel
  have k_107 : (107 : Int32).toInt = 107 := by decide +kernel
  have k_999 : (999 : Int32).toInt = 999 := by decide +kernel
  refine ok_ite (fun c_1 => ?_) (fun c_1 => ?_)
  · have c_1 := c_1
    refine ok_jn ?_
    refine ok_ite (fun c_2 => ?_) (fun c_2 => ?_)
    · rw [fa_lt] at c_2
      exact ok_ret ⟨(by (try dsimp only); omega), (by (try dsimp only); first | exact fun h => (by exfalso; omega) | exact fun _ => vi_j (by omega) (by omega) (by omega) | exact fun _ => vi_k (by omega) (by omega) (by omega) | exact fun _ => vi_v (by omega) (by omega) (by omega) | exact fun _ => vi_b (x_v_11 (by omega)) (by omega))⟩
    · rw [fa_lt] at c_2
      refine ok_ite (fun c_3 => ?_) (fun c_3 => ?_)
      · rw [fa_le] at c_3
        exact ok_ret ⟨(by (try dsimp only); omega), (by (try dsimp only); first | exact fun h => (by exfalso; omega) | exact fun _ => vi_j (by omega) (by omega) (by omega) | exact fun _ => vi_k (by omega) (by omega) (by omega) | exact fun _ => vi_v (by omega) (by omega) (by omega) | exact fun _ => vi_b (x_v_11 (by omega)) (by omega))⟩
      · rw [fa_le] at c_3
        exact ok_ret ⟨(by (try dsimp only); omega), (by (try dsimp only); first | exact fun h => (by exfalso; omega) | exact fun _ => vi_j (by omega) (by omega) (by omega) | exact fun _ => vi_k (by omega) (by omega) (by omega) | exact fun _ => vi_v (by omega) (by omega) (by omega) | exact fun _ => vi_b (x_v_11 (by omega)) (by omega))⟩
  · have c_1 := c_1
    refine ok_ite (fun c_4 => ?_) (fun c_4 => ?_)
    · have c_4 := c_4
      refine ok_jn ?_
      refine ok_ite (fun c_5 => ?_) (fun c_5 => ?_)
      · rw [fa_lt] at c_5
        exact ok_ret ⟨(by (try dsimp only); omega), (by (try dsimp only); first | exact fun h => (by exfalso; omega) | exact fun _ => vi_j (by omega) (by omega) (by omega) | exact fun _ => vi_k (by omega) (by omega) (by omega) | exact fun _ => vi_v (by omega) (by omega) (by omega) | exact fun _ => vi_b (x_v_11 (by omega)) (by omega))⟩
      · rw [fa_lt] at c_5
        refine ok_ite (fun c_6 => ?_) (fun c_6 => ?_)
        · rw [fa_lt] at c_6
          exact ok_ret ⟨(by (try dsimp only); omega), (by (try dsimp only); first | exact fun h => (by exfalso; omega) | exact fun _ => vi_j (by omega) (by omega) (by omega) | exact fun _ => vi_k (by omega) (by omega) (by omega) | exact fun _ => vi_v (by omega) (by omega) (by omega) | exact fun _ => vi_b (x_v_11 (by omega)) (by omega))⟩
        · rw [fa_lt] at c_6
          exact ok_ret ⟨(by (try dsimp only); omega), (by (try dsimp only); first | exact fun h => (by exfalso; omega) | exact fun _ => vi_j (by omega) (by omega) (by omega) | exact fun _ => vi_k (by omega) (by omega) (by omega) | exact fun _ => vi_v (by omega) (by omega) (by omega) | exact fun _ => vi_b (x_v_11 (by omega)) (by omega))⟩
    · have c_4 := c_4
      refine ok_ite (fun c_7 => ?_) (fun c_7 => ?_)
      · have c_7 := c_7
        refine ok_jn ?_
        refine ok_ite (fun c_8 => ?_) (fun c_8 => ?_)
        · rw [fa_lt] at c_8
          exact ok_ret ⟨(by (try dsimp only); omega), (by (try dsimp only); first | exact fun h => (by exfalso; omega) | exact fun _ => vi_j (by omega) (by omega) (by omega) | exact fun _ => vi_k (by omega) (by omega) (by omega) | exact fun _ => vi_v (by omega) (by omega) (by omega) | exact fun _ => vi_b (x_v_11 (by omega)) (by omega))⟩
        · rw [fa_lt] at c_8
          refine ok_ite (fun c_9 => ?_) (fun c_9 => ?_)
          · rw [fa_le] at c_9
            exact ok_ret ⟨(by (try dsimp only); omega), (by (try dsimp only); first | exact fun h => (by exfalso; omega) | exact fun _ => vi_j (by omega) (by omega) (by omega) | exact fun _ => vi_k (by omega) (by omega) (by omega) | exact fun _ => vi_v (by omega) (by omega) (by omega) | exact fun _ => vi_b (x_v_11 (by omega)) (by omega))⟩
          · rw [fa_le] at c_9
            exact ok_ret ⟨(by (try dsimp only); omega), (by (try dsimp only); first | exact fun h => (by exfalso; omega) | exact fun _ => vi_j (by omega) (by omega) (by omega) | exact fun _ => vi_k (by omega) (by omega) (by omega) | exact fun _ => vi_v (by omega) (by omega) (by omega) | exact fun _ => vi_b (x_v_11 (by omega)) (by omega))⟩
      · have c_7 := c_7
        refine ok_calp (s_X11_isBare (x1 := x1) ) (fun v_11 h_10 => ?_)
        obtain ⟨b_v_11, x_v_11⟩ := h_10
        (try dsimp only at b_v_11 x_v_11)
        refine ok_jn ?_
        refine ok_ite (fun c_11 => ?_) (fun c_11 => ?_)
        · rw [fa_eq] at c_11
          exact ok_ret ⟨(by (try dsimp only); omega), (by (try dsimp only); first | exact fun h => (by exfalso; omega) | exact fun _ => vi_j (by omega) (by omega) (by omega) | exact fun _ => vi_k (by omega) (by omega) (by omega) | exact fun _ => vi_v (by omega) (by omega) (by omega) | exact fun _ => vi_b (x_v_11 (by omega)) (by omega))⟩
        · rw [fa_eq] at c_11
          refine ok_ite (fun c_12 => ?_) (fun c_12 => ?_)
          · rw [fa_eq] at c_12
            exact ok_ret ⟨(by (try dsimp only); omega), (by (try dsimp only); first | exact fun h => (by exfalso; omega) | exact fun _ => vi_j (by omega) (by omega) (by omega) | exact fun _ => vi_k (by omega) (by omega) (by omega) | exact fun _ => vi_v (by omega) (by omega) (by omega) | exact fun _ => vi_b (x_v_11 (by omega)) (by omega))⟩
          · rw [fa_eq] at c_12
            exact ok_ret ⟨(by (try dsimp only); omega), (by (try dsimp only); first | exact fun h => (by exfalso; omega) | exact fun _ => vi_j (by omega) (by omega) (by omega) | exact fun _ => vi_k (by omega) (by omega) (by omega) | exact fun _ => vi_v (by omega) (by omega) (by omega) | exact fun _ => vi_b (x_v_11 (by omega)) (by omega))⟩

set_option maxHeartbeats 4000000 in
theorem s_X3_copy_draft_listing {σ : Sto} (hB : BX σ) : OK (f_X3_copy_draft_listing σ) (fun s => BX s ∧ FR [12, 13, 14, 15, 16, 17, 18, 19] [] σ s) := by
  unfold f_X3_copy_draft_listing
  have hF : FR [12, 13, 14, 15, 16, 17, 18, 19] [] σ σ := FR.rf
  have g_1 := gX_4 hB 0
  refine ok_lt fun s_1 e_s_1 => ?_
  have hB_s_1 : BX s_1 := by rw [e_s_1]; exact pX_12 hB (by omega)
  have hF_s_1 : FR [12, 13, 14, 15, 16, 17, 18, 19] [] σ s_1 := by rw [e_s_1]; exact FR.st hF (by decide)
  have g_2 := gX_5 hB_s_1 0
  have g_3 : (s_1.1 5 0).toInt = (σ.1 5 0).toInt := by rw [hF_s_1.1 5 (by decide)]
  have g_4 := gX_5 hB 0
  refine ok_lt fun s_2 e_s_2 => ?_
  have hB_s_2 : BX s_2 := by rw [e_s_2]; exact pX_13 hB_s_1 (by omega)
  have hF_s_2 : FR [12, 13, 14, 15, 16, 17, 18, 19] [] σ s_2 := by rw [e_s_2]; exact FR.st hF_s_1 (by decide)
  refine ok_lt fun s_3 e_s_3 => ?_
  have hB_s_3 : BX s_3 := by rw [e_s_3]; exact BD.stc hB_s_2 (fun j => by unfold va_cpy; split; exact hB_s_2 6 _; exact hB_s_2 14 j)
  have hF_s_3 : FR [12, 13, 14, 15, 16, 17, 18, 19] [] σ s_3 := by rw [e_s_3]; exact FR.stc hF_s_2 (by decide)
  refine ok_lt fun s_4 e_s_4 => ?_
  have hB_s_4 : BX s_4 := by rw [e_s_4]; exact BD.stc hB_s_3 (fun j => by unfold va_cpy; split; exact hB_s_3 7 _; exact hB_s_3 15 j)
  have hF_s_4 : FR [12, 13, 14, 15, 16, 17, 18, 19] [] σ s_4 := by rw [e_s_4]; exact FR.stc hF_s_3 (by decide)
  refine ok_lt fun s_5 e_s_5 => ?_
  have hB_s_5 : BX s_5 := by rw [e_s_5]; exact BD.stc hB_s_4 (fun j => by unfold va_cpy; split; exact hB_s_4 8 _; exact hB_s_4 16 j)
  have hF_s_5 : FR [12, 13, 14, 15, 16, 17, 18, 19] [] σ s_5 := by rw [e_s_5]; exact FR.stc hF_s_4 (by decide)
  refine ok_lt fun s_6 e_s_6 => ?_
  have hB_s_6 : BX s_6 := by rw [e_s_6]; exact BD.stc hB_s_5 (fun j => by unfold va_cpy; split; exact hB_s_5 9 _; exact hB_s_5 17 j)
  have hF_s_6 : FR [12, 13, 14, 15, 16, 17, 18, 19] [] σ s_6 := by rw [e_s_6]; exact FR.stc hF_s_5 (by decide)
  refine ok_lt fun s_7 e_s_7 => ?_
  have hB_s_7 : BX s_7 := by rw [e_s_7]; exact BD.stc hB_s_6 (fun j => by unfold va_cpy; split; exact hB_s_6 10 _; exact hB_s_6 18 j)
  have hF_s_7 : FR [12, 13, 14, 15, 16, 17, 18, 19] [] σ s_7 := by rw [e_s_7]; exact FR.stc hF_s_6 (by decide)
  refine ok_lt fun s_8 e_s_8 => ?_
  have hB_s_8 : BX s_8 := by rw [e_s_8]; exact BD.stc hB_s_7 (fun j => by unfold va_cpy; split; exact hB_s_7 11 _; exact hB_s_7 19 j)
  have hF_s_8 : FR [12, 13, 14, 15, 16, 17, 18, 19] [] σ s_8 := by rw [e_s_8]; exact FR.stc hF_s_7 (by decide)
  exact ok_ret ⟨hB_s_8, hF_s_8⟩

set_option maxHeartbeats 4000000 in
theorem s_X11_put {x1 : Int32} {x2 : Int32} {x3 : Int32} {σ : Sto} (hB : BX σ) : OK (f_X11_put x1 x2 x3 σ) (fun r => ((-6) ≤ r.1.toInt ∧ r.1.toInt ≤ 40) ∧ BX r.2 ∧ FR [0, 4, 5, 6, 7, 8, 9, 10, 11, 12, 13, 14, 15, 16, 17, 18, 19, 20, 21, 22, 23, 24, 25, 26, 27, 28, 29, 30, 31, 32, 33, 34, 35, 36, 37, 38, 39, 40, 41, 42, 43, 44, 45, 46, 47, 48, 49, 50, 51, 52, 53, 54, 55, 56, 57, 58, 59, 60, 61, 62, 63, 64, 65, 66, 67, 68, 69, 70, 71, 72, 73, 74, 75, 76, 77] [0, 1, 2, 3, 4, 5, 6] σ r.2) := by
  unfold f_X11_put
  have hF : FR [0, 4, 5, 6, 7, 8, 9, 10, 11, 12, 13, 14, 15, 16, 17, 18, 19, 20, 21, 22, 23, 24, 25, 26, 27, 28, 29, 30, 31, 32, 33, 34, 35, 36, 37, 38, 39, 40, 41, 42, 43, 44, 45, 46, 47, 48, 49, 50, 51, 52, 53, 54, 55, 56, 57, 58, 59, 60, 61, 62, 63, 64, 65, 66, 67, 68, 69, 70, 71, 72, 73, 74, 75, 76, 77] [0, 1, 2, 3, 4, 5, 6] σ σ := FR.rf
  have k_m1 : ((-1) : Int32).toInt = -1 := by decide +kernel
  have k_0 : (0 : Int32).toInt = 0 := by decide +kernel
  have g_2 := gX_0 hB 0
  refine ok_ite (fun c_1 => ?_) (fun c_1 => ?_)
  · rw [fa_eq] at c_1
    exact ok_ret ⟨(by (try dsimp only); omega), hB, hF⟩
  · rw [fa_eq] at c_1
    refine ok_ite (fun c_3 => ?_) (fun c_3 => ?_)
    · rw [fa_lt] at c_3
      exact ok_ret ⟨(by (try dsimp only); omega), hB, hF⟩
    · rw [fa_lt] at c_3
      have g_5 := gX_4 hB 0
      refine ok_ite (fun c_4 => ?_) (fun c_4 => ?_)
      · rw [fa_le] at c_4
        exact ok_ret ⟨(by (try dsimp only); omega), hB, hF⟩
      · rw [fa_le] at c_4
        refine ok_calp (s_X11_isInstruction (x1 := x2) (x2 := x3) ) (fun v_4 h_6 => ?_)
        obtain ⟨b_v_4, x_v_4⟩ := h_6
        (try dsimp only at b_v_4 x_v_4)
        refine ok_ite (fun c_7 => ?_) (fun c_7 => ?_)
        · rw [fa_eq] at c_7
          exact ok_ret ⟨(by (try dsimp only); omega), hB, hF⟩
        · rw [fa_eq] at c_7
          refine ok_cals (s_X3_copy_draft_listing  (σ := σ) hB) (fun s_6 h_8 => ?_)
          obtain ⟨hB_s_6, hG_s_6⟩ := h_8
          (try dsimp only at hB_s_6 hG_s_6)
          have hF_s_6 : FR [0, 4, 5, 6, 7, 8, 9, 10, 11, 12, 13, 14, 15, 16, 17, 18, 19, 20, 21, 22, 23, 24, 25, 26, 27, 28, 29, 30, 31, 32, 33, 34, 35, 36, 37, 38, 39, 40, 41, 42, 43, 44, 45, 46, 47, 48, 49, 50, 51, 52, 53, 54, 55, 56, 57, 58, 59, 60, 61, 62, 63, 64, 65, 66, 67, 68, 69, 70, 71, 72, 73, 74, 75, 76, 77] [0, 1, 2, 3, 4, 5, 6] σ s_6 := FR.cal hF hG_s_6 rfl rfl
          have w_s_6_0 : (s_6.1 0 0).toInt = (σ.1 0 0).toInt := by rw [hG_s_6.1 0 (by decide)]
          have w_s_6_4 : (s_6.1 4 0).toInt = (σ.1 4 0).toInt := by rw [hG_s_6.1 4 (by decide)]
          have w_s_6_20 : (s_6.1 20 0).toInt = (σ.1 20 0).toInt := by rw [hG_s_6.1 20 (by decide)]
          have hVI := x_v_4 (by omega)
          have hVI2 := hVI.2
          have g4 := gX_4 hB 0
          refine ok_ix ⟨by omega, by omega⟩ ?_
          refine ok_lt fun s_7 e_s_7 => ?_
          have hB_s_7 : BX s_7 := by rw [e_s_7]; exact pX_14 hB_s_6 (by omega)
          have hF_s_7 : FR [0, 4, 5, 6, 7, 8, 9, 10, 11, 12, 13, 14, 15, 16, 17, 18, 19, 20, 21, 22, 23, 24, 25, 26, 27, 28, 29, 30, 31, 32, 33, 34, 35, 36, 37, 38, 39, 40, 41, 42, 43, 44, 45, 46, 47, 48, 49, 50, 51, 52, 53, 54, 55, 56, 57, 58, 59, 60, 61, 62, 63, 64, 65, 66, 67, 68, 69, 70, 71, 72, 73, 74, 75, 76, 77] [0, 1, 2, 3, 4, 5, 6] σ s_7 := by rw [e_s_7]; exact FR.st hF_s_6 (by decide)
          have w_s_7_0 : (s_7.1 0 0).toInt = (s_6.1 0 0).toInt := by rw [e_s_7]; rfl
          have w_s_7_4 : (s_7.1 4 0).toInt = (s_6.1 4 0).toInt := by rw [e_s_7]; rfl
          have w_s_7_20 : (s_7.1 20 0).toInt = (s_6.1 20 0).toInt := by rw [e_s_7]; rfl
          refine ok_ix ⟨by omega, by omega⟩ ?_
          refine ok_lt fun s_8 e_s_8 => ?_
          have hB_s_8 : BX s_8 := by rw [e_s_8]; exact pX_15 hB_s_7 (by omega)
          have hF_s_8 : FR [0, 4, 5, 6, 7, 8, 9, 10, 11, 12, 13, 14, 15, 16, 17, 18, 19, 20, 21, 22, 23, 24, 25, 26, 27, 28, 29, 30, 31, 32, 33, 34, 35, 36, 37, 38, 39, 40, 41, 42, 43, 44, 45, 46, 47, 48, 49, 50, 51, 52, 53, 54, 55, 56, 57, 58, 59, 60, 61, 62, 63, 64, 65, 66, 67, 68, 69, 70, 71, 72, 73, 74, 75, 76, 77] [0, 1, 2, 3, 4, 5, 6] σ s_8 := by rw [e_s_8]; exact FR.st hF_s_7 (by decide)
          have w_s_8_0 : (s_8.1 0 0).toInt = (s_7.1 0 0).toInt := by rw [e_s_8]; rfl
          have w_s_8_4 : (s_8.1 4 0).toInt = (s_7.1 4 0).toInt := by rw [e_s_8]; rfl
          have w_s_8_20 : (s_8.1 20 0).toInt = (s_7.1 20 0).toInt := by rw [e_s_8]; rfl
          refine ok_calv (s_X3_judge_draft  (σ := s_8) hB_s_8) (fun v_9 s_9 h_9 => ?_)
          obtain ⟨b_v_9, hB_s_9, hG_s_9⟩ := h_9
          (try dsimp only at b_v_9 hB_s_9 hG_s_9)
          have hF_s_9 : FR [0, 4, 5, 6, 7, 8, 9, 10, 11, 12, 13, 14, 15, 16, 17, 18, 19, 20, 21, 22, 23, 24, 25, 26, 27, 28, 29, 30, 31, 32, 33, 34, 35, 36, 37, 38, 39, 40, 41, 42, 43, 44, 45, 46, 47, 48, 49, 50, 51, 52, 53, 54, 55, 56, 57, 58, 59, 60, 61, 62, 63, 64, 65, 66, 67, 68, 69, 70, 71, 72, 73, 74, 75, 76, 77] [0, 1, 2, 3, 4, 5, 6] σ s_9 := FR.cal hF_s_8 hG_s_9 rfl rfl
          have w_s_9_0 : (s_9.1 0 0).toInt = (s_8.1 0 0).toInt := by rw [hG_s_9.1 0 (by decide)]
          have w_s_9_4 : (s_9.1 4 0).toInt = (s_8.1 4 0).toInt := by rw [hG_s_9.1 4 (by decide)]
          have w_s_9_20 : (s_9.1 20 0).toInt = (s_8.1 20 0).toInt := by rw [hG_s_9.1 20 (by decide)]
          refine ok_ite (fun c_10 => ?_) (fun c_10 => ?_)
          · rw [fa_eq] at c_10
            refine ok_cals (s_X11_adoptDraft  (σ := s_9) hB_s_9) (fun s_11 h_11 => ?_)
            obtain ⟨hB_s_11, hG_s_11⟩ := h_11
            (try dsimp only at hB_s_11 hG_s_11)
            have hF_s_11 : FR [0, 4, 5, 6, 7, 8, 9, 10, 11, 12, 13, 14, 15, 16, 17, 18, 19, 20, 21, 22, 23, 24, 25, 26, 27, 28, 29, 30, 31, 32, 33, 34, 35, 36, 37, 38, 39, 40, 41, 42, 43, 44, 45, 46, 47, 48, 49, 50, 51, 52, 53, 54, 55, 56, 57, 58, 59, 60, 61, 62, 63, 64, 65, 66, 67, 68, 69, 70, 71, 72, 73, 74, 75, 76, 77] [0, 1, 2, 3, 4, 5, 6] σ s_11 := FR.cal hF_s_9 hG_s_11 rfl rfl
            have g_12 := gX_20 hB_s_11 0
            exact ok_ret ⟨(by (try dsimp only); omega), hB_s_11, hF_s_11⟩
          · rw [fa_eq] at c_10
            exact ok_ret ⟨(by (try dsimp only); omega), hB_s_9, hF_s_9⟩

set_option maxHeartbeats 4000000 in
theorem s_X11_count {x1 : Int32} {σ : Sto} (hB : BX σ) : OK (f_X11_count x1 σ) (fun v => ((-1000000) ≤ v.toInt ∧ v.toInt ≤ 800)) := by
  unfold f_X11_count
  have hF : FR [] [] σ σ := FR.rf
  have k_m1000000 : ((-1000000) : Int32).toInt = -1000000 := by decide +kernel
  have k_m1 : ((-1) : Int32).toInt = -1 := by decide +kernel
  have k_0 : (0 : Int32).toInt = 0 := by decide +kernel
  have k_1 : (1 : Int32).toInt = 1 := by decide +kernel
  have k_2 : (2 : Int32).toInt = 2 := by decide +kernel
  have k_3 : (3 : Int32).toInt = 3 := by decide +kernel
  have k_4 : (4 : Int32).toInt = 4 := by decide +kernel
  have k_5 : (5 : Int32).toInt = 5 := by decide +kernel
  have k_6 : (6 : Int32).toInt = 6 := by decide +kernel
  have k_7 : (7 : Int32).toInt = 7 := by decide +kernel
  have k_8 : (8 : Int32).toInt = 8 := by decide +kernel
  have k_9 : (9 : Int32).toInt = 9 := by decide +kernel
  have k_10 : (10 : Int32).toInt = 10 := by decide +kernel
  have k_11 : (11 : Int32).toInt = 11 := by decide +kernel
  have k_12 : (12 : Int32).toInt = 12 := by decide +kernel
  have k_13 : (13 : Int32).toInt = 13 := by decide +kernel
  have k_14 : (14 : Int32).toInt = 14 := by decide +kernel
  refine ok_ite (fun c_1 => ?_) (fun c_1 => ?_)
  · rw [fa_eq] at c_1
    have g_2 := gX_2 hB 0
    exact ok_ret (by (try dsimp only); omega)
  · rw [fa_eq] at c_1
    have g_4 := gX_0 hB 0
    refine ok_ite (fun c_3 => ?_) (fun c_3 => ?_)
    · rw [fa_eq] at c_3
      exact ok_ret (by (try dsimp only); omega)
    · rw [fa_eq] at c_3
      refine ok_ite (fun c_5 => ?_) (fun c_5 => ?_)
      · have c_5 := c_5
        have g_6 := gX_4 hB 0
        exact ok_ret (by (try dsimp only); omega)
      · have c_5 := c_5
        refine ok_ite (fun c_7 => ?_) (fun c_7 => ?_)
        · have c_7 := c_7
          have g_8 := gX_20 hB 0
          exact ok_ret (by (try dsimp only); omega)
        · have c_7 := c_7
          refine ok_ite (fun c_9 => ?_) (fun c_9 => ?_)
          · have c_9 := c_9
            have g_10 := gX_27 hB 0
            exact ok_ret (by (try dsimp only); omega)
          · have c_9 := c_9
            refine ok_ite (fun c_11 => ?_) (fun c_11 => ?_)
            · have c_11 := c_11
              have g_12 := gX_5 hB 0
              exact ok_ret (by (try dsimp only); omega)
            · have c_11 := c_11
              refine ok_ite (fun c_13 => ?_) (fun c_13 => ?_)
              · have c_13 := c_13
                refine ok_calp (s_J13_bitCount_95d88 (x1 := (σ.2 2 0)) ) (fun v_4 h_14 => ?_)
                have b_v_4 := h_14
                (try dsimp only at b_v_4)
                exact ok_ret (by (try dsimp only); omega)
              · have c_13 := c_13
                refine ok_ite (fun c_15 => ?_) (fun c_15 => ?_)
                · have c_15 := c_15
                  refine ok_calp (s_J13_bitCount_95d88 (x1 := (σ.2 4 0)) ) (fun v_5 h_16 => ?_)
                  have b_v_5 := h_16
                  (try dsimp only at b_v_5)
                  exact ok_ret (by (try dsimp only); omega)
                · have c_15 := c_15
                  refine ok_ite (fun c_17 => ?_) (fun c_17 => ?_)
                  · have c_17 := c_17
                    have g_19 := gX_34 hB 0
                    refine ok_ite (fun c_18 => ?_) (fun c_18 => ?_)
                    · rw [fa_eq] at c_18
                      have g_20 := gX_36 hB 0
                      exact ok_ret (by (try dsimp only); omega)
                    · rw [fa_eq] at c_18
                      exact ok_ret (by (try dsimp only); omega)
                  · have c_17 := c_17
                    refine ok_ite (fun c_21 => ?_) (fun c_21 => ?_)
                    · have c_21 := c_21
                      have g_23 := gX_35 hB 0
                      refine ok_ite (fun c_22 => ?_) (fun c_22 => ?_)
                      · rw [fa_eq] at c_22
                        exact ok_ret (by (try dsimp only); omega)
                      · rw [fa_eq] at c_22
                        exact ok_ret (by (try dsimp only); omega)
                    · have c_21 := c_21
                      refine ok_ite (fun c_24 => ?_) (fun c_24 => ?_)
                      · have c_24 := c_24
                        have g_26 := gX_34 hB 0
                        refine ok_ite (fun c_25 => ?_) (fun c_25 => ?_)
                        · rw [fa_eq] at c_25
                          have g_27 := gX_68 hB 0
                          exact ok_ret (by (try dsimp only); omega)
                        · rw [fa_eq] at c_25
                          exact ok_ret (by (try dsimp only); omega)
                      · have c_24 := c_24
                        refine ok_ite (fun c_28 => ?_) (fun c_28 => ?_)
                        · have c_28 := c_28
                          have g_29 := gX_52 hB 0
                          exact ok_ret (by (try dsimp only); omega)
                        · have c_28 := c_28
                          refine ok_ite (fun c_30 => ?_) (fun c_30 => ?_)
                          · have c_30 := c_30
                            have g_31 := gX_58 hB 0
                            exact ok_ret (by (try dsimp only); omega)
                          · have c_30 := c_30
                            refine ok_ite (fun c_32 => ?_) (fun c_32 => ?_)
                            · have c_32 := c_32
                              have g_33 := gX_32 hB 0
                              exact ok_ret (by (try dsimp only); omega)
                            · have c_32 := c_32
                              refine ok_ite (fun c_34 => ?_) (fun c_34 => ?_)
                              · have c_34 := c_34
                                have g_35 := gX_59 hB 0
                                exact ok_ret (by (try dsimp only); omega)
                              · have c_34 := c_34
                                refine ok_ite (fun c_36 => ?_) (fun c_36 => ?_)
                                · have c_36 := c_36
                                  refine ok_calp (s_J13_bitCount_95d88 (x1 := (σ.2 6 0)) ) (fun v_9 h_37 => ?_)
                                  have b_v_9 := h_37
                                  (try dsimp only at b_v_9)
                                  exact ok_ret (by (try dsimp only); omega)
                                · have c_36 := c_36
                                  exact ok_ret (by (try dsimp only); omega)

set_option maxHeartbeats 4000000 in
theorem s_X11_edge {x1 : Int32} {x2 : Int32} {σ : Sto} (hB : BX σ) : OK (f_X11_edge x1 x2 σ) (fun v => ((-1000000) ≤ v.toInt ∧ v.toInt ≤ 39)) := by
  unfold f_X11_edge
  have hF : FR [] [] σ σ := FR.rf
  have k_m1000000 : ((-1000000) : Int32).toInt = -1000000 := by decide +kernel
  have k_0 : (0 : Int32).toInt = 0 := by decide +kernel
  have k_1 : (1 : Int32).toInt = 1 := by decide +kernel
  have k_2 : (2 : Int32).toInt = 2 := by decide +kernel
  have k_3 : (3 : Int32).toInt = 3 := by decide +kernel
  have k_4 : (4 : Int32).toInt = 4 := by decide +kernel
  have g_2 := gX_0 hB 0
  refine ok_ite (fun c_1 => ?_) (fun c_1 => ?_)
  · rw [fa_eq] at c_1
    exact ok_ret (by (try dsimp only); omega)
  · rw [fa_eq] at c_1
    refine ok_ite (fun c_3 => ?_) (fun c_3 => ?_)
    · rw [fa_lt] at c_3
      exact ok_ret (by (try dsimp only); omega)
    · rw [fa_lt] at c_3
      have g_5 := gX_27 hB 0
      refine ok_ite (fun c_4 => ?_) (fun c_4 => ?_)
      · rw [fa_lt] at c_4
        refine ok_ite (fun c_6 => ?_) (fun c_6 => ?_)
        · have c_6 := c_6
          refine ok_ix ⟨by omega, by omega⟩ ?_
          have g_7 := gX_29 hB (x1.toNatClampNeg)
          refine ok_lt fun v_5 e_v_5 => ?_
          have b_v_5 : 0 ≤ v_5.toInt ∧ v_5.toInt ≤ 39 := by rw [e_v_5]; exact gX_29 hB _
          exact ok_ret (by (try dsimp only); omega)
        · have c_6 := c_6
          refine ok_ite (fun c_8 => ?_) (fun c_8 => ?_)
          · have c_8 := c_8
            refine ok_ix ⟨by omega, by omega⟩ ?_
            have g_9 := gX_30 hB (x1.toNatClampNeg)
            refine ok_lt fun v_6 e_v_6 => ?_
            have b_v_6 : 0 ≤ v_6.toInt ∧ v_6.toInt ≤ 39 := by rw [e_v_6]; exact gX_30 hB _
            exact ok_ret (by (try dsimp only); omega)
          · have c_8 := c_8
            refine ok_ite (fun c_10 => ?_) (fun c_10 => ?_)
            · have c_10 := c_10
              refine ok_ix ⟨by omega, by omega⟩ ?_
              have g_11 := gX_38 hB (x1.toNatClampNeg)
              refine ok_lt fun v_7 e_v_7 => ?_
              have b_v_7 : 0 ≤ v_7.toInt ∧ v_7.toInt ≤ 1 := by rw [e_v_7]; exact gX_38 hB _
              refine ok_ite (fun c_12 => ?_) (fun c_12 => ?_)
              · rw [fa_eq] at c_12
                exact ok_ret (by (try dsimp only); omega)
              · rw [fa_eq] at c_12
                exact ok_ret (by (try dsimp only); omega)
            · have c_10 := c_10
              refine ok_ite (fun c_13 => ?_) (fun c_13 => ?_)
              · have c_13 := c_13
                refine ok_ix ⟨by omega, by omega⟩ ?_
                have g_14 := gX_37 hB (x1.toNatClampNeg)
                refine ok_lt fun v_9 e_v_9 => ?_
                have b_v_9 : 0 ≤ v_9.toInt ∧ v_9.toInt ≤ 1 := by rw [e_v_9]; exact gX_37 hB _
                refine ok_ite (fun c_15 => ?_) (fun c_15 => ?_)
                · rw [fa_eq] at c_15
                  exact ok_ret (by (try dsimp only); omega)
                · rw [fa_eq] at c_15
                  exact ok_ret (by (try dsimp only); omega)
              · have c_13 := c_13
                refine ok_ite (fun c_16 => ?_) (fun c_16 => ?_)
                · have c_16 := c_16
                  refine ok_ix ⟨by omega, by omega⟩ ?_
                  have g_17 := gX_31 hB (x1.toNatClampNeg)
                  refine ok_lt fun v_11 e_v_11 => ?_
                  have b_v_11 : 0 ≤ v_11.toInt ∧ v_11.toInt ≤ 1 := by rw [e_v_11]; exact gX_31 hB _
                  refine ok_ite (fun c_18 => ?_) (fun c_18 => ?_)
                  · rw [fa_eq] at c_18
                    exact ok_ret (by (try dsimp only); omega)
                  · rw [fa_eq] at c_18
                    exact ok_ret (by (try dsimp only); omega)
                · have c_16 := c_16
                  exact ok_ret (by (try dsimp only); omega)
      · rw [fa_lt] at c_4
        exact ok_ret (by (try dsimp only); omega)

set_option maxHeartbeats 4000000 in
theorem s_X11_dominates {x1 : Int32} {x2 : Int32} {σ : Sto} (hB : BX σ) : OK (f_X11_dominates x1 x2 σ) (fun v => (0 ≤ v.toInt ∧ v.toInt ≤ 1)) := by
  unfold f_X11_dominates
  have hF : FR [] [] σ σ := FR.rf
  have k_0 : (0 : Int32).toInt = 0 := by decide +kernel
  have k_1 : (1 : Int32).toInt = 1 := by decide +kernel
  have g9 := gX_20 hB 0
  refine ok_calp (s_X11_isBlock (x1 := x1) (σ := σ) hB) (fun v_1 h_1 => ?_)
  obtain ⟨b_v_1, x_v_1⟩ := h_1
  (try dsimp only at b_v_1 x_v_1)
  refine ok_jn ?_
  refine ok_ite (fun c_2 => ?_) (fun c_2 => ?_)
  · rw [fa_eq] at c_2
    exact ok_ret (by (try dsimp only); omega)
  · rw [fa_eq] at c_2
    refine ok_calp (s_X11_isBlock (x1 := x2) (σ := σ) hB) (fun v_4 h_3 => ?_)
    obtain ⟨b_v_4, x_v_4⟩ := h_3
    (try dsimp only at b_v_4 x_v_4)
    refine ok_ite (fun c_4 => ?_) (fun c_4 => ?_)
    · rw [fa_eq] at c_4
      exact ok_ret (by (try dsimp only); omega)
    · rw [fa_eq] at c_4
      refine ok_ix ⟨by omega, by omega⟩ ?_
      refine ok_lt fun v_6 e_v_6 => ?_
      refine ok_calp (s_X11_isIn (x1 := v_6) (x2 := x1) ) (fun v_7 h_5 => ?_)
      have b_v_7 := h_5
      (try dsimp only at b_v_7)
      refine ok_ite (fun c_6 => ?_) (fun c_6 => ?_)
      · rw [fa_eq] at c_6
        exact ok_ret (by (try dsimp only); omega)
      · rw [fa_eq] at c_6
        exact ok_ret (by (try dsimp only); omega)

set_option maxHeartbeats 4000000 in
theorem s_X11_loop {x1 : Int32} {σ : Sto} (hB : BX σ) : OK (f_X11_loop x1 σ) (fun v => True) := by
  unfold f_X11_loop
  have hF : FR [] [] σ σ := FR.rf
  have k_0 : (0 : Int32).toInt = 0 := by decide +kernel
  have g9 := gX_20 hB 0
  refine ok_calp (s_X11_isBlock (x1 := x1) (σ := σ) hB) (fun v_1 h_1 => ?_)
  obtain ⟨b_v_1, x_v_1⟩ := h_1
  (try dsimp only at b_v_1 x_v_1)
  refine ok_jn ?_
  refine ok_ite (fun c_2 => ?_) (fun c_2 => ?_)
  · rw [fa_eq] at c_2
    exact ok_ret trivial
  · rw [fa_eq] at c_2
    refine ok_calp (s_X11_isIn (x1 := (σ.2 2 0)) (x2 := x1) ) (fun v_4 h_3 => ?_)
    have b_v_4 := h_3
    (try dsimp only at b_v_4)
    refine ok_ite (fun c_4 => ?_) (fun c_4 => ?_)
    · rw [fa_eq] at c_4
      exact ok_ret trivial
    · rw [fa_eq] at c_4
      refine ok_ix ⟨by omega, by omega⟩ ?_
      refine ok_lt fun v_6 e_v_6 => ?_
      exact ok_ret trivial

theorem s_X6_writeSign {x1 : Int32} {σ : Sto} (hB : BX σ) (p_x1 : 0 ≤ x1.toInt ∧ x1.toInt ≤ 1399) : OK (f_X6_writeSign x1 σ) (fun s => BX s ∧ FR [93, 94] [] σ s) := sorry
set_option maxHeartbeats 4000000 in
theorem s_X6_writeNumber {x1 : Int32} {σ : Sto} (hB : BX σ) (p_x1 : 0 ≤ x1.toInt ∧ x1.toInt ≤ 999) : OK (f_X6_writeNumber x1 σ) (fun s => BX s ∧ FR [93, 94] [] σ s) := by
  unfold f_X6_writeNumber
  have hF : FR [93, 94] [] σ σ := FR.rf
  have k_9 : (9 : Int32).toInt = 9 := by decide +kernel
  have k_48 : (48 : Int32).toInt = 48 := by decide +kernel
  have k_99 : (99 : Int32).toInt = 99 := by decide +kernel
  refine ok_jn ?_
  refine ok_ite (fun c_1 => ?_) (fun c_1 => ?_)
  · rw [fa_le] at c_1
    refine ok_jn ?_
    refine ok_ite (fun c_2 => ?_) (fun c_2 => ?_)
    · rw [fa_le] at c_2
      obtain ⟨t_3, ht_3, g_3⟩ : ∃ t : Int, (x1 - ((x1 / 10) * 10)).toInt = t ∧ t = x1.toInt % 10 := ⟨_, rfl, by have h9 := rem_I (x := x1) (n := 10) (by omega) (by decide) (by decide); exact h9⟩
      obtain ⟨t_4, ht_4, g_4⟩ : ∃ t : Int, ((48 : Int32) + (x1 - ((x1 / 10) * 10))).toInt = t ∧ t = (48 : Int32).toInt + t_3 := ⟨_, rfl, by have h9 := fb_addI (x := (48 : Int32)) (y := (x1 - ((x1 / 10) * 10))) (by rw [ht_3]; omega) (by rw [ht_3]; omega); rw [ht_3] at h9; exact h9⟩
      refine ok_cals (s_X6_writeSign (x1 := ((48 : Int32) + (x1 - ((x1 / 10) * 10)))) (σ := σ) hB (by rw [ht_4]; omega)) (fun s_3 h_5 => ?_)
      obtain ⟨hB_s_3, hG_s_3⟩ := h_5
      (try dsimp only at hB_s_3 hG_s_3)
      have hF_s_3 : FR [93, 94] [] σ s_3 := FR.cal hF hG_s_3 rfl rfl
      exact ok_ret ⟨hB_s_3, hF_s_3⟩
    · rw [fa_le] at c_2
      obtain ⟨t_6, ht_6, g_6⟩ : ∃ t : Int, (x1 / 10).toInt = t ∧ t = x1.toInt / 10 := ⟨_, rfl, by have h9 := div_I (x := x1) (n := 10) (by omega) (by decide) (by decide); exact h9⟩
      obtain ⟨t_7, ht_7, g_7⟩ : ∃ t : Int, ((x1 / 10) - (((x1 / 10) / 10) * 10)).toInt = t ∧ t = t_6 % 10 := ⟨_, rfl, by have h9 := rem_I (x := (x1 / 10)) (n := 10) (by rw [ht_6]; omega) (by decide) (by decide); rw [ht_6] at h9; exact h9⟩
      obtain ⟨t_8, ht_8, g_8⟩ : ∃ t : Int, ((48 : Int32) + ((x1 / 10) - (((x1 / 10) / 10) * 10))).toInt = t ∧ t = (48 : Int32).toInt + t_7 := ⟨_, rfl, by have h9 := fb_addI (x := (48 : Int32)) (y := ((x1 / 10) - (((x1 / 10) / 10) * 10))) (by rw [ht_7]; omega) (by rw [ht_7]; omega); rw [ht_7] at h9; exact h9⟩
      refine ok_cals (s_X6_writeSign (x1 := ((48 : Int32) + ((x1 / 10) - (((x1 / 10) / 10) * 10)))) (σ := σ) hB (by rw [ht_8]; omega)) (fun s_5 h_9 => ?_)
      obtain ⟨hB_s_5, hG_s_5⟩ := h_9
      (try dsimp only at hB_s_5 hG_s_5)
      have hF_s_5 : FR [93, 94] [] σ s_5 := FR.cal hF hG_s_5 rfl rfl
      obtain ⟨t_10, ht_10, g_10⟩ : ∃ t : Int, (x1 - ((x1 / 10) * 10)).toInt = t ∧ t = x1.toInt % 10 := ⟨_, rfl, by have h9 := rem_I (x := x1) (n := 10) (by omega) (by decide) (by decide); exact h9⟩
      obtain ⟨t_11, ht_11, g_11⟩ : ∃ t : Int, ((48 : Int32) + (x1 - ((x1 / 10) * 10))).toInt = t ∧ t = (48 : Int32).toInt + t_10 := ⟨_, rfl, by have h9 := fb_addI (x := (48 : Int32)) (y := (x1 - ((x1 / 10) * 10))) (by rw [ht_10]; omega) (by rw [ht_10]; omega); rw [ht_10] at h9; exact h9⟩
      refine ok_cals (s_X6_writeSign (x1 := ((48 : Int32) + (x1 - ((x1 / 10) * 10)))) (σ := s_5) hB_s_5 (by rw [ht_11]; omega)) (fun s_3 h_12 => ?_)
      obtain ⟨hB_s_3, hG_s_3⟩ := h_12
      (try dsimp only at hB_s_3 hG_s_3)
      have hF_s_3 : FR [93, 94] [] σ s_3 := FR.cal hF_s_5 hG_s_3 rfl rfl
      exact ok_ret ⟨hB_s_3, hF_s_3⟩
  · rw [fa_le] at c_1
    obtain ⟨t_13, ht_13, g_13⟩ : ∃ t : Int, (x1 / 100).toInt = t ∧ t = x1.toInt / 100 := ⟨_, rfl, by have h9 := div_I (x := x1) (n := 100) (by omega) (by decide) (by decide); exact h9⟩
    obtain ⟨t_14, ht_14, g_14⟩ : ∃ t : Int, ((48 : Int32) + (x1 / 100)).toInt = t ∧ t = (48 : Int32).toInt + t_13 := ⟨_, rfl, by have h9 := fb_addI (x := (48 : Int32)) (y := (x1 / 100)) (by rw [ht_13]; omega) (by rw [ht_13]; omega); rw [ht_13] at h9; exact h9⟩
    refine ok_cals (s_X6_writeSign (x1 := ((48 : Int32) + (x1 / 100))) (σ := σ) hB (by rw [ht_14]; omega)) (fun s_7 h_15 => ?_)
    obtain ⟨hB_s_7, hG_s_7⟩ := h_15
    (try dsimp only at hB_s_7 hG_s_7)
    have hF_s_7 : FR [93, 94] [] σ s_7 := FR.cal hF hG_s_7 rfl rfl
    refine ok_jn ?_
    refine ok_ite (fun c_16 => ?_) (fun c_16 => ?_)
    · rw [fa_le] at c_16
      exfalso; omega
    · rw [fa_le] at c_16
      obtain ⟨t_17, ht_17, g_17⟩ : ∃ t : Int, (x1 / 10).toInt = t ∧ t = x1.toInt / 10 := ⟨_, rfl, by have h9 := div_I (x := x1) (n := 10) (by omega) (by decide) (by decide); exact h9⟩
      obtain ⟨t_18, ht_18, g_18⟩ : ∃ t : Int, ((x1 / 10) - (((x1 / 10) / 10) * 10)).toInt = t ∧ t = t_17 % 10 := ⟨_, rfl, by have h9 := rem_I (x := (x1 / 10)) (n := 10) (by rw [ht_17]; omega) (by decide) (by decide); rw [ht_17] at h9; exact h9⟩
      obtain ⟨t_19, ht_19, g_19⟩ : ∃ t : Int, ((48 : Int32) + ((x1 / 10) - (((x1 / 10) / 10) * 10))).toInt = t ∧ t = (48 : Int32).toInt + t_18 := ⟨_, rfl, by have h9 := fb_addI (x := (48 : Int32)) (y := ((x1 / 10) - (((x1 / 10) / 10) * 10))) (by rw [ht_18]; omega) (by rw [ht_18]; omega); rw [ht_18] at h9; exact h9⟩
      refine ok_cals (s_X6_writeSign (x1 := ((48 : Int32) + ((x1 / 10) - (((x1 / 10) / 10) * 10)))) (σ := s_7) hB_s_7 (by rw [ht_19]; omega)) (fun s_5 h_20 => ?_)
      obtain ⟨hB_s_5, hG_s_5⟩ := h_20
      (try dsimp only at hB_s_5 hG_s_5)
      have hF_s_5 : FR [93, 94] [] σ s_5 := FR.cal hF_s_7 hG_s_5 rfl rfl
      obtain ⟨t_21, ht_21, g_21⟩ : ∃ t : Int, (x1 - ((x1 / 10) * 10)).toInt = t ∧ t = x1.toInt % 10 := ⟨_, rfl, by have h9 := rem_I (x := x1) (n := 10) (by omega) (by decide) (by decide); exact h9⟩
      obtain ⟨t_22, ht_22, g_22⟩ : ∃ t : Int, ((48 : Int32) + (x1 - ((x1 / 10) * 10))).toInt = t ∧ t = (48 : Int32).toInt + t_21 := ⟨_, rfl, by have h9 := fb_addI (x := (48 : Int32)) (y := (x1 - ((x1 / 10) * 10))) (by rw [ht_21]; omega) (by rw [ht_21]; omega); rw [ht_21] at h9; exact h9⟩
      refine ok_cals (s_X6_writeSign (x1 := ((48 : Int32) + (x1 - ((x1 / 10) * 10)))) (σ := s_5) hB_s_5 (by rw [ht_22]; omega)) (fun s_3 h_23 => ?_)
      obtain ⟨hB_s_3, hG_s_3⟩ := h_23
      (try dsimp only at hB_s_3 hG_s_3)
      have hF_s_3 : FR [93, 94] [] σ s_3 := FR.cal hF_s_5 hG_s_3 rfl rfl
      exact ok_ret ⟨hB_s_3, hF_s_3⟩

set_option maxHeartbeats 4000000 in
theorem s_X6_writeName {x1 : Int32} {x2 : Int32} {σ : Sto} (hB : BX σ) (p_x1 : 116 ≤ x1.toInt ∧ x1.toInt ≤ 120) (p_x2 : 0 ≤ x2.toInt ∧ x2.toInt ≤ 999) : OK (f_X6_writeName x1 x2 σ) (fun s => BX s ∧ FR [93, 94] [] σ s) := by
  unfold f_X6_writeName
  have hF : FR [93, 94] [] σ σ := FR.rf
  refine ok_cals (s_X6_writeSign (x1 := x1) (σ := σ) hB (by omega)) (fun s_1 h_1 => ?_)
  obtain ⟨hB_s_1, hG_s_1⟩ := h_1
  (try dsimp only at hB_s_1 hG_s_1)
  have hF_s_1 : FR [93, 94] [] σ s_1 := FR.cal hF hG_s_1 rfl rfl
  refine ok_cals (s_X6_writeNumber (x1 := x2) (σ := s_1) hB_s_1 (by omega)) (fun s_2 h_2 => ?_)
  obtain ⟨hB_s_2, hG_s_2⟩ := h_2
  (try dsimp only at hB_s_2 hG_s_2)
  have hF_s_2 : FR [93, 94] [] σ s_2 := FR.cal hF_s_1 hG_s_2 rfl rfl
  exact ok_ret ⟨hB_s_2, hF_s_2⟩

set_option maxHeartbeats 4000000 in
theorem s_X6_write_s18 {σ : Sto} (hB : BX σ) : OK (f_X6_write_s18 σ) (fun s => BX s ∧ FR [93, 94] [] σ s) := by
  unfold f_X6_write_s18
  have hF : FR [93, 94] [] σ σ := FR.rf
  have k_0 : (0 : Int32).toInt = 0 := by decide +kernel
  have k_1 : (1 : Int32).toInt = 1 := by decide +kernel
  have k_2 : (2 : Int32).toInt = 2 := by decide +kernel
  refine ok_itr2 (fun (n : Nat) (x2_1 : Int32) (s_1 : Sto) => n = (3 - x2_1.toInt).toNat ∧ (0 ≤ x2_1.toInt ∧ x2_1.toInt ≤ 2) ∧ (BX s_1) ∧ (FR [93, 94] [] σ s_1)) ?_ (n := _) ⟨rfl, (by omega), hB, hF⟩ (show _ < 10000000 by omega)
  intro a_2 n x2_1 s_1 hI ih_a_2
  obtain ⟨hn_a_2, b_x2_1, hB_s_1, hF_s_1⟩ := hI
  refine ok_ite (fun c_1 => ?_) (fun c_1 => ?_)
  · rw [fa_le] at c_1
    exact ok_ret ⟨hB_s_1, hF_s_1⟩
  · rw [fa_le] at c_1
    refine ok_ix ⟨by omega, by omega⟩ ?_
    obtain ⟨t_2, ht_2, g_2⟩ : ∃ t : Int, (chS 18 x2_1).toInt = t ∧ -2147483648 ≤ t ∧ t ≤ 2147483647 := ⟨_, rfl, tI_rng _⟩
    refine ok_lt fun v_3 e_v_3 => ?_
    have b_v_3 : 0 ≤ v_3.toInt ∧ v_3.toInt ≤ 255 := by rw [e_v_3]; exact ch_rng _ _
    refine ok_cals (s_X6_writeSign (x1 := v_3) (σ := s_1) hB_s_1 (by omega)) (fun s_4 h_3 => ?_)
    obtain ⟨hB_s_4, hG_s_4⟩ := h_3
    (try dsimp only at hB_s_4 hG_s_4)
    have hF_s_4 : FR [93, 94] [] σ s_4 := FR.cal hF_s_1 hG_s_4 rfl rfl
    obtain ⟨t_4, ht_4, g_4⟩ : ∃ t : Int, (x2_1 + 1).toInt = t ∧ t = x2_1.toInt + (1 : Int32).toInt := ⟨_, rfl, by have h9 := fb_addI (x := x2_1) (y := (1 : Int32)) (by omega) (by omega); exact h9⟩
    refine ok_lt fun x2_5 e_x2_5 => ?_
    have q_x2_5 : x2_5.toInt = t_4 := by rw [e_x2_5]; exact ht_4
    exact ih_a_2 _ x2_5 s_4 (by rw [hn_a_2]; omega) ⟨rfl, (by omega), hB_s_4, hF_s_4⟩

set_option maxHeartbeats 4000000 in
theorem s_X6_write_s19 {σ : Sto} (hB : BX σ) : OK (f_X6_write_s19 σ) (fun s => BX s ∧ FR [93, 94] [] σ s) := by
  unfold f_X6_write_s19
  have hF : FR [93, 94] [] σ σ := FR.rf
  have k_0 : (0 : Int32).toInt = 0 := by decide +kernel
  have k_1 : (1 : Int32).toInt = 1 := by decide +kernel
  refine ok_itr2 (fun (n : Nat) (x2_1 : Int32) (s_1 : Sto) => n = (2 - x2_1.toInt).toNat ∧ (0 ≤ x2_1.toInt ∧ x2_1.toInt ≤ 1) ∧ (BX s_1) ∧ (FR [93, 94] [] σ s_1)) ?_ (n := _) ⟨rfl, (by omega), hB, hF⟩ (show _ < 10000000 by omega)
  intro a_2 n x2_1 s_1 hI ih_a_2
  obtain ⟨hn_a_2, b_x2_1, hB_s_1, hF_s_1⟩ := hI
  refine ok_ite (fun c_1 => ?_) (fun c_1 => ?_)
  · rw [fa_le] at c_1
    exact ok_ret ⟨hB_s_1, hF_s_1⟩
  · rw [fa_le] at c_1
    refine ok_ix ⟨by omega, by omega⟩ ?_
    obtain ⟨t_2, ht_2, g_2⟩ : ∃ t : Int, (chS 19 x2_1).toInt = t ∧ -2147483648 ≤ t ∧ t ≤ 2147483647 := ⟨_, rfl, tI_rng _⟩
    refine ok_lt fun v_3 e_v_3 => ?_
    have b_v_3 : 0 ≤ v_3.toInt ∧ v_3.toInt ≤ 255 := by rw [e_v_3]; exact ch_rng _ _
    refine ok_cals (s_X6_writeSign (x1 := v_3) (σ := s_1) hB_s_1 (by omega)) (fun s_4 h_3 => ?_)
    obtain ⟨hB_s_4, hG_s_4⟩ := h_3
    (try dsimp only at hB_s_4 hG_s_4)
    have hF_s_4 : FR [93, 94] [] σ s_4 := FR.cal hF_s_1 hG_s_4 rfl rfl
    obtain ⟨t_4, ht_4, g_4⟩ : ∃ t : Int, (x2_1 + 1).toInt = t ∧ t = x2_1.toInt + (1 : Int32).toInt := ⟨_, rfl, by have h9 := fb_addI (x := x2_1) (y := (1 : Int32)) (by omega) (by omega); exact h9⟩
    refine ok_lt fun x2_5 e_x2_5 => ?_
    have q_x2_5 : x2_5.toInt = t_4 := by rw [e_x2_5]; exact ht_4
    exact ih_a_2 _ x2_5 s_4 (by rw [hn_a_2]; omega) ⟨rfl, (by omega), hB_s_4, hF_s_4⟩

set_option maxHeartbeats 4000000 in
theorem s_X6_write_s20 {σ : Sto} (hB : BX σ) : OK (f_X6_write_s20 σ) (fun s => BX s ∧ FR [93, 94] [] σ s) := by
  unfold f_X6_write_s20
  have hF : FR [93, 94] [] σ σ := FR.rf
  have k_0 : (0 : Int32).toInt = 0 := by decide +kernel
  have k_1 : (1 : Int32).toInt = 1 := by decide +kernel
  refine ok_itr2 (fun (n : Nat) (x2_1 : Int32) (s_1 : Sto) => n = (2 - x2_1.toInt).toNat ∧ (0 ≤ x2_1.toInt ∧ x2_1.toInt ≤ 1) ∧ (BX s_1) ∧ (FR [93, 94] [] σ s_1)) ?_ (n := _) ⟨rfl, (by omega), hB, hF⟩ (show _ < 10000000 by omega)
  intro a_2 n x2_1 s_1 hI ih_a_2
  obtain ⟨hn_a_2, b_x2_1, hB_s_1, hF_s_1⟩ := hI
  refine ok_ite (fun c_1 => ?_) (fun c_1 => ?_)
  · rw [fa_le] at c_1
    exact ok_ret ⟨hB_s_1, hF_s_1⟩
  · rw [fa_le] at c_1
    refine ok_ix ⟨by omega, by omega⟩ ?_
    obtain ⟨t_2, ht_2, g_2⟩ : ∃ t : Int, (chS 20 x2_1).toInt = t ∧ -2147483648 ≤ t ∧ t ≤ 2147483647 := ⟨_, rfl, tI_rng _⟩
    refine ok_lt fun v_3 e_v_3 => ?_
    have b_v_3 : 0 ≤ v_3.toInt ∧ v_3.toInt ≤ 255 := by rw [e_v_3]; exact ch_rng _ _
    refine ok_cals (s_X6_writeSign (x1 := v_3) (σ := s_1) hB_s_1 (by omega)) (fun s_4 h_3 => ?_)
    obtain ⟨hB_s_4, hG_s_4⟩ := h_3
    (try dsimp only at hB_s_4 hG_s_4)
    have hF_s_4 : FR [93, 94] [] σ s_4 := FR.cal hF_s_1 hG_s_4 rfl rfl
    obtain ⟨t_4, ht_4, g_4⟩ : ∃ t : Int, (x2_1 + 1).toInt = t ∧ t = x2_1.toInt + (1 : Int32).toInt := ⟨_, rfl, by have h9 := fb_addI (x := x2_1) (y := (1 : Int32)) (by omega) (by omega); exact h9⟩
    refine ok_lt fun x2_5 e_x2_5 => ?_
    have q_x2_5 : x2_5.toInt = t_4 := by rw [e_x2_5]; exact ht_4
    exact ih_a_2 _ x2_5 s_4 (by rw [hn_a_2]; omega) ⟨rfl, (by omega), hB_s_4, hF_s_4⟩

theorem s_X6_writeExpression {x1 : Int32} {x2 : Int32} {σ : Sto} (hB : BX σ) (p_x1 : (-1) ≤ x1.toInt ∧ x1.toInt ≤ 999) (p_x2 : 0 ≤ x2.toInt ∧ x2.toInt ≤ 61) : OK (f_X6_writeExpression 250 x1 x2 σ) (fun s => BX s ∧ FR [93, 94] [] σ s) := sorry
set_option maxHeartbeats 4000000 in
theorem s_X6_widthOf {x1 : Int32} {σ : Sto} (hB : BX σ) (p_x1 : (-1) ≤ x1.toInt ∧ x1.toInt ≤ 511) : OK (f_X6_widthOf x1 σ) (fun r => True ∧ BX r.2 ∧ FR [93, 94] [] σ r.2) := by
  unfold f_X6_widthOf
  have hF : FR [93, 94] [] σ σ := FR.rf
  have k_0 : (0 : Int32).toInt = 0 := by decide +kernel
  refine ok_lt fun s_1 e_s_1 => ?_
  have hB_s_1 : BX s_1 := by rw [e_s_1]; exact pX_94 hB (tI_rng _)
  have hF_s_1 : FR [93, 94] [] σ s_1 := by rw [e_s_1]; exact FR.st hF (by decide)
  have w_s_1_94 : (s_1.1 94 0).toInt = (0 : Int32).toInt := by rw [e_s_1, sti_s]
  refine ok_cals (s_X6_writeExpression (x1 := x1) (x2 := (0 : Int32)) (σ := s_1) hB_s_1 (by omega) (by omega)) (fun s_2 h_1 => ?_)
  obtain ⟨hB_s_2, hG_s_2⟩ := h_1
  (try dsimp only at hB_s_2 hG_s_2)
  have hF_s_2 : FR [93, 94] [] σ s_2 := FR.cal hF_s_1 hG_s_2 rfl rfl
  exact ok_ret ⟨trivial, hB_s_2, hF_s_2⟩

set_option maxHeartbeats 4000000 in
theorem s_X11_statement {x1 : Int32} {x2 : Int32} {x3 : Int32} {σ : Sto} (hB : BX σ) : OK (f_X11_statement x1 x2 x3 σ) (fun r => True ∧ BX r.2 ∧ FR [93, 94] [] σ r.2) := by
  unfold f_X11_statement
  have hF : FR [93, 94] [] σ σ := FR.rf
  have k_m1000000 : ((-1000000) : Int32).toInt = -1000000 := by decide +kernel
  have k_m1 : ((-1) : Int32).toInt = -1 := by decide +kernel
  have k_0 : (0 : Int32).toInt = 0 := by decide +kernel
  have k_1 : (1 : Int32).toInt = 1 := by decide +kernel
  have k_2 : (2 : Int32).toInt = 2 := by decide +kernel
  have k_3 : (3 : Int32).toInt = 3 := by decide +kernel
  have k_4 : (4 : Int32).toInt = 4 := by decide +kernel
  have g9 := gX_20 hB 0
  refine ok_calp (s_X11_isBlock (x1 := x1) (σ := σ) hB) (fun v_1 h_1 => ?_)
  obtain ⟨b_v_1, x_v_1⟩ := h_1
  (try dsimp only at b_v_1 x_v_1)
  refine ok_ite (fun c_2 => ?_) (fun c_2 => ?_)
  · rw [fa_eq] at c_2
    exact ok_ret ⟨trivial, hB, hF⟩
  · rw [fa_eq] at c_2
    refine ok_ite (fun c_3 => ?_) (fun c_3 => ?_)
    · rw [fa_lt] at c_3
      exact ok_ret ⟨trivial, hB, hF⟩
    · rw [fa_lt] at c_3
      obtain ⟨t_4, ht_4, g_4⟩ : ∃ t : Int, (x1 + 1).toInt = t ∧ t = x1.toInt + (1 : Int32).toInt := ⟨_, rfl, by have h9 := fb_addI (x := x1) (y := (1 : Int32)) (by omega) (by omega); exact h9⟩
      refine ok_ix ⟨by rw [ht_4]; omega, by rw [ht_4]; omega⟩ ?_
      have g_5 := gX_56 hB ((x1 + 1).toNatClampNeg)
      refine ok_lt fun v_4 e_v_4 => ?_
      have b_v_4 : 0 ≤ v_4.toInt ∧ v_4.toInt ≤ 320 := by rw [e_v_4]; exact gX_56 hB _
      refine ok_ix ⟨by omega, by omega⟩ ?_
      have g_6 := gX_56 hB (x1.toNatClampNeg)
      refine ok_lt fun v_5 e_v_5 => ?_
      have b_v_5 : 0 ≤ v_5.toInt ∧ v_5.toInt ≤ 320 := by rw [e_v_5]; exact gX_56 hB _
      have q_v_5 : v_5.toInt = (σ.1 56 x1.toNatClampNeg).toInt := by rw [e_v_5]
      obtain ⟨t_8, ht_8, g_8⟩ : ∃ t : Int, (v_4 - v_5).toInt = t ∧ t = v_4.toInt - v_5.toInt := ⟨_, rfl, by have h9 := fb_subI (x := v_4) (y := v_5) (by omega) (by omega); exact h9⟩
      refine ok_ite (fun c_7 => ?_) (fun c_7 => ?_)
      · rw [fa_lt, ht_8] at c_7
        refine ok_ix ⟨by omega, by omega⟩ ?_
        refine ok_lt fun v_7 e_v_7 => ?_
        have b_v_7 : 0 ≤ v_7.toInt ∧ v_7.toInt ≤ 320 := by rw [e_v_7]; exact gX_56 hB _
        have q_v_7 : v_7.toInt = (σ.1 56 x1.toNatClampNeg).toInt := by rw [e_v_7]
        obtain ⟨t_9, ht_9, g_9⟩ : ∃ t : Int, (v_7 + x2).toInt = t ∧ t = v_7.toInt + x2.toInt := ⟨_, rfl, by have h9 := fb_addI (x := v_7) (y := x2) (by omega) (by omega); exact h9⟩
        refine ok_lt fun x4_8 e_x4_8 => ?_
        have q_x4_8 : x4_8.toInt = t_9 := by rw [e_x4_8]; exact ht_9
        refine ok_ix ⟨by omega, by omega⟩ ?_
        have g_10 := gX_55 hB (x4_8.toNatClampNeg)
        refine ok_lt fun v_9 e_v_9 => ?_
        have b_v_9 : (-1) ≤ v_9.toInt ∧ v_9.toInt ≤ 511 := by rw [e_v_9]; exact gX_55 hB _
        refine ok_ite (fun c_11 => ?_) (fun c_11 => ?_)
        · have c_11 := c_11
          refine ok_ix ⟨by omega, by omega⟩ ?_
          have g_12 := gX_53 hB (x4_8.toNatClampNeg)
          refine ok_lt fun v_11 e_v_11 => ?_
          have b_v_11 : 0 ≤ v_11.toInt ∧ v_11.toInt ≤ 6 := by rw [e_v_11]; exact gX_53 hB _
          exact ok_ret ⟨trivial, hB, hF⟩
        · have c_11 := c_11
          refine ok_ite (fun c_13 => ?_) (fun c_13 => ?_)
          · have c_13 := c_13
            refine ok_ix ⟨by omega, by omega⟩ ?_
            have g_14 := gX_54 hB (x4_8.toNatClampNeg)
            refine ok_lt fun v_12 e_v_12 => ?_
            have b_v_12 : (-1) ≤ v_12.toInt ∧ v_12.toInt ≤ 160 := by rw [e_v_12]; exact gX_54 hB _
            exact ok_ret ⟨trivial, hB, hF⟩
          · have c_13 := c_13
            refine ok_ite (fun c_15 => ?_) (fun c_15 => ?_)
            · have c_15 := c_15
              refine ok_ite (fun c_16 => ?_) (fun c_16 => ?_)
              · rw [fa_eq] at c_16
                exact ok_ret ⟨trivial, hB, hF⟩
              · rw [fa_eq] at c_16
                refine ok_calv (s_X6_widthOf (x1 := v_9) (σ := σ) hB (by omega)) (fun v_14 s_14 h_17 => ?_)
                obtain ⟨b_v_14, hB_s_14, hG_s_14⟩ := h_17
                (try dsimp only at b_v_14 hB_s_14 hG_s_14)
                have hF_s_14 : FR [93, 94] [] σ s_14 := FR.cal hF hG_s_14 rfl rfl
                exact ok_ret ⟨trivial, hB_s_14, hF_s_14⟩
            · have c_15 := c_15
              refine ok_ite (fun c_18 => ?_) (fun c_18 => ?_)
              · have c_18 := c_18
                refine ok_jn ?_
                refine ok_ite (fun c_19 => ?_) (fun c_19 => ?_)
                · rw [fa_eq] at c_19
                  exact ok_ret ⟨trivial, hB, hF⟩
                · rw [fa_eq] at c_19
                  refine ok_calp (s_X7_hasEffects (x1 := v_9) (σ := σ) hB (by omega)) (fun v_17 h_20 => ?_)
                  have b_v_17 := h_20
                  (try dsimp only at b_v_17)
                  refine ok_ite (fun c_21 => ?_) (fun c_21 => ?_)
                  · rw [fa_eq] at c_21
                    exact ok_ret ⟨trivial, hB, hF⟩
                  · rw [fa_eq] at c_21
                    exact ok_ret ⟨trivial, hB, hF⟩
              · have c_18 := c_18
                refine ok_ite (fun c_22 => ?_) (fun c_22 => ?_)
                · have c_22 := c_22
                  refine ok_ite (fun c_23 => ?_) (fun c_23 => ?_)
                  · rw [fa_eq] at c_23
                    exact ok_ret ⟨trivial, hB, hF⟩
                  · rw [fa_eq] at c_23
                    refine ok_ix ⟨by omega, by omega⟩ ?_
                    refine ok_lt fun v_20 e_v_20 => ?_
                    exact ok_ret ⟨trivial, hB, hF⟩
                · have c_22 := c_22
                  exact ok_ret ⟨trivial, hB, hF⟩
      · rw [fa_lt, ht_8] at c_7
        exact ok_ret ⟨trivial, hB, hF⟩

set_option maxHeartbeats 4000000 in
theorem s_X6_signAt {x1 : Int32} {σ : Sto} (hB : BX σ) : OK (f_X6_signAt x1 σ) (fun v => ((-1) ≤ v.toInt ∧ v.toInt ≤ 1399)) := by
  unfold f_X6_signAt
  have hF : FR [] [] σ σ := FR.rf
  have k_m1 : ((-1) : Int32).toInt = -1 := by decide +kernel
  have k_0 : (0 : Int32).toInt = 0 := by decide +kernel
  have k_400 : (400 : Int32).toInt = 400 := by decide +kernel
  refine ok_jn ?_
  refine ok_ite (fun c_1 => ?_) (fun c_1 => ?_)
  · rw [fa_lt] at c_1
    exact ok_ret (by (try dsimp only); omega)
  · rw [fa_lt] at c_1
    refine ok_ite (fun c_2 => ?_) (fun c_2 => ?_)
    · rw [fa_le] at c_2
      exact ok_ret (by (try dsimp only); omega)
    · rw [fa_le] at c_2
      refine ok_ite (fun c_3 => ?_) (fun c_3 => ?_)
      · rw [fa_le] at c_3
        exact ok_ret (by (try dsimp only); omega)
      · rw [fa_le] at c_3
        refine ok_ix ⟨by omega, by omega⟩ ?_
        have g_4 := gX_93 hB (x1.toNatClampNeg)
        refine ok_lt fun v_5 e_v_5 => ?_
        have b_v_5 : 0 ≤ v_5.toInt ∧ v_5.toInt ≤ 1399 := by rw [e_v_5]; exact gX_93 hB _
        exact ok_ret (by (try dsimp only); omega)

set_option maxHeartbeats 4000000 in
theorem s_X11_condition {x1 : Int32} {x2 : Int32} {σ : Sto} (hB : BX σ) : OK (f_X11_condition x1 x2 σ) (fun r => True ∧ BX r.2 ∧ FR [93, 94] [] σ r.2) := by
  unfold f_X11_condition
  have hF : FR [93, 94] [] σ σ := FR.rf
  have k_m1 : ((-1) : Int32).toInt = -1 := by decide +kernel
  have k_0 : (0 : Int32).toInt = 0 := by decide +kernel
  have g9 := gX_20 hB 0
  refine ok_calp (s_X11_isBlock (x1 := x1) (σ := σ) hB) (fun v_1 h_1 => ?_)
  obtain ⟨b_v_1, x_v_1⟩ := h_1
  (try dsimp only at b_v_1 x_v_1)
  refine ok_ite (fun c_2 => ?_) (fun c_2 => ?_)
  · rw [fa_eq] at c_2
    exact ok_ret ⟨trivial, hB, hF⟩
  · rw [fa_eq] at c_2
    refine ok_ix ⟨by omega, by omega⟩ ?_
    have g_3 := gX_57 hB (x1.toNatClampNeg)
    refine ok_lt fun v_3 e_v_3 => ?_
    have b_v_3 : (-1) ≤ v_3.toInt ∧ v_3.toInt ≤ 511 := by rw [e_v_3]; exact gX_57 hB _
    have q_v_3 : v_3.toInt = (σ.1 57 x1.toNatClampNeg).toInt := by rw [e_v_3]
    refine ok_ite (fun c_4 => ?_) (fun c_4 => ?_)
    · rw [fa_eq] at c_4
      exact ok_ret ⟨trivial, hB, hF⟩
    · rw [fa_eq] at c_4
      refine ok_ix ⟨by omega, by omega⟩ ?_
      refine ok_lt fun v_5 e_v_5 => ?_
      have b_v_5 : (-1) ≤ v_5.toInt ∧ v_5.toInt ≤ 511 := by rw [e_v_5]; exact gX_57 hB _
      have q_v_5 : v_5.toInt = (σ.1 57 x1.toNatClampNeg).toInt := by rw [e_v_5]
      refine ok_calv (s_X6_widthOf (x1 := v_5) (σ := σ) hB (by omega)) (fun v_6 s_6 h_5 => ?_)
      obtain ⟨b_v_6, hB_s_6, hG_s_6⟩ := h_5
      (try dsimp only at b_v_6 hB_s_6 hG_s_6)
      have hF_s_6 : FR [93, 94] [] σ s_6 := FR.cal hF hG_s_6 rfl rfl
      refine ok_ite (fun c_6 => ?_) (fun c_6 => ?_)
      · rw [fa_eq] at c_6
        exact ok_ret ⟨trivial, hB_s_6, hF_s_6⟩
      · rw [fa_eq] at c_6
        refine ok_calp (s_X6_signAt (x1 := x2) (σ := s_6) hB_s_6) (fun v_8 h_7 => ?_)
        have b_v_8 := h_7
        (try dsimp only at b_v_8)
        exact ok_ret ⟨trivial, hB_s_6, hF_s_6⟩

set_option maxHeartbeats 4000000 in
theorem s_X11_isLine {x1 : Int32} {σ : Sto} (hB : BX σ) : OK (f_X11_isLine x1 σ) (fun v => (0 ≤ v.toInt ∧ v.toInt ≤ 1) ∧ ((v.toInt = 1 → 0 ≤ x1.toInt ∧ x1.toInt < (σ.1 68 0).toInt))) := by
  unfold f_X11_isLine
  have hF : FR [] [] σ σ := FR.rf
  have k_0 : (0 : Int32).toInt = 0 := by decide +kernel
  have k_1 : (1 : Int32).toInt = 1 := by decide +kernel
  refine ok_jn ?_
  have g_2 := gX_0 hB 0
  refine ok_ite (fun c_1 => ?_) (fun c_1 => ?_)
  · rw [fa_eq] at c_1
    exact ok_ret ⟨(by (try dsimp only); omega), (by (try dsimp only); omega)⟩
  · rw [fa_eq] at c_1
    have g_4 := gX_34 hB 0
    refine ok_ite (fun c_3 => ?_) (fun c_3 => ?_)
    · rw [fa_eq] at c_3
      refine ok_ite (fun c_5 => ?_) (fun c_5 => ?_)
      · rw [fa_lt] at c_5
        exact ok_ret ⟨(by (try dsimp only); omega), (by (try dsimp only); omega)⟩
      · rw [fa_lt] at c_5
        have g_7 := gX_68 hB 0
        refine ok_ite (fun c_6 => ?_) (fun c_6 => ?_)
        · rw [fa_le] at c_6
          exact ok_ret ⟨(by (try dsimp only); omega), (by (try dsimp only); omega)⟩
        · rw [fa_le] at c_6
          exact ok_ret ⟨(by (try dsimp only); omega), (by (try dsimp only); omega)⟩
    · rw [fa_eq] at c_3
      exact ok_ret ⟨(by (try dsimp only); omega), (by (try dsimp only); omega)⟩

set_option maxHeartbeats 4000000 in
theorem s_X11_line {x1 : Int32} {x2 : Int32} {σ : Sto} (hB : BX σ) : OK (f_X11_line x1 x2 σ) (fun v => True) := by
  unfold f_X11_line
  have hF : FR [] [] σ σ := FR.rf
  have k_m1000000 : ((-1000000) : Int32).toInt = -1000000 := by decide +kernel
  have k_0 : (0 : Int32).toInt = 0 := by decide +kernel
  have k_1 : (1 : Int32).toInt = 1 := by decide +kernel
  have k_2 : (2 : Int32).toInt = 2 := by decide +kernel
  have g9 := gX_68 hB 0
  refine ok_calp (s_X11_isLine (x1 := x1) (σ := σ) hB) (fun v_1 h_1 => ?_)
  obtain ⟨b_v_1, x_v_1⟩ := h_1
  (try dsimp only at b_v_1 x_v_1)
  refine ok_ite (fun c_2 => ?_) (fun c_2 => ?_)
  · rw [fa_eq] at c_2
    exact ok_ret trivial
  · rw [fa_eq] at c_2
    refine ok_ite (fun c_3 => ?_) (fun c_3 => ?_)
    · have c_3 := c_3
      refine ok_ix ⟨by omega, by omega⟩ ?_
      have g_4 := gX_69 hB (x1.toNatClampNeg)
      refine ok_lt fun v_4 e_v_4 => ?_
      have b_v_4 : 0 ≤ v_4.toInt ∧ v_4.toInt ≤ 12 := by rw [e_v_4]; exact gX_69 hB _
      exact ok_ret trivial
    · have c_3 := c_3
      refine ok_ite (fun c_5 => ?_) (fun c_5 => ?_)
      · have c_5 := c_5
        refine ok_ix ⟨by omega, by omega⟩ ?_
        have g_6 := gX_70 hB (x1.toNatClampNeg)
        refine ok_lt fun v_5 e_v_5 => ?_
        have b_v_5 : 0 ≤ v_5.toInt ∧ v_5.toInt ≤ 39 := by rw [e_v_5]; exact gX_70 hB _
        exact ok_ret trivial
      · have c_5 := c_5
        refine ok_ite (fun c_7 => ?_) (fun c_7 => ?_)
        · have c_7 := c_7
          refine ok_ix ⟨by omega, by omega⟩ ?_
          refine ok_lt fun v_6 e_v_6 => ?_
          exact ok_ret trivial
        · have c_7 := c_7
          exact ok_ret trivial

set_option maxHeartbeats 4000000 in
theorem s_X6_write_s7 {σ : Sto} (hB : BX σ) : OK (f_X6_write_s7 σ) (fun s => BX s ∧ FR [93, 94] [] σ s) := by
  unfold f_X6_write_s7
  have hF : FR [93, 94] [] σ σ := FR.rf
  have k_0 : (0 : Int32).toInt = 0 := by decide +kernel
  have k_1 : (1 : Int32).toInt = 1 := by decide +kernel
  refine ok_itr2 (fun (n : Nat) (x2_1 : Int32) (s_1 : Sto) => n = (2 - x2_1.toInt).toNat ∧ (0 ≤ x2_1.toInt ∧ x2_1.toInt ≤ 1) ∧ (BX s_1) ∧ (FR [93, 94] [] σ s_1)) ?_ (n := _) ⟨rfl, (by omega), hB, hF⟩ (show _ < 10000000 by omega)
  intro a_2 n x2_1 s_1 hI ih_a_2
  obtain ⟨hn_a_2, b_x2_1, hB_s_1, hF_s_1⟩ := hI
  refine ok_ite (fun c_1 => ?_) (fun c_1 => ?_)
  · rw [fa_le] at c_1
    exact ok_ret ⟨hB_s_1, hF_s_1⟩
  · rw [fa_le] at c_1
    refine ok_ix ⟨by omega, by omega⟩ ?_
    obtain ⟨t_2, ht_2, g_2⟩ : ∃ t : Int, (chS 7 x2_1).toInt = t ∧ -2147483648 ≤ t ∧ t ≤ 2147483647 := ⟨_, rfl, tI_rng _⟩
    refine ok_lt fun v_3 e_v_3 => ?_
    have b_v_3 : 0 ≤ v_3.toInt ∧ v_3.toInt ≤ 255 := by rw [e_v_3]; exact ch_rng _ _
    refine ok_cals (s_X6_writeSign (x1 := v_3) (σ := s_1) hB_s_1 (by omega)) (fun s_4 h_3 => ?_)
    obtain ⟨hB_s_4, hG_s_4⟩ := h_3
    (try dsimp only at hB_s_4 hG_s_4)
    have hF_s_4 : FR [93, 94] [] σ s_4 := FR.cal hF_s_1 hG_s_4 rfl rfl
    obtain ⟨t_4, ht_4, g_4⟩ : ∃ t : Int, (x2_1 + 1).toInt = t ∧ t = x2_1.toInt + (1 : Int32).toInt := ⟨_, rfl, by have h9 := fb_addI (x := x2_1) (y := (1 : Int32)) (by omega) (by omega); exact h9⟩
    refine ok_lt fun x2_5 e_x2_5 => ?_
    have q_x2_5 : x2_5.toInt = t_4 := by rw [e_x2_5]; exact ht_4
    exact ih_a_2 _ x2_5 s_4 (by rw [hn_a_2]; omega) ⟨rfl, (by omega), hB_s_4, hF_s_4⟩

set_option maxHeartbeats 4000000 in
theorem s_X6_write_s14 {σ : Sto} (hB : BX σ) : OK (f_X6_write_s14 σ) (fun s => BX s ∧ FR [93, 94] [] σ s) := by
  unfold f_X6_write_s14
  have hF : FR [93, 94] [] σ σ := FR.rf
  have k_0 : (0 : Int32).toInt = 0 := by decide +kernel
  have k_1 : (1 : Int32).toInt = 1 := by decide +kernel
  refine ok_itr2 (fun (n : Nat) (x2_1 : Int32) (s_1 : Sto) => n = (2 - x2_1.toInt).toNat ∧ (0 ≤ x2_1.toInt ∧ x2_1.toInt ≤ 1) ∧ (BX s_1) ∧ (FR [93, 94] [] σ s_1)) ?_ (n := _) ⟨rfl, (by omega), hB, hF⟩ (show _ < 10000000 by omega)
  intro a_2 n x2_1 s_1 hI ih_a_2
  obtain ⟨hn_a_2, b_x2_1, hB_s_1, hF_s_1⟩ := hI
  refine ok_ite (fun c_1 => ?_) (fun c_1 => ?_)
  · rw [fa_le] at c_1
    exact ok_ret ⟨hB_s_1, hF_s_1⟩
  · rw [fa_le] at c_1
    refine ok_ix ⟨by omega, by omega⟩ ?_
    obtain ⟨t_2, ht_2, g_2⟩ : ∃ t : Int, (chS 14 x2_1).toInt = t ∧ -2147483648 ≤ t ∧ t ≤ 2147483647 := ⟨_, rfl, tI_rng _⟩
    refine ok_lt fun v_3 e_v_3 => ?_
    have b_v_3 : 0 ≤ v_3.toInt ∧ v_3.toInt ≤ 255 := by rw [e_v_3]; exact ch_rng _ _
    refine ok_cals (s_X6_writeSign (x1 := v_3) (σ := s_1) hB_s_1 (by omega)) (fun s_4 h_3 => ?_)
    obtain ⟨hB_s_4, hG_s_4⟩ := h_3
    (try dsimp only at hB_s_4 hG_s_4)
    have hF_s_4 : FR [93, 94] [] σ s_4 := FR.cal hF_s_1 hG_s_4 rfl rfl
    obtain ⟨t_4, ht_4, g_4⟩ : ∃ t : Int, (x2_1 + 1).toInt = t ∧ t = x2_1.toInt + (1 : Int32).toInt := ⟨_, rfl, by have h9 := fb_addI (x := x2_1) (y := (1 : Int32)) (by omega) (by omega); exact h9⟩
    refine ok_lt fun x2_5 e_x2_5 => ?_
    have q_x2_5 : x2_5.toInt = t_4 := by rw [e_x2_5]; exact ht_4
    exact ih_a_2 _ x2_5 s_4 (by rw [hn_a_2]; omega) ⟨rfl, (by omega), hB_s_4, hF_s_4⟩

set_option maxHeartbeats 4000000 in
theorem s_X6_write_s15 {σ : Sto} (hB : BX σ) : OK (f_X6_write_s15 σ) (fun s => BX s ∧ FR [93, 94] [] σ s) := by
  unfold f_X6_write_s15
  have hF : FR [93, 94] [] σ σ := FR.rf
  have k_0 : (0 : Int32).toInt = 0 := by decide +kernel
  have k_1 : (1 : Int32).toInt = 1 := by decide +kernel
  have k_4 : (4 : Int32).toInt = 4 := by decide +kernel
  refine ok_itr2 (fun (n : Nat) (x2_1 : Int32) (s_1 : Sto) => n = (6 - x2_1.toInt).toNat ∧ (0 ≤ x2_1.toInt ∧ x2_1.toInt ≤ 5) ∧ (BX s_1) ∧ (FR [93, 94] [] σ s_1)) ?_ (n := _) ⟨rfl, (by omega), hB, hF⟩ (show _ < 10000000 by omega)
  intro a_2 n x2_1 s_1 hI ih_a_2
  obtain ⟨hn_a_2, b_x2_1, hB_s_1, hF_s_1⟩ := hI
  refine ok_ite (fun c_1 => ?_) (fun c_1 => ?_)
  · rw [fa_le] at c_1
    exact ok_ret ⟨hB_s_1, hF_s_1⟩
  · rw [fa_le] at c_1
    refine ok_ix ⟨by omega, by omega⟩ ?_
    obtain ⟨t_2, ht_2, g_2⟩ : ∃ t : Int, (chS 15 x2_1).toInt = t ∧ -2147483648 ≤ t ∧ t ≤ 2147483647 := ⟨_, rfl, tI_rng _⟩
    refine ok_lt fun v_3 e_v_3 => ?_
    have b_v_3 : 0 ≤ v_3.toInt ∧ v_3.toInt ≤ 255 := by rw [e_v_3]; exact ch_rng _ _
    refine ok_cals (s_X6_writeSign (x1 := v_3) (σ := s_1) hB_s_1 (by omega)) (fun s_4 h_3 => ?_)
    obtain ⟨hB_s_4, hG_s_4⟩ := h_3
    (try dsimp only at hB_s_4 hG_s_4)
    have hF_s_4 : FR [93, 94] [] σ s_4 := FR.cal hF_s_1 hG_s_4 rfl rfl
    obtain ⟨t_4, ht_4, g_4⟩ : ∃ t : Int, (x2_1 + 1).toInt = t ∧ t = x2_1.toInt + (1 : Int32).toInt := ⟨_, rfl, by have h9 := fb_addI (x := x2_1) (y := (1 : Int32)) (by omega) (by omega); exact h9⟩
    refine ok_lt fun x2_5 e_x2_5 => ?_
    have q_x2_5 : x2_5.toInt = t_4 := by rw [e_x2_5]; exact ht_4
    exact ih_a_2 _ x2_5 s_4 (by rw [hn_a_2]; omega) ⟨rfl, (by omega), hB_s_4, hF_s_4⟩

set_option maxHeartbeats 4000000 in
theorem s_X6_write_s16 {σ : Sto} (hB : BX σ) : OK (f_X6_write_s16 σ) (fun s => BX s ∧ FR [93, 94] [] σ s) := by
  unfold f_X6_write_s16
  have hF : FR [93, 94] [] σ σ := FR.rf
  have k_0 : (0 : Int32).toInt = 0 := by decide +kernel
  have k_1 : (1 : Int32).toInt = 1 := by decide +kernel
  have k_6 : (6 : Int32).toInt = 6 := by decide +kernel
  refine ok_itr2 (fun (n : Nat) (x2_1 : Int32) (s_1 : Sto) => n = (7 - x2_1.toInt).toNat ∧ (0 ≤ x2_1.toInt ∧ x2_1.toInt ≤ 6) ∧ (BX s_1) ∧ (FR [93, 94] [] σ s_1)) ?_ (n := _) ⟨rfl, (by omega), hB, hF⟩ (show _ < 10000000 by omega)
  intro a_2 n x2_1 s_1 hI ih_a_2
  obtain ⟨hn_a_2, b_x2_1, hB_s_1, hF_s_1⟩ := hI
  refine ok_ite (fun c_1 => ?_) (fun c_1 => ?_)
  · rw [fa_le] at c_1
    exact ok_ret ⟨hB_s_1, hF_s_1⟩
  · rw [fa_le] at c_1
    refine ok_ix ⟨by omega, by omega⟩ ?_
    obtain ⟨t_2, ht_2, g_2⟩ : ∃ t : Int, (chS 16 x2_1).toInt = t ∧ -2147483648 ≤ t ∧ t ≤ 2147483647 := ⟨_, rfl, tI_rng _⟩
    refine ok_lt fun v_3 e_v_3 => ?_
    have b_v_3 : 0 ≤ v_3.toInt ∧ v_3.toInt ≤ 255 := by rw [e_v_3]; exact ch_rng _ _
    refine ok_cals (s_X6_writeSign (x1 := v_3) (σ := s_1) hB_s_1 (by omega)) (fun s_4 h_3 => ?_)
    obtain ⟨hB_s_4, hG_s_4⟩ := h_3
    (try dsimp only at hB_s_4 hG_s_4)
    have hF_s_4 : FR [93, 94] [] σ s_4 := FR.cal hF_s_1 hG_s_4 rfl rfl
    obtain ⟨t_4, ht_4, g_4⟩ : ∃ t : Int, (x2_1 + 1).toInt = t ∧ t = x2_1.toInt + (1 : Int32).toInt := ⟨_, rfl, by have h9 := fb_addI (x := x2_1) (y := (1 : Int32)) (by omega) (by omega); exact h9⟩
    refine ok_lt fun x2_5 e_x2_5 => ?_
    have q_x2_5 : x2_5.toInt = t_4 := by rw [e_x2_5]; exact ht_4
    exact ih_a_2 _ x2_5 s_4 (by rw [hn_a_2]; omega) ⟨rfl, (by omega), hB_s_4, hF_s_4⟩

set_option maxHeartbeats 4000000 in
theorem s_X6_write_s17 {σ : Sto} (hB : BX σ) : OK (f_X6_write_s17 σ) (fun s => BX s ∧ FR [93, 94] [] σ s) := by
  unfold f_X6_write_s17
  have hF : FR [93, 94] [] σ σ := FR.rf
  have k_0 : (0 : Int32).toInt = 0 := by decide +kernel
  have k_1 : (1 : Int32).toInt = 1 := by decide +kernel
  have k_6 : (6 : Int32).toInt = 6 := by decide +kernel
  refine ok_itr2 (fun (n : Nat) (x2_1 : Int32) (s_1 : Sto) => n = (7 - x2_1.toInt).toNat ∧ (0 ≤ x2_1.toInt ∧ x2_1.toInt ≤ 6) ∧ (BX s_1) ∧ (FR [93, 94] [] σ s_1)) ?_ (n := _) ⟨rfl, (by omega), hB, hF⟩ (show _ < 10000000 by omega)
  intro a_2 n x2_1 s_1 hI ih_a_2
  obtain ⟨hn_a_2, b_x2_1, hB_s_1, hF_s_1⟩ := hI
  refine ok_ite (fun c_1 => ?_) (fun c_1 => ?_)
  · rw [fa_le] at c_1
    exact ok_ret ⟨hB_s_1, hF_s_1⟩
  · rw [fa_le] at c_1
    refine ok_ix ⟨by omega, by omega⟩ ?_
    obtain ⟨t_2, ht_2, g_2⟩ : ∃ t : Int, (chS 17 x2_1).toInt = t ∧ -2147483648 ≤ t ∧ t ≤ 2147483647 := ⟨_, rfl, tI_rng _⟩
    refine ok_lt fun v_3 e_v_3 => ?_
    have b_v_3 : 0 ≤ v_3.toInt ∧ v_3.toInt ≤ 255 := by rw [e_v_3]; exact ch_rng _ _
    refine ok_cals (s_X6_writeSign (x1 := v_3) (σ := s_1) hB_s_1 (by omega)) (fun s_4 h_3 => ?_)
    obtain ⟨hB_s_4, hG_s_4⟩ := h_3
    (try dsimp only at hB_s_4 hG_s_4)
    have hF_s_4 : FR [93, 94] [] σ s_4 := FR.cal hF_s_1 hG_s_4 rfl rfl
    obtain ⟨t_4, ht_4, g_4⟩ : ∃ t : Int, (x2_1 + 1).toInt = t ∧ t = x2_1.toInt + (1 : Int32).toInt := ⟨_, rfl, by have h9 := fb_addI (x := x2_1) (y := (1 : Int32)) (by omega) (by omega); exact h9⟩
    refine ok_lt fun x2_5 e_x2_5 => ?_
    have q_x2_5 : x2_5.toInt = t_4 := by rw [e_x2_5]; exact ht_4
    exact ih_a_2 _ x2_5 s_4 (by rw [hn_a_2]; omega) ⟨rfl, (by omega), hB_s_4, hF_s_4⟩

theorem s_X6_writeStatement {x1 : Int32} {σ : Sto} (hB : BX σ) (p_x1 : (-1) ≤ x1.toInt ∧ x1.toInt ≤ 799) : OK (f_X6_writeStatement x1 σ) (fun s => BX s ∧ FR [93, 94] [] σ s) := sorry
set_option maxHeartbeats 4000000 in
theorem s_X6_write_s0 {σ : Sto} (hB : BX σ) : OK (f_X6_write_s0 σ) (fun s => BX s ∧ FR [93, 94] [] σ s) := by
  unfold f_X6_write_s0
  have hF : FR [93, 94] [] σ σ := FR.rf
  have k_0 : (0 : Int32).toInt = 0 := by decide +kernel
  have k_1 : (1 : Int32).toInt = 1 := by decide +kernel
  have k_6 : (6 : Int32).toInt = 6 := by decide +kernel
  refine ok_itr2 (fun (n : Nat) (x2_1 : Int32) (s_1 : Sto) => n = (7 - x2_1.toInt).toNat ∧ (0 ≤ x2_1.toInt ∧ x2_1.toInt ≤ 6) ∧ (BX s_1) ∧ (FR [93, 94] [] σ s_1)) ?_ (n := _) ⟨rfl, (by omega), hB, hF⟩ (show _ < 10000000 by omega)
  intro a_2 n x2_1 s_1 hI ih_a_2
  obtain ⟨hn_a_2, b_x2_1, hB_s_1, hF_s_1⟩ := hI
  refine ok_ite (fun c_1 => ?_) (fun c_1 => ?_)
  · rw [fa_le] at c_1
    exact ok_ret ⟨hB_s_1, hF_s_1⟩
  · rw [fa_le] at c_1
    refine ok_ix ⟨by omega, by omega⟩ ?_
    obtain ⟨t_2, ht_2, g_2⟩ : ∃ t : Int, (chS 0 x2_1).toInt = t ∧ -2147483648 ≤ t ∧ t ≤ 2147483647 := ⟨_, rfl, tI_rng _⟩
    refine ok_lt fun v_3 e_v_3 => ?_
    have b_v_3 : 0 ≤ v_3.toInt ∧ v_3.toInt ≤ 255 := by rw [e_v_3]; exact ch_rng _ _
    refine ok_cals (s_X6_writeSign (x1 := v_3) (σ := s_1) hB_s_1 (by omega)) (fun s_4 h_3 => ?_)
    obtain ⟨hB_s_4, hG_s_4⟩ := h_3
    (try dsimp only at hB_s_4 hG_s_4)
    have hF_s_4 : FR [93, 94] [] σ s_4 := FR.cal hF_s_1 hG_s_4 rfl rfl
    obtain ⟨t_4, ht_4, g_4⟩ : ∃ t : Int, (x2_1 + 1).toInt = t ∧ t = x2_1.toInt + (1 : Int32).toInt := ⟨_, rfl, by have h9 := fb_addI (x := x2_1) (y := (1 : Int32)) (by omega) (by omega); exact h9⟩
    refine ok_lt fun x2_5 e_x2_5 => ?_
    have q_x2_5 : x2_5.toInt = t_4 := by rw [e_x2_5]; exact ht_4
    exact ih_a_2 _ x2_5 s_4 (by rw [hn_a_2]; omega) ⟨rfl, (by omega), hB_s_4, hF_s_4⟩

set_option maxHeartbeats 4000000 in
theorem s_X6_write_s1 {σ : Sto} (hB : BX σ) : OK (f_X6_write_s1 σ) (fun s => BX s ∧ FR [93, 94] [] σ s) := by
  unfold f_X6_write_s1
  have hF : FR [93, 94] [] σ σ := FR.rf
  have k_0 : (0 : Int32).toInt = 0 := by decide +kernel
  have k_1 : (1 : Int32).toInt = 1 := by decide +kernel
  refine ok_itr2 (fun (n : Nat) (x2_1 : Int32) (s_1 : Sto) => n = (2 - x2_1.toInt).toNat ∧ (0 ≤ x2_1.toInt ∧ x2_1.toInt ≤ 1) ∧ (BX s_1) ∧ (FR [93, 94] [] σ s_1)) ?_ (n := _) ⟨rfl, (by omega), hB, hF⟩ (show _ < 10000000 by omega)
  intro a_2 n x2_1 s_1 hI ih_a_2
  obtain ⟨hn_a_2, b_x2_1, hB_s_1, hF_s_1⟩ := hI
  refine ok_ite (fun c_1 => ?_) (fun c_1 => ?_)
  · rw [fa_le] at c_1
    exact ok_ret ⟨hB_s_1, hF_s_1⟩
  · rw [fa_le] at c_1
    refine ok_ix ⟨by omega, by omega⟩ ?_
    obtain ⟨t_2, ht_2, g_2⟩ : ∃ t : Int, (chS 1 x2_1).toInt = t ∧ -2147483648 ≤ t ∧ t ≤ 2147483647 := ⟨_, rfl, tI_rng _⟩
    refine ok_lt fun v_3 e_v_3 => ?_
    have b_v_3 : 0 ≤ v_3.toInt ∧ v_3.toInt ≤ 255 := by rw [e_v_3]; exact ch_rng _ _
    refine ok_cals (s_X6_writeSign (x1 := v_3) (σ := s_1) hB_s_1 (by omega)) (fun s_4 h_3 => ?_)
    obtain ⟨hB_s_4, hG_s_4⟩ := h_3
    (try dsimp only at hB_s_4 hG_s_4)
    have hF_s_4 : FR [93, 94] [] σ s_4 := FR.cal hF_s_1 hG_s_4 rfl rfl
    obtain ⟨t_4, ht_4, g_4⟩ : ∃ t : Int, (x2_1 + 1).toInt = t ∧ t = x2_1.toInt + (1 : Int32).toInt := ⟨_, rfl, by have h9 := fb_addI (x := x2_1) (y := (1 : Int32)) (by omega) (by omega); exact h9⟩
    refine ok_lt fun x2_5 e_x2_5 => ?_
    have q_x2_5 : x2_5.toInt = t_4 := by rw [e_x2_5]; exact ht_4
    exact ih_a_2 _ x2_5 s_4 (by rw [hn_a_2]; omega) ⟨rfl, (by omega), hB_s_4, hF_s_4⟩

set_option maxHeartbeats 4000000 in
theorem s_X6_writeBlock_s0_s1 {x2 : Int32} {σ : Sto} (hB : BX σ) (p_x2 : 0 ≤ x2.toInt ∧ x2.toInt ≤ 39) : OK (f_X6_writeBlock_s0_s1 x2 σ) (fun s => BX s ∧ FR [93, 94] [] σ s) := by
  unfold f_X6_writeBlock_s0_s1
  have hF : FR [93, 94] [] σ σ := FR.rf
  refine ok_cals (s_X6_write_s0  (σ := σ) hB) (fun s_1 h_1 => ?_)
  obtain ⟨hB_s_1, hG_s_1⟩ := h_1
  (try dsimp only at hB_s_1 hG_s_1)
  have hF_s_1 : FR [93, 94] [] σ s_1 := FR.cal hF hG_s_1 rfl rfl
  refine ok_cals (s_X6_writeNumber (x1 := x2) (σ := s_1) hB_s_1 (by omega)) (fun s_2 h_2 => ?_)
  obtain ⟨hB_s_2, hG_s_2⟩ := h_2
  (try dsimp only at hB_s_2 hG_s_2)
  have hF_s_2 : FR [93, 94] [] σ s_2 := FR.cal hF_s_1 hG_s_2 rfl rfl
  refine ok_cals (s_X6_write_s1  (σ := s_2) hB_s_2) (fun s_3 h_3 => ?_)
  obtain ⟨hB_s_3, hG_s_3⟩ := h_3
  (try dsimp only at hB_s_3 hG_s_3)
  have hF_s_3 : FR [93, 94] [] σ s_3 := FR.cal hF_s_2 hG_s_3 rfl rfl
  exact ok_ret ⟨hB_s_3, hF_s_3⟩

set_option maxHeartbeats 4000000 in
theorem s_X6_write_s2 {σ : Sto} (hB : BX σ) : OK (f_X6_write_s2 σ) (fun s => BX s ∧ FR [93, 94] [] σ s) := by
  unfold f_X6_write_s2
  have hF : FR [93, 94] [] σ σ := FR.rf
  have k_0 : (0 : Int32).toInt = 0 := by decide +kernel
  have k_1 : (1 : Int32).toInt = 1 := by decide +kernel
  have k_7 : (7 : Int32).toInt = 7 := by decide +kernel
  refine ok_itr2 (fun (n : Nat) (x2_1 : Int32) (s_1 : Sto) => n = (8 - x2_1.toInt).toNat ∧ (0 ≤ x2_1.toInt ∧ x2_1.toInt ≤ 7) ∧ (BX s_1) ∧ (FR [93, 94] [] σ s_1)) ?_ (n := _) ⟨rfl, (by omega), hB, hF⟩ (show _ < 10000000 by omega)
  intro a_2 n x2_1 s_1 hI ih_a_2
  obtain ⟨hn_a_2, b_x2_1, hB_s_1, hF_s_1⟩ := hI
  refine ok_ite (fun c_1 => ?_) (fun c_1 => ?_)
  · rw [fa_le] at c_1
    exact ok_ret ⟨hB_s_1, hF_s_1⟩
  · rw [fa_le] at c_1
    refine ok_ix ⟨by omega, by omega⟩ ?_
    obtain ⟨t_2, ht_2, g_2⟩ : ∃ t : Int, (chS 2 x2_1).toInt = t ∧ -2147483648 ≤ t ∧ t ≤ 2147483647 := ⟨_, rfl, tI_rng _⟩
    refine ok_lt fun v_3 e_v_3 => ?_
    have b_v_3 : 0 ≤ v_3.toInt ∧ v_3.toInt ≤ 255 := by rw [e_v_3]; exact ch_rng _ _
    refine ok_cals (s_X6_writeSign (x1 := v_3) (σ := s_1) hB_s_1 (by omega)) (fun s_4 h_3 => ?_)
    obtain ⟨hB_s_4, hG_s_4⟩ := h_3
    (try dsimp only at hB_s_4 hG_s_4)
    have hF_s_4 : FR [93, 94] [] σ s_4 := FR.cal hF_s_1 hG_s_4 rfl rfl
    obtain ⟨t_4, ht_4, g_4⟩ : ∃ t : Int, (x2_1 + 1).toInt = t ∧ t = x2_1.toInt + (1 : Int32).toInt := ⟨_, rfl, by have h9 := fb_addI (x := x2_1) (y := (1 : Int32)) (by omega) (by omega); exact h9⟩
    refine ok_lt fun x2_5 e_x2_5 => ?_
    have q_x2_5 : x2_5.toInt = t_4 := by rw [e_x2_5]; exact ht_4
    exact ih_a_2 _ x2_5 s_4 (by rw [hn_a_2]; omega) ⟨rfl, (by omega), hB_s_4, hF_s_4⟩

set_option maxHeartbeats 4000000 in
theorem s_X6_writeBlock_s2_s1 {x2 : Int32} {σ : Sto} (hB : BX σ) (p_x2 : 0 ≤ x2.toInt ∧ x2.toInt ≤ 39) : OK (f_X6_writeBlock_s2_s1 x2 σ) (fun s => BX s ∧ FR [93, 94] [] σ s) := by
  unfold f_X6_writeBlock_s2_s1
  have hF : FR [93, 94] [] σ σ := FR.rf
  refine ok_cals (s_X6_write_s2  (σ := σ) hB) (fun s_1 h_1 => ?_)
  obtain ⟨hB_s_1, hG_s_1⟩ := h_1
  (try dsimp only at hB_s_1 hG_s_1)
  have hF_s_1 : FR [93, 94] [] σ s_1 := FR.cal hF hG_s_1 rfl rfl
  refine ok_cals (s_X6_writeNumber (x1 := x2) (σ := s_1) hB_s_1 (by omega)) (fun s_2 h_2 => ?_)
  obtain ⟨hB_s_2, hG_s_2⟩ := h_2
  (try dsimp only at hB_s_2 hG_s_2)
  have hF_s_2 : FR [93, 94] [] σ s_2 := FR.cal hF_s_1 hG_s_2 rfl rfl
  refine ok_cals (s_X6_write_s1  (σ := s_2) hB_s_2) (fun s_3 h_3 => ?_)
  obtain ⟨hB_s_3, hG_s_3⟩ := h_3
  (try dsimp only at hB_s_3 hG_s_3)
  have hF_s_3 : FR [93, 94] [] σ s_3 := FR.cal hF_s_2 hG_s_3 rfl rfl
  exact ok_ret ⟨hB_s_3, hF_s_3⟩

set_option maxHeartbeats 4000000 in
theorem s_X6_write_s3 {σ : Sto} (hB : BX σ) : OK (f_X6_write_s3 σ) (fun s => BX s ∧ FR [93, 94] [] σ s) := by
  unfold f_X6_write_s3
  have hF : FR [93, 94] [] σ σ := FR.rf
  have k_0 : (0 : Int32).toInt = 0 := by decide +kernel
  have k_1 : (1 : Int32).toInt = 1 := by decide +kernel
  have k_3 : (3 : Int32).toInt = 3 := by decide +kernel
  refine ok_itr2 (fun (n : Nat) (x2_1 : Int32) (s_1 : Sto) => n = (4 - x2_1.toInt).toNat ∧ (0 ≤ x2_1.toInt ∧ x2_1.toInt ≤ 3) ∧ (BX s_1) ∧ (FR [93, 94] [] σ s_1)) ?_ (n := _) ⟨rfl, (by omega), hB, hF⟩ (show _ < 10000000 by omega)
  intro a_2 n x2_1 s_1 hI ih_a_2
  obtain ⟨hn_a_2, b_x2_1, hB_s_1, hF_s_1⟩ := hI
  refine ok_ite (fun c_1 => ?_) (fun c_1 => ?_)
  · rw [fa_le] at c_1
    exact ok_ret ⟨hB_s_1, hF_s_1⟩
  · rw [fa_le] at c_1
    refine ok_ix ⟨by omega, by omega⟩ ?_
    obtain ⟨t_2, ht_2, g_2⟩ : ∃ t : Int, (chS 3 x2_1).toInt = t ∧ -2147483648 ≤ t ∧ t ≤ 2147483647 := ⟨_, rfl, tI_rng _⟩
    refine ok_lt fun v_3 e_v_3 => ?_
    have b_v_3 : 0 ≤ v_3.toInt ∧ v_3.toInt ≤ 255 := by rw [e_v_3]; exact ch_rng _ _
    refine ok_cals (s_X6_writeSign (x1 := v_3) (σ := s_1) hB_s_1 (by omega)) (fun s_4 h_3 => ?_)
    obtain ⟨hB_s_4, hG_s_4⟩ := h_3
    (try dsimp only at hB_s_4 hG_s_4)
    have hF_s_4 : FR [93, 94] [] σ s_4 := FR.cal hF_s_1 hG_s_4 rfl rfl
    obtain ⟨t_4, ht_4, g_4⟩ : ∃ t : Int, (x2_1 + 1).toInt = t ∧ t = x2_1.toInt + (1 : Int32).toInt := ⟨_, rfl, by have h9 := fb_addI (x := x2_1) (y := (1 : Int32)) (by omega) (by omega); exact h9⟩
    refine ok_lt fun x2_5 e_x2_5 => ?_
    have q_x2_5 : x2_5.toInt = t_4 := by rw [e_x2_5]; exact ht_4
    exact ih_a_2 _ x2_5 s_4 (by rw [hn_a_2]; omega) ⟨rfl, (by omega), hB_s_4, hF_s_4⟩

set_option maxHeartbeats 4000000 in
theorem s_X6_write_s4 {σ : Sto} (hB : BX σ) : OK (f_X6_write_s4 σ) (fun s => BX s ∧ FR [93, 94] [] σ s) := by
  unfold f_X6_write_s4
  have hF : FR [93, 94] [] σ σ := FR.rf
  have k_0 : (0 : Int32).toInt = 0 := by decide +kernel
  have k_1 : (1 : Int32).toInt = 1 := by decide +kernel
  have k_5 : (5 : Int32).toInt = 5 := by decide +kernel
  refine ok_itr2 (fun (n : Nat) (x2_1 : Int32) (s_1 : Sto) => n = (6 - x2_1.toInt).toNat ∧ (0 ≤ x2_1.toInt ∧ x2_1.toInt ≤ 5) ∧ (BX s_1) ∧ (FR [93, 94] [] σ s_1)) ?_ (n := _) ⟨rfl, (by omega), hB, hF⟩ (show _ < 10000000 by omega)
  intro a_2 n x2_1 s_1 hI ih_a_2
  obtain ⟨hn_a_2, b_x2_1, hB_s_1, hF_s_1⟩ := hI
  refine ok_ite (fun c_1 => ?_) (fun c_1 => ?_)
  · rw [fa_le] at c_1
    exact ok_ret ⟨hB_s_1, hF_s_1⟩
  · rw [fa_le] at c_1
    refine ok_ix ⟨by omega, by omega⟩ ?_
    obtain ⟨t_2, ht_2, g_2⟩ : ∃ t : Int, (chS 4 x2_1).toInt = t ∧ -2147483648 ≤ t ∧ t ≤ 2147483647 := ⟨_, rfl, tI_rng _⟩
    refine ok_lt fun v_3 e_v_3 => ?_
    have b_v_3 : 0 ≤ v_3.toInt ∧ v_3.toInt ≤ 255 := by rw [e_v_3]; exact ch_rng _ _
    refine ok_cals (s_X6_writeSign (x1 := v_3) (σ := s_1) hB_s_1 (by omega)) (fun s_4 h_3 => ?_)
    obtain ⟨hB_s_4, hG_s_4⟩ := h_3
    (try dsimp only at hB_s_4 hG_s_4)
    have hF_s_4 : FR [93, 94] [] σ s_4 := FR.cal hF_s_1 hG_s_4 rfl rfl
    obtain ⟨t_4, ht_4, g_4⟩ : ∃ t : Int, (x2_1 + 1).toInt = t ∧ t = x2_1.toInt + (1 : Int32).toInt := ⟨_, rfl, by have h9 := fb_addI (x := x2_1) (y := (1 : Int32)) (by omega) (by omega); exact h9⟩
    refine ok_lt fun x2_5 e_x2_5 => ?_
    have q_x2_5 : x2_5.toInt = t_4 := by rw [e_x2_5]; exact ht_4
    exact ih_a_2 _ x2_5 s_4 (by rw [hn_a_2]; omega) ⟨rfl, (by omega), hB_s_4, hF_s_4⟩

set_option maxHeartbeats 4000000 in
theorem s_X6_write_s5 {σ : Sto} (hB : BX σ) : OK (f_X6_write_s5 σ) (fun s => BX s ∧ FR [93, 94] [] σ s) := by
  unfold f_X6_write_s5
  have hF : FR [93, 94] [] σ σ := FR.rf
  have k_0 : (0 : Int32).toInt = 0 := by decide +kernel
  have k_1 : (1 : Int32).toInt = 1 := by decide +kernel
  refine ok_itr2 (fun (n : Nat) (x2_1 : Int32) (s_1 : Sto) => n = (2 - x2_1.toInt).toNat ∧ (0 ≤ x2_1.toInt ∧ x2_1.toInt ≤ 1) ∧ (BX s_1) ∧ (FR [93, 94] [] σ s_1)) ?_ (n := _) ⟨rfl, (by omega), hB, hF⟩ (show _ < 10000000 by omega)
  intro a_2 n x2_1 s_1 hI ih_a_2
  obtain ⟨hn_a_2, b_x2_1, hB_s_1, hF_s_1⟩ := hI
  refine ok_ite (fun c_1 => ?_) (fun c_1 => ?_)
  · rw [fa_le] at c_1
    exact ok_ret ⟨hB_s_1, hF_s_1⟩
  · rw [fa_le] at c_1
    refine ok_ix ⟨by omega, by omega⟩ ?_
    obtain ⟨t_2, ht_2, g_2⟩ : ∃ t : Int, (chS 5 x2_1).toInt = t ∧ -2147483648 ≤ t ∧ t ≤ 2147483647 := ⟨_, rfl, tI_rng _⟩
    refine ok_lt fun v_3 e_v_3 => ?_
    have b_v_3 : 0 ≤ v_3.toInt ∧ v_3.toInt ≤ 255 := by rw [e_v_3]; exact ch_rng _ _
    refine ok_cals (s_X6_writeSign (x1 := v_3) (σ := s_1) hB_s_1 (by omega)) (fun s_4 h_3 => ?_)
    obtain ⟨hB_s_4, hG_s_4⟩ := h_3
    (try dsimp only at hB_s_4 hG_s_4)
    have hF_s_4 : FR [93, 94] [] σ s_4 := FR.cal hF_s_1 hG_s_4 rfl rfl
    obtain ⟨t_4, ht_4, g_4⟩ : ∃ t : Int, (x2_1 + 1).toInt = t ∧ t = x2_1.toInt + (1 : Int32).toInt := ⟨_, rfl, by have h9 := fb_addI (x := x2_1) (y := (1 : Int32)) (by omega) (by omega); exact h9⟩
    refine ok_lt fun x2_5 e_x2_5 => ?_
    have q_x2_5 : x2_5.toInt = t_4 := by rw [e_x2_5]; exact ht_4
    exact ih_a_2 _ x2_5 s_4 (by rw [hn_a_2]; omega) ⟨rfl, (by omega), hB_s_4, hF_s_4⟩

set_option maxHeartbeats 4000000 in
theorem s_X6_write_s6 {σ : Sto} (hB : BX σ) : OK (f_X6_write_s6 σ) (fun s => BX s ∧ FR [93, 94] [] σ s) := by
  unfold f_X6_write_s6
  have hF : FR [93, 94] [] σ σ := FR.rf
  have k_0 : (0 : Int32).toInt = 0 := by decide +kernel
  have k_1 : (1 : Int32).toInt = 1 := by decide +kernel
  have k_7 : (7 : Int32).toInt = 7 := by decide +kernel
  refine ok_itr2 (fun (n : Nat) (x2_1 : Int32) (s_1 : Sto) => n = (8 - x2_1.toInt).toNat ∧ (0 ≤ x2_1.toInt ∧ x2_1.toInt ≤ 7) ∧ (BX s_1) ∧ (FR [93, 94] [] σ s_1)) ?_ (n := _) ⟨rfl, (by omega), hB, hF⟩ (show _ < 10000000 by omega)
  intro a_2 n x2_1 s_1 hI ih_a_2
  obtain ⟨hn_a_2, b_x2_1, hB_s_1, hF_s_1⟩ := hI
  refine ok_ite (fun c_1 => ?_) (fun c_1 => ?_)
  · rw [fa_le] at c_1
    exact ok_ret ⟨hB_s_1, hF_s_1⟩
  · rw [fa_le] at c_1
    refine ok_ix ⟨by omega, by omega⟩ ?_
    obtain ⟨t_2, ht_2, g_2⟩ : ∃ t : Int, (chS 6 x2_1).toInt = t ∧ -2147483648 ≤ t ∧ t ≤ 2147483647 := ⟨_, rfl, tI_rng _⟩
    refine ok_lt fun v_3 e_v_3 => ?_
    have b_v_3 : 0 ≤ v_3.toInt ∧ v_3.toInt ≤ 255 := by rw [e_v_3]; exact ch_rng _ _
    refine ok_cals (s_X6_writeSign (x1 := v_3) (σ := s_1) hB_s_1 (by omega)) (fun s_4 h_3 => ?_)
    obtain ⟨hB_s_4, hG_s_4⟩ := h_3
    (try dsimp only at hB_s_4 hG_s_4)
    have hF_s_4 : FR [93, 94] [] σ s_4 := FR.cal hF_s_1 hG_s_4 rfl rfl
    obtain ⟨t_4, ht_4, g_4⟩ : ∃ t : Int, (x2_1 + 1).toInt = t ∧ t = x2_1.toInt + (1 : Int32).toInt := ⟨_, rfl, by have h9 := fb_addI (x := x2_1) (y := (1 : Int32)) (by omega) (by omega); exact h9⟩
    refine ok_lt fun x2_5 e_x2_5 => ?_
    have q_x2_5 : x2_5.toInt = t_4 := by rw [e_x2_5]; exact ht_4
    exact ih_a_2 _ x2_5 s_4 (by rw [hn_a_2]; omega) ⟨rfl, (by omega), hB_s_4, hF_s_4⟩

set_option maxHeartbeats 4000000 in
theorem s_X6_writeBlock_s6_s7 {x2 : Int32} {σ : Sto} (hB : BX σ) (p_x2 : 0 ≤ x2.toInt ∧ x2.toInt ≤ 39) : OK (f_X6_writeBlock_s6_s7 x2 σ) (fun s => BX s ∧ FR [93, 94] [] σ s) := by
  unfold f_X6_writeBlock_s6_s7
  have hF : FR [93, 94] [] σ σ := FR.rf
  refine ok_cals (s_X6_write_s6  (σ := σ) hB) (fun s_1 h_1 => ?_)
  obtain ⟨hB_s_1, hG_s_1⟩ := h_1
  (try dsimp only at hB_s_1 hG_s_1)
  have hF_s_1 : FR [93, 94] [] σ s_1 := FR.cal hF hG_s_1 rfl rfl
  refine ok_cals (s_X6_writeNumber (x1 := x2) (σ := s_1) hB_s_1 (by omega)) (fun s_2 h_2 => ?_)
  obtain ⟨hB_s_2, hG_s_2⟩ := h_2
  (try dsimp only at hB_s_2 hG_s_2)
  have hF_s_2 : FR [93, 94] [] σ s_2 := FR.cal hF_s_1 hG_s_2 rfl rfl
  refine ok_cals (s_X6_write_s7  (σ := s_2) hB_s_2) (fun s_3 h_3 => ?_)
  obtain ⟨hB_s_3, hG_s_3⟩ := h_3
  (try dsimp only at hB_s_3 hG_s_3)
  have hF_s_3 : FR [93, 94] [] σ s_3 := FR.cal hF_s_2 hG_s_3 rfl rfl
  exact ok_ret ⟨hB_s_3, hF_s_3⟩

set_option maxHeartbeats 4000000 in
theorem s_X6_write_s8 {σ : Sto} (hB : BX σ) : OK (f_X6_write_s8 σ) (fun s => BX s ∧ FR [93, 94] [] σ s) := by
  unfold f_X6_write_s8
  have hF : FR [93, 94] [] σ σ := FR.rf
  have k_0 : (0 : Int32).toInt = 0 := by decide +kernel
  have k_1 : (1 : Int32).toInt = 1 := by decide +kernel
  have k_10 : (10 : Int32).toInt = 10 := by decide +kernel
  refine ok_itr2 (fun (n : Nat) (x2_1 : Int32) (s_1 : Sto) => n = (13 - x2_1.toInt).toNat ∧ (0 ≤ x2_1.toInt ∧ x2_1.toInt ≤ 12) ∧ (BX s_1) ∧ (FR [93, 94] [] σ s_1)) ?_ (n := _) ⟨rfl, (by omega), hB, hF⟩ (show _ < 10000000 by omega)
  intro a_2 n x2_1 s_1 hI ih_a_2
  obtain ⟨hn_a_2, b_x2_1, hB_s_1, hF_s_1⟩ := hI
  refine ok_ite (fun c_1 => ?_) (fun c_1 => ?_)
  · rw [fa_le] at c_1
    exact ok_ret ⟨hB_s_1, hF_s_1⟩
  · rw [fa_le] at c_1
    refine ok_ix ⟨by omega, by omega⟩ ?_
    obtain ⟨t_2, ht_2, g_2⟩ : ∃ t : Int, (chS 8 x2_1).toInt = t ∧ -2147483648 ≤ t ∧ t ≤ 2147483647 := ⟨_, rfl, tI_rng _⟩
    refine ok_lt fun v_3 e_v_3 => ?_
    have b_v_3 : 0 ≤ v_3.toInt ∧ v_3.toInt ≤ 255 := by rw [e_v_3]; exact ch_rng _ _
    refine ok_cals (s_X6_writeSign (x1 := v_3) (σ := s_1) hB_s_1 (by omega)) (fun s_4 h_3 => ?_)
    obtain ⟨hB_s_4, hG_s_4⟩ := h_3
    (try dsimp only at hB_s_4 hG_s_4)
    have hF_s_4 : FR [93, 94] [] σ s_4 := FR.cal hF_s_1 hG_s_4 rfl rfl
    obtain ⟨t_4, ht_4, g_4⟩ : ∃ t : Int, (x2_1 + 1).toInt = t ∧ t = x2_1.toInt + (1 : Int32).toInt := ⟨_, rfl, by have h9 := fb_addI (x := x2_1) (y := (1 : Int32)) (by omega) (by omega); exact h9⟩
    refine ok_lt fun x2_5 e_x2_5 => ?_
    have q_x2_5 : x2_5.toInt = t_4 := by rw [e_x2_5]; exact ht_4
    exact ih_a_2 _ x2_5 s_4 (by rw [hn_a_2]; omega) ⟨rfl, (by omega), hB_s_4, hF_s_4⟩

set_option maxHeartbeats 4000000 in
theorem s_X6_writeBlock_s8_s7 {x2 : Int32} {σ : Sto} (hB : BX σ) (p_x2 : 0 ≤ x2.toInt ∧ x2.toInt ≤ 39) : OK (f_X6_writeBlock_s8_s7 x2 σ) (fun s => BX s ∧ FR [93, 94] [] σ s) := by
  unfold f_X6_writeBlock_s8_s7
  have hF : FR [93, 94] [] σ σ := FR.rf
  refine ok_cals (s_X6_write_s8  (σ := σ) hB) (fun s_1 h_1 => ?_)
  obtain ⟨hB_s_1, hG_s_1⟩ := h_1
  (try dsimp only at hB_s_1 hG_s_1)
  have hF_s_1 : FR [93, 94] [] σ s_1 := FR.cal hF hG_s_1 rfl rfl
  refine ok_cals (s_X6_writeNumber (x1 := x2) (σ := s_1) hB_s_1 (by omega)) (fun s_2 h_2 => ?_)
  obtain ⟨hB_s_2, hG_s_2⟩ := h_2
  (try dsimp only at hB_s_2 hG_s_2)
  have hF_s_2 : FR [93, 94] [] σ s_2 := FR.cal hF_s_1 hG_s_2 rfl rfl
  refine ok_cals (s_X6_write_s7  (σ := s_2) hB_s_2) (fun s_3 h_3 => ?_)
  obtain ⟨hB_s_3, hG_s_3⟩ := h_3
  (try dsimp only at hB_s_3 hG_s_3)
  have hF_s_3 : FR [93, 94] [] σ s_3 := FR.cal hF_s_2 hG_s_3 rfl rfl
  exact ok_ret ⟨hB_s_3, hF_s_3⟩

set_option maxHeartbeats 4000000 in
theorem s_X6_write_s9 {σ : Sto} (hB : BX σ) : OK (f_X6_write_s9 σ) (fun s => BX s ∧ FR [93, 94] [] σ s) := by
  unfold f_X6_write_s9
  have hF : FR [93, 94] [] σ σ := FR.rf
  have k_0 : (0 : Int32).toInt = 0 := by decide +kernel
  have k_1 : (1 : Int32).toInt = 1 := by decide +kernel
  have k_6 : (6 : Int32).toInt = 6 := by decide +kernel
  refine ok_itr2 (fun (n : Nat) (x2_1 : Int32) (s_1 : Sto) => n = (7 - x2_1.toInt).toNat ∧ (0 ≤ x2_1.toInt ∧ x2_1.toInt ≤ 6) ∧ (BX s_1) ∧ (FR [93, 94] [] σ s_1)) ?_ (n := _) ⟨rfl, (by omega), hB, hF⟩ (show _ < 10000000 by omega)
  intro a_2 n x2_1 s_1 hI ih_a_2
  obtain ⟨hn_a_2, b_x2_1, hB_s_1, hF_s_1⟩ := hI
  refine ok_ite (fun c_1 => ?_) (fun c_1 => ?_)
  · rw [fa_le] at c_1
    exact ok_ret ⟨hB_s_1, hF_s_1⟩
  · rw [fa_le] at c_1
    refine ok_ix ⟨by omega, by omega⟩ ?_
    obtain ⟨t_2, ht_2, g_2⟩ : ∃ t : Int, (chS 9 x2_1).toInt = t ∧ -2147483648 ≤ t ∧ t ≤ 2147483647 := ⟨_, rfl, tI_rng _⟩
    refine ok_lt fun v_3 e_v_3 => ?_
    have b_v_3 : 0 ≤ v_3.toInt ∧ v_3.toInt ≤ 255 := by rw [e_v_3]; exact ch_rng _ _
    refine ok_cals (s_X6_writeSign (x1 := v_3) (σ := s_1) hB_s_1 (by omega)) (fun s_4 h_3 => ?_)
    obtain ⟨hB_s_4, hG_s_4⟩ := h_3
    (try dsimp only at hB_s_4 hG_s_4)
    have hF_s_4 : FR [93, 94] [] σ s_4 := FR.cal hF_s_1 hG_s_4 rfl rfl
    obtain ⟨t_4, ht_4, g_4⟩ : ∃ t : Int, (x2_1 + 1).toInt = t ∧ t = x2_1.toInt + (1 : Int32).toInt := ⟨_, rfl, by have h9 := fb_addI (x := x2_1) (y := (1 : Int32)) (by omega) (by omega); exact h9⟩
    refine ok_lt fun x2_5 e_x2_5 => ?_
    have q_x2_5 : x2_5.toInt = t_4 := by rw [e_x2_5]; exact ht_4
    exact ih_a_2 _ x2_5 s_4 (by rw [hn_a_2]; omega) ⟨rfl, (by omega), hB_s_4, hF_s_4⟩

set_option maxHeartbeats 4000000 in
theorem s_X6_writeBlock_s9_s7 {x2 : Int32} {σ : Sto} (hB : BX σ) (p_x2 : 0 ≤ x2.toInt ∧ x2.toInt ≤ 39) : OK (f_X6_writeBlock_s9_s7 x2 σ) (fun s => BX s ∧ FR [93, 94] [] σ s) := by
  unfold f_X6_writeBlock_s9_s7
  have hF : FR [93, 94] [] σ σ := FR.rf
  refine ok_cals (s_X6_write_s9  (σ := σ) hB) (fun s_1 h_1 => ?_)
  obtain ⟨hB_s_1, hG_s_1⟩ := h_1
  (try dsimp only at hB_s_1 hG_s_1)
  have hF_s_1 : FR [93, 94] [] σ s_1 := FR.cal hF hG_s_1 rfl rfl
  refine ok_cals (s_X6_writeNumber (x1 := x2) (σ := s_1) hB_s_1 (by omega)) (fun s_2 h_2 => ?_)
  obtain ⟨hB_s_2, hG_s_2⟩ := h_2
  (try dsimp only at hB_s_2 hG_s_2)
  have hF_s_2 : FR [93, 94] [] σ s_2 := FR.cal hF_s_1 hG_s_2 rfl rfl
  refine ok_cals (s_X6_write_s7  (σ := s_2) hB_s_2) (fun s_3 h_3 => ?_)
  obtain ⟨hB_s_3, hG_s_3⟩ := h_3
  (try dsimp only at hB_s_3 hG_s_3)
  have hF_s_3 : FR [93, 94] [] σ s_3 := FR.cal hF_s_2 hG_s_3 rfl rfl
  exact ok_ret ⟨hB_s_3, hF_s_3⟩

set_option maxHeartbeats 4000000 in
theorem s_X6_write_s10 {σ : Sto} (hB : BX σ) : OK (f_X6_write_s10 σ) (fun s => BX s ∧ FR [93, 94] [] σ s) := by
  unfold f_X6_write_s10
  have hF : FR [93, 94] [] σ σ := FR.rf
  have k_0 : (0 : Int32).toInt = 0 := by decide +kernel
  have k_1 : (1 : Int32).toInt = 1 := by decide +kernel
  have k_4 : (4 : Int32).toInt = 4 := by decide +kernel
  refine ok_itr2 (fun (n : Nat) (x2_1 : Int32) (s_1 : Sto) => n = (6 - x2_1.toInt).toNat ∧ (0 ≤ x2_1.toInt ∧ x2_1.toInt ≤ 5) ∧ (BX s_1) ∧ (FR [93, 94] [] σ s_1)) ?_ (n := _) ⟨rfl, (by omega), hB, hF⟩ (show _ < 10000000 by omega)
  intro a_2 n x2_1 s_1 hI ih_a_2
  obtain ⟨hn_a_2, b_x2_1, hB_s_1, hF_s_1⟩ := hI
  refine ok_ite (fun c_1 => ?_) (fun c_1 => ?_)
  · rw [fa_le] at c_1
    exact ok_ret ⟨hB_s_1, hF_s_1⟩
  · rw [fa_le] at c_1
    refine ok_ix ⟨by omega, by omega⟩ ?_
    obtain ⟨t_2, ht_2, g_2⟩ : ∃ t : Int, (chS 10 x2_1).toInt = t ∧ -2147483648 ≤ t ∧ t ≤ 2147483647 := ⟨_, rfl, tI_rng _⟩
    refine ok_lt fun v_3 e_v_3 => ?_
    have b_v_3 : 0 ≤ v_3.toInt ∧ v_3.toInt ≤ 255 := by rw [e_v_3]; exact ch_rng _ _
    refine ok_cals (s_X6_writeSign (x1 := v_3) (σ := s_1) hB_s_1 (by omega)) (fun s_4 h_3 => ?_)
    obtain ⟨hB_s_4, hG_s_4⟩ := h_3
    (try dsimp only at hB_s_4 hG_s_4)
    have hF_s_4 : FR [93, 94] [] σ s_4 := FR.cal hF_s_1 hG_s_4 rfl rfl
    obtain ⟨t_4, ht_4, g_4⟩ : ∃ t : Int, (x2_1 + 1).toInt = t ∧ t = x2_1.toInt + (1 : Int32).toInt := ⟨_, rfl, by have h9 := fb_addI (x := x2_1) (y := (1 : Int32)) (by omega) (by omega); exact h9⟩
    refine ok_lt fun x2_5 e_x2_5 => ?_
    have q_x2_5 : x2_5.toInt = t_4 := by rw [e_x2_5]; exact ht_4
    exact ih_a_2 _ x2_5 s_4 (by rw [hn_a_2]; omega) ⟨rfl, (by omega), hB_s_4, hF_s_4⟩

set_option maxHeartbeats 4000000 in
theorem s_X6_write_s11 {σ : Sto} (hB : BX σ) : OK (f_X6_write_s11 σ) (fun s => BX s ∧ FR [93, 94] [] σ s) := by
  unfold f_X6_write_s11
  have hF : FR [93, 94] [] σ σ := FR.rf
  have k_0 : (0 : Int32).toInt = 0 := by decide +kernel
  have k_1 : (1 : Int32).toInt = 1 := by decide +kernel
  have k_8 : (8 : Int32).toInt = 8 := by decide +kernel
  refine ok_itr2 (fun (n : Nat) (x2_1 : Int32) (s_1 : Sto) => n = (9 - x2_1.toInt).toNat ∧ (0 ≤ x2_1.toInt ∧ x2_1.toInt ≤ 8) ∧ (BX s_1) ∧ (FR [93, 94] [] σ s_1)) ?_ (n := _) ⟨rfl, (by omega), hB, hF⟩ (show _ < 10000000 by omega)
  intro a_2 n x2_1 s_1 hI ih_a_2
  obtain ⟨hn_a_2, b_x2_1, hB_s_1, hF_s_1⟩ := hI
  refine ok_ite (fun c_1 => ?_) (fun c_1 => ?_)
  · rw [fa_le] at c_1
    exact ok_ret ⟨hB_s_1, hF_s_1⟩
  · rw [fa_le] at c_1
    refine ok_ix ⟨by omega, by omega⟩ ?_
    obtain ⟨t_2, ht_2, g_2⟩ : ∃ t : Int, (chS 11 x2_1).toInt = t ∧ -2147483648 ≤ t ∧ t ≤ 2147483647 := ⟨_, rfl, tI_rng _⟩
    refine ok_lt fun v_3 e_v_3 => ?_
    have b_v_3 : 0 ≤ v_3.toInt ∧ v_3.toInt ≤ 255 := by rw [e_v_3]; exact ch_rng _ _
    refine ok_cals (s_X6_writeSign (x1 := v_3) (σ := s_1) hB_s_1 (by omega)) (fun s_4 h_3 => ?_)
    obtain ⟨hB_s_4, hG_s_4⟩ := h_3
    (try dsimp only at hB_s_4 hG_s_4)
    have hF_s_4 : FR [93, 94] [] σ s_4 := FR.cal hF_s_1 hG_s_4 rfl rfl
    obtain ⟨t_4, ht_4, g_4⟩ : ∃ t : Int, (x2_1 + 1).toInt = t ∧ t = x2_1.toInt + (1 : Int32).toInt := ⟨_, rfl, by have h9 := fb_addI (x := x2_1) (y := (1 : Int32)) (by omega) (by omega); exact h9⟩
    refine ok_lt fun x2_5 e_x2_5 => ?_
    have q_x2_5 : x2_5.toInt = t_4 := by rw [e_x2_5]; exact ht_4
    exact ih_a_2 _ x2_5 s_4 (by rw [hn_a_2]; omega) ⟨rfl, (by omega), hB_s_4, hF_s_4⟩

set_option maxHeartbeats 4000000 in
theorem s_X6_writeBlock_s11_s7 {x2 : Int32} {σ : Sto} (hB : BX σ) (p_x2 : 0 ≤ x2.toInt ∧ x2.toInt ≤ 39) : OK (f_X6_writeBlock_s11_s7 x2 σ) (fun s => BX s ∧ FR [93, 94] [] σ s) := by
  unfold f_X6_writeBlock_s11_s7
  have hF : FR [93, 94] [] σ σ := FR.rf
  refine ok_cals (s_X6_write_s11  (σ := σ) hB) (fun s_1 h_1 => ?_)
  obtain ⟨hB_s_1, hG_s_1⟩ := h_1
  (try dsimp only at hB_s_1 hG_s_1)
  have hF_s_1 : FR [93, 94] [] σ s_1 := FR.cal hF hG_s_1 rfl rfl
  refine ok_cals (s_X6_writeNumber (x1 := x2) (σ := s_1) hB_s_1 (by omega)) (fun s_2 h_2 => ?_)
  obtain ⟨hB_s_2, hG_s_2⟩ := h_2
  (try dsimp only at hB_s_2 hG_s_2)
  have hF_s_2 : FR [93, 94] [] σ s_2 := FR.cal hF_s_1 hG_s_2 rfl rfl
  refine ok_cals (s_X6_write_s7  (σ := s_2) hB_s_2) (fun s_3 h_3 => ?_)
  obtain ⟨hB_s_3, hG_s_3⟩ := h_3
  (try dsimp only at hB_s_3 hG_s_3)
  have hF_s_3 : FR [93, 94] [] σ s_3 := FR.cal hF_s_2 hG_s_3 rfl rfl
  exact ok_ret ⟨hB_s_3, hF_s_3⟩

set_option maxHeartbeats 4000000 in
theorem s_X6_write_s12 {σ : Sto} (hB : BX σ) : OK (f_X6_write_s12 σ) (fun s => BX s ∧ FR [93, 94] [] σ s) := by
  unfold f_X6_write_s12
  have hF : FR [93, 94] [] σ σ := FR.rf
  have k_0 : (0 : Int32).toInt = 0 := by decide +kernel
  have k_1 : (1 : Int32).toInt = 1 := by decide +kernel
  refine ok_itr2 (fun (n : Nat) (x2_1 : Int32) (s_1 : Sto) => n = (2 - x2_1.toInt).toNat ∧ (0 ≤ x2_1.toInt ∧ x2_1.toInt ≤ 1) ∧ (BX s_1) ∧ (FR [93, 94] [] σ s_1)) ?_ (n := _) ⟨rfl, (by omega), hB, hF⟩ (show _ < 10000000 by omega)
  intro a_2 n x2_1 s_1 hI ih_a_2
  obtain ⟨hn_a_2, b_x2_1, hB_s_1, hF_s_1⟩ := hI
  refine ok_ite (fun c_1 => ?_) (fun c_1 => ?_)
  · rw [fa_le] at c_1
    exact ok_ret ⟨hB_s_1, hF_s_1⟩
  · rw [fa_le] at c_1
    refine ok_ix ⟨by omega, by omega⟩ ?_
    obtain ⟨t_2, ht_2, g_2⟩ : ∃ t : Int, (chS 12 x2_1).toInt = t ∧ -2147483648 ≤ t ∧ t ≤ 2147483647 := ⟨_, rfl, tI_rng _⟩
    refine ok_lt fun v_3 e_v_3 => ?_
    have b_v_3 : 0 ≤ v_3.toInt ∧ v_3.toInt ≤ 255 := by rw [e_v_3]; exact ch_rng _ _
    refine ok_cals (s_X6_writeSign (x1 := v_3) (σ := s_1) hB_s_1 (by omega)) (fun s_4 h_3 => ?_)
    obtain ⟨hB_s_4, hG_s_4⟩ := h_3
    (try dsimp only at hB_s_4 hG_s_4)
    have hF_s_4 : FR [93, 94] [] σ s_4 := FR.cal hF_s_1 hG_s_4 rfl rfl
    obtain ⟨t_4, ht_4, g_4⟩ : ∃ t : Int, (x2_1 + 1).toInt = t ∧ t = x2_1.toInt + (1 : Int32).toInt := ⟨_, rfl, by have h9 := fb_addI (x := x2_1) (y := (1 : Int32)) (by omega) (by omega); exact h9⟩
    refine ok_lt fun x2_5 e_x2_5 => ?_
    have q_x2_5 : x2_5.toInt = t_4 := by rw [e_x2_5]; exact ht_4
    exact ih_a_2 _ x2_5 s_4 (by rw [hn_a_2]; omega) ⟨rfl, (by omega), hB_s_4, hF_s_4⟩

set_option maxHeartbeats 4000000 in
theorem s_X6_write_s13 {σ : Sto} (hB : BX σ) : OK (f_X6_write_s13 σ) (fun s => BX s ∧ FR [93, 94] [] σ s) := by
  unfold f_X6_write_s13
  have hF : FR [93, 94] [] σ σ := FR.rf
  have k_0 : (0 : Int32).toInt = 0 := by decide +kernel
  have k_1 : (1 : Int32).toInt = 1 := by decide +kernel
  refine ok_itr2 (fun (n : Nat) (x2_1 : Int32) (s_1 : Sto) => n = (2 - x2_1.toInt).toNat ∧ (0 ≤ x2_1.toInt ∧ x2_1.toInt ≤ 1) ∧ (BX s_1) ∧ (FR [93, 94] [] σ s_1)) ?_ (n := _) ⟨rfl, (by omega), hB, hF⟩ (show _ < 10000000 by omega)
  intro a_2 n x2_1 s_1 hI ih_a_2
  obtain ⟨hn_a_2, b_x2_1, hB_s_1, hF_s_1⟩ := hI
  refine ok_ite (fun c_1 => ?_) (fun c_1 => ?_)
  · rw [fa_le] at c_1
    exact ok_ret ⟨hB_s_1, hF_s_1⟩
  · rw [fa_le] at c_1
    refine ok_ix ⟨by omega, by omega⟩ ?_
    obtain ⟨t_2, ht_2, g_2⟩ : ∃ t : Int, (chS 13 x2_1).toInt = t ∧ -2147483648 ≤ t ∧ t ≤ 2147483647 := ⟨_, rfl, tI_rng _⟩
    refine ok_lt fun v_3 e_v_3 => ?_
    have b_v_3 : 0 ≤ v_3.toInt ∧ v_3.toInt ≤ 255 := by rw [e_v_3]; exact ch_rng _ _
    refine ok_cals (s_X6_writeSign (x1 := v_3) (σ := s_1) hB_s_1 (by omega)) (fun s_4 h_3 => ?_)
    obtain ⟨hB_s_4, hG_s_4⟩ := h_3
    (try dsimp only at hB_s_4 hG_s_4)
    have hF_s_4 : FR [93, 94] [] σ s_4 := FR.cal hF_s_1 hG_s_4 rfl rfl
    obtain ⟨t_4, ht_4, g_4⟩ : ∃ t : Int, (x2_1 + 1).toInt = t ∧ t = x2_1.toInt + (1 : Int32).toInt := ⟨_, rfl, by have h9 := fb_addI (x := x2_1) (y := (1 : Int32)) (by omega) (by omega); exact h9⟩
    refine ok_lt fun x2_5 e_x2_5 => ?_
    have q_x2_5 : x2_5.toInt = t_4 := by rw [e_x2_5]; exact ht_4
    exact ih_a_2 _ x2_5 s_4 (by rw [hn_a_2]; omega) ⟨rfl, (by omega), hB_s_4, hF_s_4⟩

set_option maxHeartbeats 4000000 in
theorem s_X6_writeBlock_s12_s13 {x2 : Int32} {σ : Sto} (hB : BX σ) (p_x2 : 0 ≤ x2.toInt ∧ x2.toInt ≤ 39) : OK (f_X6_writeBlock_s12_s13 x2 σ) (fun s => BX s ∧ FR [93, 94] [] σ s) := by
  unfold f_X6_writeBlock_s12_s13
  have hF : FR [93, 94] [] σ σ := FR.rf
  refine ok_cals (s_X6_write_s12  (σ := σ) hB) (fun s_1 h_1 => ?_)
  obtain ⟨hB_s_1, hG_s_1⟩ := h_1
  (try dsimp only at hB_s_1 hG_s_1)
  have hF_s_1 : FR [93, 94] [] σ s_1 := FR.cal hF hG_s_1 rfl rfl
  refine ok_cals (s_X6_writeNumber (x1 := x2) (σ := s_1) hB_s_1 (by omega)) (fun s_2 h_2 => ?_)
  obtain ⟨hB_s_2, hG_s_2⟩ := h_2
  (try dsimp only at hB_s_2 hG_s_2)
  have hF_s_2 : FR [93, 94] [] σ s_2 := FR.cal hF_s_1 hG_s_2 rfl rfl
  refine ok_cals (s_X6_write_s13  (σ := s_2) hB_s_2) (fun s_3 h_3 => ?_)
  obtain ⟨hB_s_3, hG_s_3⟩ := h_3
  (try dsimp only at hB_s_3 hG_s_3)
  have hF_s_3 : FR [93, 94] [] σ s_3 := FR.cal hF_s_2 hG_s_3 rfl rfl
  exact ok_ret ⟨hB_s_3, hF_s_3⟩

theorem s_X6_widthOfLine {x1 : Int32} {σ : Sto} (hB : BX σ) : OK (f_X6_widthOfLine x1 σ) (fun r => True ∧ BX r.2 ∧ FR [93, 94] [] σ r.2) := sorry
set_option maxHeartbeats 4000000 in
theorem s_X11_spell {x1 : Int32} {x2 : Int32} {σ : Sto} (hB : BX σ) : OK (f_X11_spell x1 x2 σ) (fun r => True ∧ BX r.2 ∧ FR [93, 94] [] σ r.2) := by
  unfold f_X11_spell
  have hF : FR [93, 94] [] σ σ := FR.rf
  have k_m1 : ((-1) : Int32).toInt = -1 := by decide +kernel
  have k_0 : (0 : Int32).toInt = 0 := by decide +kernel
  have g9 := gX_68 hB 0
  refine ok_calp (s_X11_isLine (x1 := x1) (σ := σ) hB) (fun v_1 h_1 => ?_)
  obtain ⟨b_v_1, x_v_1⟩ := h_1
  (try dsimp only at b_v_1 x_v_1)
  refine ok_ite (fun c_2 => ?_) (fun c_2 => ?_)
  · rw [fa_eq] at c_2
    exact ok_ret ⟨trivial, hB, hF⟩
  · rw [fa_eq] at c_2
    refine ok_calv (s_X6_widthOfLine (x1 := x1) (σ := σ) hB) (fun v_3 s_3 h_3 => ?_)
    obtain ⟨b_v_3, hB_s_3, hG_s_3⟩ := h_3
    (try dsimp only at b_v_3 hB_s_3 hG_s_3)
    have hF_s_3 : FR [93, 94] [] σ s_3 := FR.cal hF hG_s_3 rfl rfl
    refine ok_ite (fun c_4 => ?_) (fun c_4 => ?_)
    · rw [fa_eq] at c_4
      exact ok_ret ⟨trivial, hB_s_3, hF_s_3⟩
    · rw [fa_eq] at c_4
      refine ok_calp (s_X6_signAt (x1 := x2) (σ := s_3) hB_s_3) (fun v_5 h_5 => ?_)
      have b_v_5 := h_5
      (try dsimp only at b_v_5)
      exact ok_ret ⟨trivial, hB_s_3, hF_s_3⟩

set_option maxHeartbeats 4000000 in
theorem s_X11_oneIf {x1 : Int32} (p_x1 : 0 ≤ x1.toInt ∧ x1.toInt ≤ 1) : OK (f_X11_oneIf x1) (fun v => (0 ≤ v.toInt ∧ v.toInt ≤ 1)) := by
  unfold f_X11_oneIf
  have k_0 : (0 : Int32).toInt = 0 := by decide +kernel
  have k_1 : (1 : Int32).toInt = 1 := by decide +kernel
  refine ok_ite (fun c_1 => ?_) (fun c_1 => ?_)
  · rw [fa_eq] at c_1
    exact ok_ret (by (try dsimp only); omega)
  · rw [fa_eq] at c_1
    exact ok_ret (by (try dsimp only); omega)

set_option maxHeartbeats 4000000 in
theorem s_X11_type {x1 : Int32} {x2 : Int32} {σ : Sto} (hB : BX σ) : OK (f_X11_type x1 x2 σ) (fun v => ((-1) ≤ v.toInt ∧ v.toInt ≤ 1)) := by
  unfold f_X11_type
  have hF : FR [] [] σ σ := FR.rf
  have k_m1 : ((-1) : Int32).toInt = -1 := by decide +kernel
  have k_0 : (0 : Int32).toInt = 0 := by decide +kernel
  have k_1 : (1 : Int32).toInt = 1 := by decide +kernel
  have k_2 : (2 : Int32).toInt = 2 := by decide +kernel
  have k_6 : (6 : Int32).toInt = 6 := by decide +kernel
  have g9 := gX_32 hB 0
  have g8 := gX_58 hB 0
  have g_2 := gX_0 hB 0
  refine ok_ite (fun c_1 => ?_) (fun c_1 => ?_)
  · rw [fa_eq] at c_1
    exact ok_ret (by (try dsimp only); omega)
  · rw [fa_eq] at c_1
    refine ok_ite (fun c_3 => ?_) (fun c_3 => ?_)
    · rw [fa_le] at c_3
      refine ok_ite (fun c_4 => ?_) (fun c_4 => ?_)
      · have c_4 := c_4
        refine ok_ite (fun c_5 => ?_) (fun c_5 => ?_)
        · rw [fa_le] at c_5
          exact ok_ret (by (try dsimp only); omega)
        · rw [fa_le] at c_5
          refine ok_ix ⟨by omega, by omega⟩ ?_
          have g_6 := gX_63 hB (x2.toNatClampNeg)
          refine ok_lt fun v_5 e_v_5 => ?_
          have b_v_5 : 0 ≤ v_5.toInt ∧ v_5.toInt ≤ 1 := by rw [e_v_5]; exact gX_63 hB _
          refine ok_calp (s_X11_oneIf (x1 := v_5) (by omega)) (fun v_6 h_7 => ?_)
          have b_v_6 := h_7
          (try dsimp only at b_v_6)
          exact ok_ret (by (try dsimp only); omega)
      · have c_4 := c_4
        refine ok_ite (fun c_8 => ?_) (fun c_8 => ?_)
        · have c_8 := c_8
          have g_10 := gX_32 hB 0
          refine ok_ite (fun c_9 => ?_) (fun c_9 => ?_)
          · rw [fa_le] at c_9
            exact ok_ret (by (try dsimp only); omega)
          · rw [fa_le] at c_9
            refine ok_ix ⟨by omega, by omega⟩ ?_
            have g_11 := gX_64 hB (x2.toNatClampNeg)
            refine ok_lt fun v_8 e_v_8 => ?_
            have b_v_8 : 0 ≤ v_8.toInt ∧ v_8.toInt ≤ 1 := by rw [e_v_8]; exact gX_64 hB _
            refine ok_calp (s_X11_oneIf (x1 := v_8) (by omega)) (fun v_9 h_12 => ?_)
            have b_v_9 := h_12
            (try dsimp only at b_v_9)
            exact ok_ret (by (try dsimp only); omega)
        · have c_8 := c_8
          refine ok_ite (fun c_13 => ?_) (fun c_13 => ?_)
          · have c_13 := c_13
            have g_15 := gX_58 hB 0
            refine ok_ite (fun c_14 => ?_) (fun c_14 => ?_)
            · rw [fa_le] at c_14
              exact ok_ret (by (try dsimp only); omega)
            · rw [fa_le] at c_14
              refine ok_ix ⟨by omega, by omega⟩ ?_
              have g_16 := gX_65 hB (x2.toNatClampNeg)
              refine ok_lt fun v_11 e_v_11 => ?_
              have b_v_11 : 0 ≤ v_11.toInt ∧ v_11.toInt ≤ 1 := by rw [e_v_11]; exact gX_65 hB _
              refine ok_calp (s_X11_oneIf (x1 := v_11) (by omega)) (fun v_12 h_17 => ?_)
              have b_v_12 := h_17
              (try dsimp only at b_v_12)
              exact ok_ret (by (try dsimp only); omega)
          · have c_13 := c_13
            exact ok_ret (by (try dsimp only); omega)
    · rw [fa_le] at c_3
      exact ok_ret (by (try dsimp only); omega)

set_option maxHeartbeats 4000000 in
theorem s_X11_canRun {x1 : Int32} {x2 : Int32} {σ : Sto} (hB : BX σ) : OK (f_X11_canRun x1 x2 σ) (fun v => (0 ≤ v.toInt ∧ v.toInt ≤ 1) ∧ ((v.toInt ≠ 0 → (σ.1 0 0).toInt ≠ 0))) := by
  unfold f_X11_canRun
  have hF : FR [] [] σ σ := FR.rf
  have k_0 : (0 : Int32).toInt = 0 := by decide +kernel
  have k_1 : (1 : Int32).toInt = 1 := by decide +kernel
  have k_200 : (200 : Int32).toInt = 200 := by decide +kernel
  have g_2 := gX_0 hB 0
  refine ok_ite (fun c_1 => ?_) (fun c_1 => ?_)
  · rw [fa_eq] at c_1
    exact ok_ret ⟨(by (try dsimp only); omega), (fun h => by (try dsimp only at h); omega)⟩
  · rw [fa_eq] at c_1
    refine ok_ite (fun c_3 => ?_) (fun c_3 => ?_)
    · rw [fa_lt] at c_3
      exact ok_ret ⟨(by (try dsimp only); omega), (fun h => by (try dsimp only at h); omega)⟩
    · rw [fa_lt] at c_3
      refine ok_ite (fun c_4 => ?_) (fun c_4 => ?_)
      · rw [fa_le] at c_4
        refine ok_jn ?_
        refine ok_ite (fun c_5 => ?_) (fun c_5 => ?_)
        · rw [fa_eq] at c_5
          exact ok_ret ⟨(by (try dsimp only); omega), (fun h => by (try dsimp only at h); omega)⟩
        · rw [fa_eq] at c_5
          refine ok_jn ?_
          refine ok_ite (fun c_6 => ?_) (fun c_6 => ?_)
          · rw [fa_eq] at c_6
            have g_8 := gX_34 hB 0
            refine ok_ite (fun c_7 => ?_) (fun c_7 => ?_)
            · rw [fa_eq] at c_7
              exact ok_ret ⟨(by (try dsimp only); omega), (fun h => by (try dsimp only at h); omega)⟩
            · rw [fa_eq] at c_7
              exact ok_ret ⟨(by (try dsimp only); omega), (fun h => by (try dsimp only at h); omega)⟩
          · rw [fa_eq] at c_6
            exact ok_ret ⟨(by (try dsimp only); omega), (fun h => by (try dsimp only at h); omega)⟩
      · rw [fa_le] at c_4
        exact ok_ret ⟨(by (try dsimp only); omega), (fun h => by (try dsimp only at h); omega)⟩

set_option maxHeartbeats 4000000 in
theorem s_X5_begin {x1 : Int32} {x2 : Int32} {x3 : Int32} {x4 : Int32} {x5 : Int32} {σ : Sto} (hB : BX σ) (p_x5 : (-1) ≤ x5.toInt) : OK (f_X5_begin x1 x2 x3 x4 x5 σ) (fun s => BX s ∧ FR [78, 81, 82, 83, 84, 85, 86, 87, 88, 89, 90, 91, 92] [] σ s) := by
  unfold f_X5_begin
  have hF : FR [78, 81, 82, 83, 84, 85, 86, 87, 88, 89, 90, 91, 92] [] σ σ := FR.rf
  have k_0 : (0 : Int32).toInt = 0 := by decide +kernel
  have k_1 : (1 : Int32).toInt = 1 := by decide +kernel
  have k_6 : (6 : Int32).toInt = 6 := by decide +kernel
  refine ok_itr2 (fun (n : Nat) (x6_1 : Int32) (s_1 : Sto) => n = (7 - x6_1.toInt).toNat ∧ (0 ≤ x6_1.toInt ∧ x6_1.toInt ≤ 6) ∧ (BX s_1) ∧ (FR [78, 81, 82, 83, 84, 85, 86, 87, 88, 89, 90, 91, 92] [] σ s_1)) ?_ (n := _) ⟨rfl, (by omega), hB, hF⟩ (show _ < 10000000 by omega)
  intro a_3 n x6_1 s_1 hI ih_a_3
  obtain ⟨hn_a_3, b_x6_1, hB_s_1, hF_s_1⟩ := hI
  refine ok_ite (fun c_1 => ?_) (fun c_1 => ?_)
  · rw [fa_le] at c_1
    refine ok_ix ⟨by omega, by omega⟩ ?_
    refine ok_lt fun s_3 e_s_3 => ?_
    have hB_s_3 : BX s_3 := by rw [e_s_3]; exact pX_78 hB_s_1 (tI_rng _)
    have hF_s_3 : FR [78, 81, 82, 83, 84, 85, 86, 87, 88, 89, 90, 91, 92] [] σ s_3 := by rw [e_s_3]; exact FR.st hF_s_1 (by decide)
    refine ok_ix ⟨by omega, by omega⟩ ?_
    refine ok_lt fun s_4 e_s_4 => ?_
    have hB_s_4 : BX s_4 := by rw [e_s_4]; exact pX_78 hB_s_3 (tI_rng _)
    have hF_s_4 : FR [78, 81, 82, 83, 84, 85, 86, 87, 88, 89, 90, 91, 92] [] σ s_4 := by rw [e_s_4]; exact FR.st hF_s_3 (by decide)
    refine ok_lt fun s_5 e_s_5 => ?_
    have hB_s_5 : BX s_5 := by rw [e_s_5]; exact pX_82 hB_s_4 (tI_rng _)
    have hF_s_5 : FR [78, 81, 82, 83, 84, 85, 86, 87, 88, 89, 90, 91, 92] [] σ s_5 := by rw [e_s_5]; exact FR.st hF_s_4 (by decide)
    refine ok_lt fun s_6 e_s_6 => ?_
    have hB_s_6 : BX s_6 := by rw [e_s_6]; exact pX_83 hB_s_5 (tI_rng _)
    have hF_s_6 : FR [78, 81, 82, 83, 84, 85, 86, 87, 88, 89, 90, 91, 92] [] σ s_6 := by rw [e_s_6]; exact FR.st hF_s_5 (by decide)
    refine ok_lt fun s_7 e_s_7 => ?_
    have hB_s_7 : BX s_7 := by rw [e_s_7]; exact pX_91 hB_s_6 (tI_rng _)
    have hF_s_7 : FR [78, 81, 82, 83, 84, 85, 86, 87, 88, 89, 90, 91, 92] [] σ s_7 := by rw [e_s_7]; exact FR.st hF_s_6 (by decide)
    refine ok_lt fun s_8 e_s_8 => ?_
    have hB_s_8 : BX s_8 := by rw [e_s_8]; exact pX_81 hB_s_7 (by omega)
    have hF_s_8 : FR [78, 81, 82, 83, 84, 85, 86, 87, 88, 89, 90, 91, 92] [] σ s_8 := by rw [e_s_8]; exact FR.st hF_s_7 (by decide)
    refine ok_lt fun s_9 e_s_9 => ?_
    have hB_s_9 : BX s_9 := by rw [e_s_9]; exact pX_84 hB_s_8 (by omega)
    have hF_s_9 : FR [78, 81, 82, 83, 84, 85, 86, 87, 88, 89, 90, 91, 92] [] σ s_9 := by rw [e_s_9]; exact FR.st hF_s_8 (by decide)
    refine ok_lt fun s_10 e_s_10 => ?_
    have hB_s_10 : BX s_10 := by rw [e_s_10]; exact pX_85 hB_s_9 (tI_rng _)
    have hF_s_10 : FR [78, 81, 82, 83, 84, 85, 86, 87, 88, 89, 90, 91, 92] [] σ s_10 := by rw [e_s_10]; exact FR.st hF_s_9 (by decide)
    refine ok_lt fun s_11 e_s_11 => ?_
    have hB_s_11 : BX s_11 := by rw [e_s_11]; exact pX_86 hB_s_10 (by omega)
    have hF_s_11 : FR [78, 81, 82, 83, 84, 85, 86, 87, 88, 89, 90, 91, 92] [] σ s_11 := by rw [e_s_11]; exact FR.st hF_s_10 (by decide)
    refine ok_lt fun s_12 e_s_12 => ?_
    have hB_s_12 : BX s_12 := by rw [e_s_12]; exact pX_87 hB_s_11 (tI_rng _)
    have hF_s_12 : FR [78, 81, 82, 83, 84, 85, 86, 87, 88, 89, 90, 91, 92] [] σ s_12 := by rw [e_s_12]; exact FR.st hF_s_11 (by decide)
    refine ok_lt fun s_13 e_s_13 => ?_
    have hB_s_13 : BX s_13 := by rw [e_s_13]; exact pX_88 hB_s_12 (tI_rng _)
    have hF_s_13 : FR [78, 81, 82, 83, 84, 85, 86, 87, 88, 89, 90, 91, 92] [] σ s_13 := by rw [e_s_13]; exact FR.st hF_s_12 (by decide)
    refine ok_lt fun s_14 e_s_14 => ?_
    have hB_s_14 : BX s_14 := by rw [e_s_14]; exact pX_89 hB_s_13 (tI_rng _)
    have hF_s_14 : FR [78, 81, 82, 83, 84, 85, 86, 87, 88, 89, 90, 91, 92] [] σ s_14 := by rw [e_s_14]; exact FR.st hF_s_13 (by decide)
    refine ok_lt fun s_15 e_s_15 => ?_
    have hB_s_15 : BX s_15 := by rw [e_s_15]; exact pX_90 hB_s_14 (tI_rng _)
    have hF_s_15 : FR [78, 81, 82, 83, 84, 85, 86, 87, 88, 89, 90, 91, 92] [] σ s_15 := by rw [e_s_15]; exact FR.st hF_s_14 (by decide)
    refine ok_lt fun s_16 e_s_16 => ?_
    have hB_s_16 : BX s_16 := by rw [e_s_16]; exact pX_92 hB_s_15 (tI_rng _)
    have hF_s_16 : FR [78, 81, 82, 83, 84, 85, 86, 87, 88, 89, 90, 91, 92] [] σ s_16 := by rw [e_s_16]; exact FR.st hF_s_15 (by decide)
    exact ok_ret ⟨hB_s_16, hF_s_16⟩
  · rw [fa_le] at c_1
    refine ok_ix ⟨by omega, by omega⟩ ?_
    refine ok_lt fun s_17 e_s_17 => ?_
    have hB_s_17 : BX s_17 := by rw [e_s_17]; exact pX_78 hB_s_1 (tI_rng _)
    have hF_s_17 : FR [78, 81, 82, 83, 84, 85, 86, 87, 88, 89, 90, 91, 92] [] σ s_17 := by rw [e_s_17]; exact FR.st hF_s_1 (by decide)
    obtain ⟨t_2, ht_2, g_2⟩ : ∃ t : Int, (x6_1 + 1).toInt = t ∧ t = x6_1.toInt + (1 : Int32).toInt := ⟨_, rfl, by have h9 := fb_addI (x := x6_1) (y := (1 : Int32)) (by omega) (by omega); exact h9⟩
    refine ok_lt fun x6_18 e_x6_18 => ?_
    have q_x6_18 : x6_18.toInt = t_2 := by rw [e_x6_18]; exact ht_2
    exact ih_a_3 _ x6_18 s_17 (by rw [hn_a_3]; omega) ⟨rfl, (by omega), hB_s_17, hF_s_17⟩

set_option maxHeartbeats 4000000 in
theorem s_X5_pop {σ : Sto} (hB : BX σ) : OK (f_X5_pop σ) (fun r => True ∧ BX r.2 ∧ FR [81] [] σ r.2) := by
  unfold f_X5_pop
  have hF : FR [81] [] σ σ := FR.rf
  have k_0 : (0 : Int32).toInt = 0 := by decide +kernel
  have k_1 : (1 : Int32).toInt = 1 := by decide +kernel
  refine ok_jn ?_
  have g_2 := gX_81 hB 0
  refine ok_ite (fun c_1 => ?_) (fun c_1 => ?_)
  · rw [fa_le] at c_1
    refine ok_ix ⟨by omega, by omega⟩ ?_
    refine ok_lt fun v_2 e_v_2 => ?_
    exact ok_ret ⟨trivial, hB, hF⟩
  · rw [fa_le] at c_1
    obtain ⟨t_3, ht_3, g_3⟩ : ∃ t : Int, ((σ.1 81 0) - 1).toInt = t ∧ t = (σ.1 81 0).toInt - (1 : Int32).toInt := ⟨_, rfl, by have h9 := fb_subI (x := (σ.1 81 0)) (y := (1 : Int32)) (by omega) (by omega); exact h9⟩
    refine ok_lt fun s_4 e_s_4 => ?_
    have hB_s_4 : BX s_4 := by rw [e_s_4]; exact pX_81 hB (by rw [ht_3]; omega)
    have hF_s_4 : FR [81] [] σ s_4 := by rw [e_s_4]; exact FR.st hF (by decide)
    have w_s_4_81 : (s_4.1 81 0).toInt = t_3 := by rw [e_s_4, sti_s, ht_3]
    have g_4 := gX_81 hB_s_4 0
    refine ok_ix ⟨by omega, by omega⟩ ?_
    refine ok_lt fun v_2 e_v_2 => ?_
    exact ok_ret ⟨trivial, hB_s_4, hF_s_4⟩

set_option maxHeartbeats 4000000 in
theorem s_X5_push {x1 : Int32} {σ : Sto} (hB : BX σ) : OK (f_X5_push x1 σ) (fun s => BX s ∧ FR [79, 81] [] σ s) := by
  unfold f_X5_push
  have hF : FR [79, 81] [] σ σ := FR.rf
  have k_1 : (1 : Int32).toInt = 1 := by decide +kernel
  have k_8 : (8 : Int32).toInt = 8 := by decide +kernel
  have g_2 := gX_81 hB 0
  refine ok_ite (fun c_1 => ?_) (fun c_1 => ?_)
  · rw [fa_le] at c_1
    exact ok_ret ⟨hB, hF⟩
  · rw [fa_le] at c_1
    refine ok_ix ⟨by omega, by omega⟩ ?_
    refine ok_lt fun s_2 e_s_2 => ?_
    have hB_s_2 : BX s_2 := by rw [e_s_2]; exact pX_79 hB (tI_rng _)
    have hF_s_2 : FR [79, 81] [] σ s_2 := by rw [e_s_2]; exact FR.st hF (by decide)
    have w_s_2_81 : (s_2.1 81 0).toInt = (σ.1 81 0).toInt := by rw [e_s_2]; rfl
    have g_3 := gX_81 hB_s_2 0
    obtain ⟨t_4, ht_4, g_4⟩ : ∃ t : Int, ((s_2.1 81 0) + 1).toInt = t ∧ t = (s_2.1 81 0).toInt + (1 : Int32).toInt := ⟨_, rfl, by have h9 := fb_addI (x := (s_2.1 81 0)) (y := (1 : Int32)) (by omega) (by omega); exact h9⟩
    refine ok_lt fun s_3 e_s_3 => ?_
    have hB_s_3 : BX s_3 := by rw [e_s_3]; exact pX_81 hB_s_2 (by rw [ht_4]; omega)
    have hF_s_3 : FR [79, 81] [] σ s_3 := by rw [e_s_3]; exact FR.st hF_s_2 (by decide)
    have w_s_3_81 : (s_3.1 81 0).toInt = t_4 := by rw [e_s_3, sti_s, ht_4]
    exact ok_ret ⟨hB_s_3, hF_s_3⟩

set_option maxHeartbeats 4000000 in
theorem s_X5_shuffle {x1 : Int32} {σ : Sto} (hB : BX σ) (p_x1 : 100 ≤ x1.toInt ∧ x1.toInt ≤ 119) : OK (f_X5_shuffle x1 σ) (fun s => BX s ∧ FR [79, 81] [] σ s) := by
  unfold f_X5_shuffle
  have hF : FR [79, 81] [] σ σ := FR.rf
  have k_119 : (119 : Int32).toInt = 119 := by decide +kernel
  refine ok_calv (s_X5_pop  (σ := σ) hB) (fun v_1 s_1 h_1 => ?_)
  obtain ⟨b_v_1, hB_s_1, hG_s_1⟩ := h_1
  (try dsimp only at b_v_1 hB_s_1 hG_s_1)
  have hF_s_1 : FR [79, 81] [] σ s_1 := FR.cal hF hG_s_1 rfl rfl
  refine ok_jn ?_
  refine ok_ite (fun c_2 => ?_) (fun c_2 => ?_)
  · rw [fa_eq] at c_2
    refine ok_calv (s_X5_pop  (σ := s_1) hB_s_1) (fun v_6 s_6 h_3 => ?_)
    obtain ⟨b_v_6, hB_s_6, hG_s_6⟩ := h_3
    (try dsimp only at b_v_6 hB_s_6 hG_s_6)
    have hF_s_6 : FR [79, 81] [] σ s_6 := FR.cal hF_s_1 hG_s_6 rfl rfl
    refine ok_cals (s_X5_push (x1 := v_1) (σ := s_6) hB_s_6) (fun s_3 h_4 => ?_)
    obtain ⟨hB_s_3, hG_s_3⟩ := h_4
    (try dsimp only at hB_s_3 hG_s_3)
    have hF_s_3 : FR [79, 81] [] σ s_3 := FR.cal hF_s_6 hG_s_3 rfl rfl
    refine ok_cals (s_X5_push (x1 := v_6) (σ := s_3) hB_s_3) (fun s_4 h_5 => ?_)
    obtain ⟨hB_s_4, hG_s_4⟩ := h_5
    (try dsimp only at hB_s_4 hG_s_4)
    have hF_s_4 : FR [79, 81] [] σ s_4 := FR.cal hF_s_3 hG_s_4 rfl rfl
    exact ok_ret ⟨hB_s_4, hF_s_4⟩
  · rw [fa_eq] at c_2
    refine ok_cals (s_X5_push (x1 := v_1) (σ := s_1) hB_s_1) (fun s_3 h_6 => ?_)
    obtain ⟨hB_s_3, hG_s_3⟩ := h_6
    (try dsimp only at hB_s_3 hG_s_3)
    have hF_s_3 : FR [79, 81] [] σ s_3 := FR.cal hF_s_1 hG_s_3 rfl rfl
    refine ok_cals (s_X5_push (x1 := v_1) (σ := s_3) hB_s_3) (fun s_4 h_7 => ?_)
    obtain ⟨hB_s_4, hG_s_4⟩ := h_7
    (try dsimp only at hB_s_4 hG_s_4)
    have hF_s_4 : FR [79, 81] [] σ s_4 := FR.cal hF_s_3 hG_s_4 rfl rfl
    exact ok_ret ⟨hB_s_4, hF_s_4⟩

set_option maxHeartbeats 4000000 in
theorem s_X5_draw {σ : Sto} (hB : BX σ) : OK (f_X5_draw σ) (fun r => (0 ≤ r.1.toInt ∧ r.1.toInt ≤ 4) ∧ BX r.2 ∧ FR [82, 88] [] σ r.2) := by
  unfold f_X5_draw
  have hF : FR [82, 88] [] σ σ := FR.rf
  have k_1 : (1 : Int32).toInt = 1 := by decide +kernel
  have k_12345 : (12345 : Int32).toInt = 12345 := by decide +kernel
  have k_1103515245 : (1103515245 : Int32).toInt = 1103515245 := by decide +kernel
  obtain ⟨t_1, ht_1, g_1⟩ : ∃ t : Int, ((σ.1 82 0) * 1103515245).toInt = t ∧ -2147483648 ≤ t ∧ t ≤ 2147483647 := ⟨_, rfl, tI_rng _⟩
  obtain ⟨t_2, ht_2, g_2⟩ : ∃ t : Int, (((σ.1 82 0) * 1103515245) + 12345).toInt = t ∧ -2147483648 ≤ t ∧ t ≤ 2147483647 := ⟨_, rfl, tI_rng _⟩
  refine ok_lt fun s_1 e_s_1 => ?_
  have hB_s_1 : BX s_1 := by rw [e_s_1]; exact pX_82 hB (tI_rng _)
  have hF_s_1 : FR [82, 88] [] σ s_1 := by rw [e_s_1]; exact FR.st hF (by decide)
  have w_s_1_82 : (s_1.1 82 0).toInt = t_2 := by rw [e_s_1, sti_s, ht_2]
  have w_s_1_88 : (s_1.1 88 0).toInt = (σ.1 88 0).toInt := by rw [e_s_1]; rfl
  obtain ⟨t_3, ht_3, g_3⟩ : ∃ t : Int, ((s_1.1 88 0) + 1).toInt = t ∧ -2147483648 ≤ t ∧ t ≤ 2147483647 := ⟨_, rfl, tI_rng _⟩
  refine ok_lt fun s_2 e_s_2 => ?_
  have hB_s_2 : BX s_2 := by rw [e_s_2]; exact pX_88 hB_s_1 (tI_rng _)
  have hF_s_2 : FR [82, 88] [] σ s_2 := by rw [e_s_2]; exact FR.st hF_s_1 (by decide)
  have w_s_2_82 : (s_2.1 82 0).toInt = (s_1.1 82 0).toInt := by rw [e_s_2]; rfl
  have w_s_2_88 : (s_2.1 88 0).toInt = t_3 := by rw [e_s_2, sti_s, ht_3]
  obtain ⟨t_4, ht_4, g_4⟩ : ∃ t : Int, (((s_2.1 82 0).toUInt32 >>> ((16 : Int32).toUInt32 &&& (31 : Int32).toUInt32)).toInt32 &&& 32767).toInt = t ∧ 0 ≤ t ∧ t ≤ 32767 := ⟨_, rfl, and_rng (x := ((s_2.1 82 0).toUInt32 >>> ((16 : Int32).toUInt32 &&& (31 : Int32).toUInt32)).toInt32) 32767 rfl (by decide)⟩
  obtain ⟨t_5, ht_5, g_5⟩ : ∃ t : Int, ((((s_2.1 82 0).toUInt32 >>> ((16 : Int32).toUInt32 &&& (31 : Int32).toUInt32)).toInt32 &&& 32767) - (((((s_2.1 82 0).toUInt32 >>> ((16 : Int32).toUInt32 &&& (31 : Int32).toUInt32)).toInt32 &&& 32767) / 5) * 5)).toInt = t ∧ t = t_4 % 5 := ⟨_, rfl, by have h9 := rem_I (x := (((s_2.1 82 0).toUInt32 >>> ((16 : Int32).toUInt32 &&& (31 : Int32).toUInt32)).toInt32 &&& 32767)) (n := 5) (by rw [ht_4]; omega) (by decide) (by decide); rw [ht_4] at h9; exact h9⟩
  exact ok_ret ⟨(by (try dsimp only); rw [ht_5]; omega), hB_s_2, hF_s_2⟩

set_option maxHeartbeats 4000000 in
theorem s_X5_tellOut {x1 : Int32} {σ : Sto} (hB : BX σ) : OK (f_X5_tellOut x1 σ) (fun s => BX s ∧ FR [89, 90, 92] [] σ s) := by
  unfold f_X5_tellOut
  have hF : FR [89, 90, 92] [] σ σ := FR.rf
  have k_1 : (1 : Int32).toInt = 1 := by decide +kernel
  have k_31 : (31 : Int32).toInt = 31 := by decide +kernel
  refine ok_jn ?_
  refine ok_ite (fun c_1 => ?_) (fun c_1 => ?_)
  · rw [fa_eq] at c_1
    refine ok_lt fun s_5 e_s_5 => ?_
    have hB_s_5 : BX s_5 := by rw [e_s_5]; exact pX_92 hB (tI_rng _)
    have hF_s_5 : FR [89, 90, 92] [] σ s_5 := by rw [e_s_5]; exact FR.st hF (by decide)
    have w_s_5_89 : (s_5.1 89 0).toInt = (σ.1 89 0).toInt := by rw [e_s_5]; rfl
    have w_s_5_90 : (s_5.1 90 0).toInt = (σ.1 90 0).toInt := by rw [e_s_5]; rfl
    obtain ⟨t_2, ht_2, g_2⟩ : ∃ t : Int, ((s_5.1 89 0) + 1).toInt = t ∧ -2147483648 ≤ t ∧ t ≤ 2147483647 := ⟨_, rfl, tI_rng _⟩
    refine ok_lt fun s_2 e_s_2 => ?_
    have hB_s_2 : BX s_2 := by rw [e_s_2]; exact pX_89 hB_s_5 (tI_rng _)
    have hF_s_2 : FR [89, 90, 92] [] σ s_2 := by rw [e_s_2]; exact FR.st hF_s_5 (by decide)
    have w_s_2_89 : (s_2.1 89 0).toInt = t_2 := by rw [e_s_2, sti_s, ht_2]
    have w_s_2_90 : (s_2.1 90 0).toInt = (s_5.1 90 0).toInt := by rw [e_s_2]; rfl
    obtain ⟨t_3, ht_3, g_3⟩ : ∃ t : Int, ((31 : Int32) * (s_2.1 90 0)).toInt = t ∧ -2147483648 ≤ t ∧ t ≤ 2147483647 := ⟨_, rfl, tI_rng _⟩
    obtain ⟨t_4, ht_4, g_4⟩ : ∃ t : Int, (((31 : Int32) * (s_2.1 90 0)) + x1).toInt = t ∧ -2147483648 ≤ t ∧ t ≤ 2147483647 := ⟨_, rfl, tI_rng _⟩
    refine ok_lt fun s_3 e_s_3 => ?_
    have hB_s_3 : BX s_3 := by rw [e_s_3]; exact pX_90 hB_s_2 (tI_rng _)
    have hF_s_3 : FR [89, 90, 92] [] σ s_3 := by rw [e_s_3]; exact FR.st hF_s_2 (by decide)
    have w_s_3_89 : (s_3.1 89 0).toInt = (s_2.1 89 0).toInt := by rw [e_s_3]; rfl
    have w_s_3_90 : (s_3.1 90 0).toInt = t_4 := by rw [e_s_3, sti_s, ht_4]
    exact ok_ret ⟨hB_s_3, hF_s_3⟩
  · rw [fa_eq] at c_1
    obtain ⟨t_5, ht_5, g_5⟩ : ∃ t : Int, ((σ.1 89 0) + 1).toInt = t ∧ -2147483648 ≤ t ∧ t ≤ 2147483647 := ⟨_, rfl, tI_rng _⟩
    refine ok_lt fun s_2 e_s_2 => ?_
    have hB_s_2 : BX s_2 := by rw [e_s_2]; exact pX_89 hB (tI_rng _)
    have hF_s_2 : FR [89, 90, 92] [] σ s_2 := by rw [e_s_2]; exact FR.st hF (by decide)
    have w_s_2_89 : (s_2.1 89 0).toInt = t_5 := by rw [e_s_2, sti_s, ht_5]
    have w_s_2_90 : (s_2.1 90 0).toInt = (σ.1 90 0).toInt := by rw [e_s_2]; rfl
    obtain ⟨t_6, ht_6, g_6⟩ : ∃ t : Int, ((31 : Int32) * (s_2.1 90 0)).toInt = t ∧ -2147483648 ≤ t ∧ t ≤ 2147483647 := ⟨_, rfl, tI_rng _⟩
    obtain ⟨t_7, ht_7, g_7⟩ : ∃ t : Int, (((31 : Int32) * (s_2.1 90 0)) + x1).toInt = t ∧ -2147483648 ≤ t ∧ t ≤ 2147483647 := ⟨_, rfl, tI_rng _⟩
    refine ok_lt fun s_3 e_s_3 => ?_
    have hB_s_3 : BX s_3 := by rw [e_s_3]; exact pX_90 hB_s_2 (tI_rng _)
    have hF_s_3 : FR [89, 90, 92] [] σ s_3 := by rw [e_s_3]; exact FR.st hF_s_2 (by decide)
    have w_s_3_89 : (s_3.1 89 0).toInt = (s_2.1 89 0).toInt := by rw [e_s_3]; rfl
    have w_s_3_90 : (s_3.1 90 0).toInt = t_7 := by rw [e_s_3, sti_s, ht_7]
    exact ok_ret ⟨hB_s_3, hF_s_3⟩

set_option maxHeartbeats 4000000 in
theorem s_X5_throwOut {x1 : Int32} {σ : Sto} (hB : BX σ) : OK (f_X5_throwOut x1 σ) (fun s => BX s ∧ FR [85, 86] [] σ s) := by
  unfold f_X5_throwOut
  have hF : FR [85, 86] [] σ σ := FR.rf
  have k_1 : (1 : Int32).toInt = 1 := by decide +kernel
  refine ok_lt fun s_1 e_s_1 => ?_
  have hB_s_1 : BX s_1 := by rw [e_s_1]; exact pX_86 hB (by omega)
  have hF_s_1 : FR [85, 86] [] σ s_1 := by rw [e_s_1]; exact FR.st hF (by decide)
  refine ok_lt fun s_2 e_s_2 => ?_
  have hB_s_2 : BX s_2 := by rw [e_s_2]; exact pX_85 hB_s_1 (tI_rng _)
  have hF_s_2 : FR [85, 86] [] σ s_2 := by rw [e_s_2]; exact FR.st hF_s_1 (by decide)
  exact ok_ret ⟨hB_s_2, hF_s_2⟩

set_option maxHeartbeats 4000000 in
theorem s_X5_throwFrom {x1 : Int32} {x2 : Int32} {σ : Sto} (hB : BX σ) (hLV : LV σ) (p_x1 : 0 ≤ x1.toInt ∧ x1.toInt ≤ 39) : OK (f_X5_throwFrom x1 x2 σ) (fun r => ((-1) ≤ r.1.toInt ∧ r.1.toInt ≤ 39) ∧ BX r.2 ∧ FR [79, 81, 84, 85, 86] [] σ r.2 ∧ ((r.1.toInt ≠ -1 → r.1.toInt < (σ.1 4 0).toInt))) := by
  unfold f_X5_throwFrom
  have hF : FR [79, 81, 84, 85, 86] [] σ σ := FR.rf
  have k_m1 : ((-1) : Int32).toInt = -1 := by decide +kernel
  have k_0 : (0 : Int32).toInt = 0 := by decide +kernel
  have g4 := gX_4 hB 0
  have g5 := gX_5 hB 0
  refine ok_calp (s_X3_handlerOf (x1 := x1) (σ := σ) hB (by omega)) (fun v_1 h_1 => ?_)
  obtain ⟨b_v_1, x_v_1⟩ := h_1
  (try dsimp only at b_v_1 x_v_1)
  refine ok_ite (fun c_2 => ?_) (fun c_2 => ?_)
  · rw [fa_eq] at c_2
    refine ok_cals (s_X5_throwOut (x1 := x2) (σ := σ) hB) (fun s_3 h_3 => ?_)
    obtain ⟨hB_s_3, hG_s_3⟩ := h_3
    (try dsimp only at hB_s_3 hG_s_3)
    have hF_s_3 : FR [79, 81, 84, 85, 86] [] σ s_3 := FR.cal hF hG_s_3 rfl rfl
    have hLV_s_3 : LV s_3 := LV.fr hG_s_3 (by decide) hLV
    exact ok_ret ⟨(by (try dsimp only); omega), hB_s_3, hF_s_3, (fun h => by (try dsimp only at h); (try dsimp only); omega)⟩
  · rw [fa_eq] at c_2
    refine ok_lt fun s_4 e_s_4 => ?_
    have hB_s_4 : BX s_4 := by rw [e_s_4]; exact pX_84 hB (by omega)
    have hF_s_4 : FR [79, 81, 84, 85, 86] [] σ s_4 := by rw [e_s_4]; exact FR.st hF (by decide)
    have hLV_s_4 : LV s_4 := by rw [e_s_4]; exact LV.st1 (by decide) hLV
    refine ok_lt fun s_5 e_s_5 => ?_
    have hB_s_5 : BX s_5 := by rw [e_s_5]; exact pX_81 hB_s_4 (by omega)
    have hF_s_5 : FR [79, 81, 84, 85, 86] [] σ s_5 := by rw [e_s_5]; exact FR.st hF_s_4 (by decide)
    have hLV_s_5 : LV s_5 := by rw [e_s_5]; exact LV.st1 (by decide) hLV_s_4
    refine ok_cals (s_X5_push (x1 := x2) (σ := s_5) hB_s_5) (fun s_6 h_4 => ?_)
    obtain ⟨hB_s_6, hG_s_6⟩ := h_4
    (try dsimp only at hB_s_6 hG_s_6)
    have hF_s_6 : FR [79, 81, 84, 85, 86] [] σ s_6 := FR.cal hF_s_5 hG_s_6 rfl rfl
    have hLV_s_6 : LV s_6 := LV.fr hG_s_6 (by decide) hLV_s_5
    refine ok_ix ⟨by omega, by omega⟩ ?_
    have g_5 := gX_11 hB_s_6 (v_1.toNatClampNeg)
    refine ok_lt fun v_7 e_v_7 => ?_
    have b_v_7 : 0 ≤ v_7.toInt ∧ v_7.toInt ≤ 40 := by rw [e_v_7]; exact gX_11 hB_s_6 _
    have y7 : v_7.toInt < (σ.1 4 0).toInt := by rw [e_v_7, hF_s_6.1 11 (by decide)]; exact (hLV.2 v_1.toNatClampNeg (by have := clamp_I (x := v_1) (by omega); omega)).2.2
    exact ok_ret ⟨(by (try dsimp only); omega), hB_s_6, hF_s_6, (fun h => by (try dsimp only at h); (try dsimp only); omega)⟩

set_option maxHeartbeats 4000000 in
theorem s_X11_outcome {x1 : Int32} {x2 : Int32} {x3 : Int32} (p_x1 : 0 ≤ x1.toInt ∧ x1.toInt ≤ 255) : OK (f_X11_outcome x1 x2 x3) (fun v => True) := by
  unfold f_X11_outcome
  have k_0 : (0 : Int32).toInt = 0 := by decide +kernel
  have k_1 : (1 : Int32).toInt = 1 := by decide +kernel
  have k_33 : (33 : Int32).toInt = 33 := by decide +kernel
  have k_37 : (37 : Int32).toInt = 37 := by decide +kernel
  have k_42 : (42 : Int32).toInt = 42 := by decide +kernel
  have k_43 : (43 : Int32).toInt = 43 := by decide +kernel
  have k_45 : (45 : Int32).toInt = 45 := by decide +kernel
  have k_47 : (47 : Int32).toInt = 47 := by decide +kernel
  have k_60 : (60 : Int32).toInt = 60 := by decide +kernel
  have k_61 : (61 : Int32).toInt = 61 := by decide +kernel
  refine ok_ite (fun c_1 => ?_) (fun c_1 => ?_)
  · have c_1 := c_1
    refine ok_ite (fun c_2 => ?_) (fun c_2 => ?_)
    · rw [fa_eq] at c_2
      exact ok_ret trivial
    · rw [fa_eq] at c_2
      exact ok_ret trivial
  · have c_1 := c_1
    refine ok_ite (fun c_3 => ?_) (fun c_3 => ?_)
    · have c_3 := c_3
      refine ok_ite (fun c_4 => ?_) (fun c_4 => ?_)
      · rw [fa_eq] at c_4
        exact ok_ret trivial
      · rw [fa_eq] at c_4
        refine ok_nz (by rw [fa_eq]; omega) ?_
        obtain ⟨t_5, ht_5, g_5⟩ : ∃ t : Int, (x2 - ((x2 / x3) * x3)).toInt = t ∧ -2147483648 ≤ t ∧ t ≤ 2147483647 := ⟨_, rfl, tI_rng _⟩
        exact ok_ret trivial
    · have c_3 := c_3
      refine ok_ite (fun c_6 => ?_) (fun c_6 => ?_)
      · have c_6 := c_6
        obtain ⟨t_7, ht_7, g_7⟩ : ∃ t : Int, (x2 * x3).toInt = t ∧ -2147483648 ≤ t ∧ t ≤ 2147483647 := ⟨_, rfl, tI_rng _⟩
        exact ok_ret trivial
      · have c_6 := c_6
        refine ok_ite (fun c_8 => ?_) (fun c_8 => ?_)
        · have c_8 := c_8
          obtain ⟨t_9, ht_9, g_9⟩ : ∃ t : Int, (x2 + x3).toInt = t ∧ -2147483648 ≤ t ∧ t ≤ 2147483647 := ⟨_, rfl, tI_rng _⟩
          exact ok_ret trivial
        · have c_8 := c_8
          refine ok_ite (fun c_10 => ?_) (fun c_10 => ?_)
          · have c_10 := c_10
            obtain ⟨t_11, ht_11, g_11⟩ : ∃ t : Int, (x2 - x3).toInt = t ∧ -2147483648 ≤ t ∧ t ≤ 2147483647 := ⟨_, rfl, tI_rng _⟩
            exact ok_ret trivial
          · have c_10 := c_10
            refine ok_ite (fun c_12 => ?_) (fun c_12 => ?_)
            · have c_12 := c_12
              refine ok_ite (fun c_13 => ?_) (fun c_13 => ?_)
              · rw [fa_eq] at c_13
                exact ok_ret trivial
              · rw [fa_eq] at c_13
                refine ok_nz (by rw [fa_eq]; omega) ?_
                obtain ⟨t_14, ht_14, g_14⟩ : ∃ t : Int, (x2 / x3).toInt = t ∧ -2147483648 ≤ t ∧ t ≤ 2147483647 := ⟨_, rfl, tI_rng _⟩
                exact ok_ret trivial
            · have c_12 := c_12
              refine ok_ite (fun c_15 => ?_) (fun c_15 => ?_)
              · have c_15 := c_15
                refine ok_ite (fun c_16 => ?_) (fun c_16 => ?_)
                · rw [fa_le] at c_16
                  exact ok_ret trivial
                · rw [fa_le] at c_16
                  exact ok_ret trivial
              · have c_15 := c_15
                refine ok_ite (fun c_17 => ?_) (fun c_17 => ?_)
                · have c_17 := c_17
                  refine ok_ite (fun c_18 => ?_) (fun c_18 => ?_)
                  · rw [fa_eq] at c_18
                    exact ok_ret trivial
                  · rw [fa_eq] at c_18
                    exact ok_ret trivial
                · have c_17 := c_17
                  obtain ⟨t_19, ht_19, g_19⟩ : ∃ t : Int, (-x2).toInt = t ∧ -2147483648 ≤ t ∧ t ≤ 2147483647 := ⟨_, rfl, tI_rng _⟩
                  exact ok_ret trivial

set_option maxHeartbeats 4000000 in
theorem s_X11_dividesByZero {x1 : Int32} {x2 : Int32} (p_x1 : 0 ≤ x1.toInt ∧ x1.toInt ≤ 255) : OK (f_X11_dividesByZero x1 x2) (fun v => (0 ≤ v.toInt ∧ v.toInt ≤ 1)) := by
  unfold f_X11_dividesByZero
  have k_0 : (0 : Int32).toInt = 0 := by decide +kernel
  have k_1 : (1 : Int32).toInt = 1 := by decide +kernel
  have k_37 : (37 : Int32).toInt = 37 := by decide +kernel
  have k_47 : (47 : Int32).toInt = 47 := by decide +kernel
  refine ok_jn ?_
  refine ok_jn ?_
  refine ok_ite (fun c_1 => ?_) (fun c_1 => ?_)
  · rw [fa_eq] at c_1
    refine ok_ite (fun c_2 => ?_) (fun c_2 => ?_)
    · rw [fa_eq] at c_2
      exact ok_ret (by (try dsimp only); omega)
    · rw [fa_eq] at c_2
      exact ok_ret (by (try dsimp only); omega)
  · rw [fa_eq] at c_1
    refine ok_ite (fun c_3 => ?_) (fun c_3 => ?_)
    · rw [fa_eq] at c_3
      refine ok_ite (fun c_4 => ?_) (fun c_4 => ?_)
      · rw [fa_eq] at c_4
        exact ok_ret (by (try dsimp only); omega)
      · rw [fa_eq] at c_4
        exact ok_ret (by (try dsimp only); omega)
    · rw [fa_eq] at c_3
      exact ok_ret (by (try dsimp only); omega)

set_option maxHeartbeats 4000000 in
theorem s_X5_operate {x1 : Int32} {σ : Sto} (hB : BX σ) (p_x1 : 0 ≤ x1.toInt ∧ x1.toInt ≤ 255) : OK (f_X5_operate x1 σ) (fun s => BX s ∧ FR [79, 81, 84] [] σ s) := by
  unfold f_X5_operate
  have hF : FR [79, 81, 84] [] σ σ := FR.rf
  have k_0 : (0 : Int32).toInt = 0 := by decide +kernel
  have k_1 : (1 : Int32).toInt = 1 := by decide +kernel
  refine ok_calv (s_X5_pop  (σ := σ) hB) (fun v_1 s_1 h_1 => ?_)
  obtain ⟨b_v_1, hB_s_1, hG_s_1⟩ := h_1
  (try dsimp only at b_v_1 hB_s_1 hG_s_1)
  have hF_s_1 : FR [79, 81, 84] [] σ s_1 := FR.cal hF hG_s_1 rfl rfl
  refine ok_calp (s_X11_isBinary (x1 := x1) ) (fun v_2 h_2 => ?_)
  obtain ⟨b_v_2, x_v_2⟩ := h_2
  (try dsimp only at b_v_2 x_v_2)
  refine ok_ite (fun c_3 => ?_) (fun c_3 => ?_)
  · rw [fa_eq] at c_3
    refine ok_calp (s_X11_outcome (x1 := x1) (x2 := v_1) (x3 := (0 : Int32)) (by omega)) (fun v_4 h_4 => ?_)
    have b_v_4 := h_4
    (try dsimp only at b_v_4)
    refine ok_cals (s_X5_push (x1 := v_4) (σ := s_1) hB_s_1) (fun s_5 h_5 => ?_)
    obtain ⟨hB_s_5, hG_s_5⟩ := h_5
    (try dsimp only at hB_s_5 hG_s_5)
    have hF_s_5 : FR [79, 81, 84] [] σ s_5 := FR.cal hF_s_1 hG_s_5 rfl rfl
    exact ok_ret ⟨hB_s_5, hF_s_5⟩
  · rw [fa_eq] at c_3
    refine ok_calv (s_X5_pop  (σ := s_1) hB_s_1) (fun v_6 s_6 h_6 => ?_)
    obtain ⟨b_v_6, hB_s_6, hG_s_6⟩ := h_6
    (try dsimp only at b_v_6 hB_s_6 hG_s_6)
    have hF_s_6 : FR [79, 81, 84] [] σ s_6 := FR.cal hF_s_1 hG_s_6 rfl rfl
    refine ok_calp (s_X11_dividesByZero (x1 := x1) (x2 := v_1) (by omega)) (fun v_7 h_7 => ?_)
    have b_v_7 := h_7
    (try dsimp only at b_v_7)
    refine ok_bz (by rw [fa_eq, fa_eq]; omega) ?_
    refine ok_lt fun s_8 e_s_8 => ?_
    have hB_s_8 : BX s_8 := by rw [e_s_8]; exact pX_84 hB_s_6 (by omega)
    have hF_s_8 : FR [79, 81, 84] [] σ s_8 := by rw [e_s_8]; exact FR.st hF_s_6 (by decide)
    refine ok_calp (s_X11_outcome (x1 := x1) (x2 := v_6) (x3 := v_1) (by omega)) (fun v_10 h_8 => ?_)
    have b_v_10 := h_8
    (try dsimp only at b_v_10)
    refine ok_cals (s_X5_push (x1 := v_10) (σ := s_8) hB_s_8) (fun s_11 h_9 => ?_)
    obtain ⟨hB_s_11, hG_s_11⟩ := h_9
    (try dsimp only at hB_s_11 hG_s_11)
    have hF_s_11 : FR [79, 81, 84] [] σ s_11 := FR.cal hF_s_8 hG_s_11 rfl rfl
    exact ok_ret ⟨hB_s_11, hF_s_11⟩

set_option maxHeartbeats 4000000 in
theorem s_X5_obey {x1 : Int32} {σ : Sto} (hB : BX σ) (hLV : LV σ) (p_x1 : 0 ≤ x1.toInt ∧ x1.toInt ≤ 39) (hx : x1.toInt < (σ.1 4 0).toInt) : OK (f_X5_obey x1 σ) (fun r => ((-1) ≤ r.1.toInt ∧ r.1.toInt ≤ 39) ∧ BX r.2 ∧ FR [78, 79, 81, 82, 84, 85, 86, 88, 89, 90, 92] [] σ r.2 ∧ ((r.1.toInt ≠ -1 → r.1.toInt < (σ.1 4 0).toInt))) := by
  unfold f_X5_obey
  have hF : FR [78, 79, 81, 82, 84, 85, 86, 88, 89, 90, 92] [] σ σ := FR.rf
  have k_m1 : ((-1) : Int32).toInt = -1 := by decide +kernel
  have k_0 : (0 : Int32).toInt = 0 := by decide +kernel
  have k_1 : (1 : Int32).toInt = 1 := by decide +kernel
  have k_99 : (99 : Int32).toInt = 99 := by decide +kernel
  have k_103 : (103 : Int32).toInt = 103 := by decide +kernel
  have k_105 : (105 : Int32).toInt = 105 := by decide +kernel
  have k_107 : (107 : Int32).toInt = 107 := by decide +kernel
  have k_108 : (108 : Int32).toInt = 108 := by decide +kernel
  have k_111 : (111 : Int32).toInt = 111 := by decide +kernel
  have k_112 : (112 : Int32).toInt = 112 := by decide +kernel
  have k_114 : (114 : Int32).toInt = 114 := by decide +kernel
  have k_115 : (115 : Int32).toInt = 115 := by decide +kernel
  have k_116 : (116 : Int32).toInt = 116 := by decide +kernel
  have k_122 : (122 : Int32).toInt = 122 := by decide +kernel
  have g4 := gX_4 hB 0
  refine ok_ix ⟨by omega, by omega⟩ ?_
  have g_1 := gX_6 hB (x1.toNatClampNeg)
  refine ok_lt fun v_1 e_v_1 => ?_
  have b_v_1 : 0 ≤ v_1.toInt ∧ v_1.toInt ≤ 255 := by rw [e_v_1]; exact gX_6 hB _
  refine ok_ix ⟨by omega, by omega⟩ ?_
  have g_2 := gX_7 hB (x1.toNatClampNeg)
  refine ok_lt fun v_2 e_v_2 => ?_
  have b_v_2 : 0 ≤ v_2.toInt ∧ v_2.toInt ≤ 999 := by rw [e_v_2]; exact gX_7 hB _
  have V := hLV.1 x1.toNatClampNeg (by have := clamp_I (x := x1) (by omega); omega)
  rw [← e_v_1, ← e_v_2] at V
  have z5 : v_1.toInt = 108 ∨ v_1.toInt = 115 → v_2.toInt ≤ 5 := V.1.1
  have zE : v_1.toInt = 103 ∨ v_1.toInt = 122 → v_2.toInt < (σ.1 4 0).toInt := V.2.1
  refine ok_jnI1 (fun (s_3 : Sto) => True ∧ (BX s_3) ∧ (FR [78, 79, 81, 82, 84, 85, 86, 88, 89, 90, 92] [] σ s_3) ∧ ((s_3.1 4 0).toInt = (σ.1 4 0).toInt)) ?_ ?_
  · intro s_3 hJ
    obtain ⟨-, hB_s_3, hF_s_3, j4⟩ := hJ
    have g_4 := gX_4 hB_s_3 0
    have g_5 : (s_3.1 4 0).toInt = (σ.1 4 0).toInt := by rw [hF_s_3.1 4 (by decide)]
    have g_6 := gX_4 hB 0
    obtain ⟨t_7, ht_7, g_7⟩ : ∃ t : Int, (x1 + 1).toInt = t ∧ t = x1.toInt + (1 : Int32).toInt := ⟨_, rfl, by have h9 := fb_addI (x := x1) (y := (1 : Int32)) (by omega) (by omega); exact h9⟩
    refine ok_ite (fun c_3 => ?_) (fun c_3 => ?_)
    · rw [fa_le, ht_7] at c_3
      exact ok_ret ⟨(by (try dsimp only); omega), hB_s_3, hF_s_3, (fun h => by (try dsimp only at h); (try dsimp only); omega)⟩
    · rw [fa_le, ht_7] at c_3
      exact ok_ret ⟨(by (try dsimp only); rw [ht_7]; omega), hB_s_3, hF_s_3, (fun h => by (try dsimp only at h); (try dsimp only); omega)⟩
  · intro k_243 hk_k_243
    refine ok_ite (fun c_8 => ?_) (fun c_8 => ?_)
    · have c_8 := c_8
      refine ok_cals (s_X5_shuffle (x1 := v_1) (σ := σ) hB (by omega)) (fun s_6 h_9 => ?_)
      obtain ⟨hB_s_6, hG_s_6⟩ := h_9
      (try dsimp only at hB_s_6 hG_s_6)
      have hF_s_6 : FR [78, 79, 81, 82, 84, 85, 86, 88, 89, 90, 92] [] σ s_6 := FR.cal hF hG_s_6 rfl rfl
      have w_s_6_84 : (s_6.1 84 0).toInt = (σ.1 84 0).toInt := by rw [hG_s_6.1 84 (by decide)]
      have f_s_6_4 : (s_6.1 4 0).toInt = (σ.1 4 0).toInt := by rw [hF_s_6.1 4 (by decide)]
      have hLV_s_6 : LV s_6 := LV.fr hG_s_6 (by decide) hLV
      exact hk_k_243 s_6 ⟨trivial, hB_s_6, hF_s_6, (by omega)⟩
    · have c_8 := c_8
      refine ok_ite (fun c_10 => ?_) (fun c_10 => ?_)
      · have c_10 := c_10
        exact ok_ret ⟨(by (try dsimp only); omega), hB, hF, (fun h => by (try dsimp only at h); (try dsimp only); omega)⟩
      · have c_10 := c_10
        refine ok_ite (fun c_11 => ?_) (fun c_11 => ?_)
        · have c_11 := c_11
          refine ok_calv (s_X5_draw  (σ := σ) hB) (fun v_7 s_7 h_12 => ?_)
          obtain ⟨b_v_7, hB_s_7, hG_s_7⟩ := h_12
          (try dsimp only at b_v_7 hB_s_7 hG_s_7)
          have hF_s_7 : FR [78, 79, 81, 82, 84, 85, 86, 88, 89, 90, 92] [] σ s_7 := FR.cal hF hG_s_7 rfl rfl
          have w_s_7_84 : (s_7.1 84 0).toInt = (σ.1 84 0).toInt := by rw [hG_s_7.1 84 (by decide)]
          have f_s_7_4 : (s_7.1 4 0).toInt = (σ.1 4 0).toInt := by rw [hF_s_7.1 4 (by decide)]
          have hLV_s_7 : LV s_7 := LV.fr hG_s_7 (by decide) hLV
          refine ok_cals (s_X5_push (x1 := v_7) (σ := s_7) hB_s_7) (fun s_8 h_13 => ?_)
          obtain ⟨hB_s_8, hG_s_8⟩ := h_13
          (try dsimp only at hB_s_8 hG_s_8)
          have hF_s_8 : FR [78, 79, 81, 82, 84, 85, 86, 88, 89, 90, 92] [] σ s_8 := FR.cal hF_s_7 hG_s_8 rfl rfl
          have w_s_8_84 : (s_8.1 84 0).toInt = (s_7.1 84 0).toInt := by rw [hG_s_8.1 84 (by decide)]
          have f_s_8_4 : (s_8.1 4 0).toInt = (σ.1 4 0).toInt := by rw [hF_s_8.1 4 (by decide)]
          have hLV_s_8 : LV s_8 := LV.fr hG_s_8 (by decide) hLV_s_7
          exact hk_k_243 s_8 ⟨trivial, hB_s_8, hF_s_8, (by omega)⟩
        · have c_11 := c_11
          refine ok_ite (fun c_14 => ?_) (fun c_14 => ?_)
          · have c_14 := c_14
            refine ok_cals (s_X5_push (x1 := v_2) (σ := σ) hB) (fun s_9 h_15 => ?_)
            obtain ⟨hB_s_9, hG_s_9⟩ := h_15
            (try dsimp only at hB_s_9 hG_s_9)
            have hF_s_9 : FR [78, 79, 81, 82, 84, 85, 86, 88, 89, 90, 92] [] σ s_9 := FR.cal hF hG_s_9 rfl rfl
            have w_s_9_84 : (s_9.1 84 0).toInt = (σ.1 84 0).toInt := by rw [hG_s_9.1 84 (by decide)]
            have f_s_9_4 : (s_9.1 4 0).toInt = (σ.1 4 0).toInt := by rw [hF_s_9.1 4 (by decide)]
            have hLV_s_9 : LV s_9 := LV.fr hG_s_9 (by decide) hLV
            exact hk_k_243 s_9 ⟨trivial, hB_s_9, hF_s_9, (by omega)⟩
          · have c_14 := c_14
            refine ok_ite (fun c_16 => ?_) (fun c_16 => ?_)
            · have c_16 := c_16
              refine ok_ix ⟨by omega, by omega⟩ ?_
              refine ok_lt fun v_10 e_v_10 => ?_
              refine ok_cals (s_X5_push (x1 := v_10) (σ := σ) hB) (fun s_11 h_17 => ?_)
              obtain ⟨hB_s_11, hG_s_11⟩ := h_17
              (try dsimp only at hB_s_11 hG_s_11)
              have hF_s_11 : FR [78, 79, 81, 82, 84, 85, 86, 88, 89, 90, 92] [] σ s_11 := FR.cal hF hG_s_11 rfl rfl
              have w_s_11_84 : (s_11.1 84 0).toInt = (σ.1 84 0).toInt := by rw [hG_s_11.1 84 (by decide)]
              have f_s_11_4 : (s_11.1 4 0).toInt = (σ.1 4 0).toInt := by rw [hF_s_11.1 4 (by decide)]
              have hLV_s_11 : LV s_11 := LV.fr hG_s_11 (by decide) hLV
              exact hk_k_243 s_11 ⟨trivial, hB_s_11, hF_s_11, (by omega)⟩
            · have c_16 := c_16
              refine ok_ite (fun c_18 => ?_) (fun c_18 => ?_)
              · have c_18 := c_18
                refine ok_calv (s_X5_pop  (σ := σ) hB) (fun v_12 s_12 h_19 => ?_)
                obtain ⟨b_v_12, hB_s_12, hG_s_12⟩ := h_19
                (try dsimp only at b_v_12 hB_s_12 hG_s_12)
                have hF_s_12 : FR [78, 79, 81, 82, 84, 85, 86, 88, 89, 90, 92] [] σ s_12 := FR.cal hF hG_s_12 rfl rfl
                have w_s_12_84 : (s_12.1 84 0).toInt = (σ.1 84 0).toInt := by rw [hG_s_12.1 84 (by decide)]
                have f_s_12_4 : (s_12.1 4 0).toInt = (σ.1 4 0).toInt := by rw [hF_s_12.1 4 (by decide)]
                have hLV_s_12 : LV s_12 := LV.fr hG_s_12 (by decide) hLV
                refine ok_cals (s_X5_tellOut (x1 := v_12) (σ := s_12) hB_s_12) (fun s_13 h_20 => ?_)
                obtain ⟨hB_s_13, hG_s_13⟩ := h_20
                (try dsimp only at hB_s_13 hG_s_13)
                have hF_s_13 : FR [78, 79, 81, 82, 84, 85, 86, 88, 89, 90, 92] [] σ s_13 := FR.cal hF_s_12 hG_s_13 rfl rfl
                have w_s_13_84 : (s_13.1 84 0).toInt = (s_12.1 84 0).toInt := by rw [hG_s_13.1 84 (by decide)]
                have f_s_13_4 : (s_13.1 4 0).toInt = (σ.1 4 0).toInt := by rw [hF_s_13.1 4 (by decide)]
                have hLV_s_13 : LV s_13 := LV.fr hG_s_13 (by decide) hLV_s_12
                exact hk_k_243 s_13 ⟨trivial, hB_s_13, hF_s_13, (by omega)⟩
              · have c_18 := c_18
                refine ok_ite (fun c_21 => ?_) (fun c_21 => ?_)
                · have c_21 := c_21
                  refine ok_calv (s_X5_pop  (σ := σ) hB) (fun v_14 s_14 h_22 => ?_)
                  obtain ⟨b_v_14, hB_s_14, hG_s_14⟩ := h_22
                  (try dsimp only at b_v_14 hB_s_14 hG_s_14)
                  have hF_s_14 : FR [78, 79, 81, 82, 84, 85, 86, 88, 89, 90, 92] [] σ s_14 := FR.cal hF hG_s_14 rfl rfl
                  have w_s_14_84 : (s_14.1 84 0).toInt = (σ.1 84 0).toInt := by rw [hG_s_14.1 84 (by decide)]
                  have f_s_14_4 : (s_14.1 4 0).toInt = (σ.1 4 0).toInt := by rw [hF_s_14.1 4 (by decide)]
                  have hLV_s_14 : LV s_14 := LV.fr hG_s_14 (by decide) hLV
                  exact hk_k_243 s_14 ⟨trivial, hB_s_14, hF_s_14, (by omega)⟩
                · have c_21 := c_21
                  refine ok_ite (fun c_23 => ?_) (fun c_23 => ?_)
                  · have c_23 := c_23
                    exact ok_ret ⟨(by (try dsimp only); omega), hB, hF, (fun h => by (try dsimp only at h); (try dsimp only); omega)⟩
                  · have c_23 := c_23
                    refine ok_ite (fun c_24 => ?_) (fun c_24 => ?_)
                    · have c_24 := c_24
                      refine ok_calv (s_X5_pop  (σ := σ) hB) (fun v_15 s_15 h_25 => ?_)
                      obtain ⟨b_v_15, hB_s_15, hG_s_15⟩ := h_25
                      (try dsimp only at b_v_15 hB_s_15 hG_s_15)
                      have hF_s_15 : FR [78, 79, 81, 82, 84, 85, 86, 88, 89, 90, 92] [] σ s_15 := FR.cal hF hG_s_15 rfl rfl
                      have w_s_15_84 : (s_15.1 84 0).toInt = (σ.1 84 0).toInt := by rw [hG_s_15.1 84 (by decide)]
                      have f_s_15_4 : (s_15.1 4 0).toInt = (σ.1 4 0).toInt := by rw [hF_s_15.1 4 (by decide)]
                      have hLV_s_15 : LV s_15 := LV.fr hG_s_15 (by decide) hLV
                      refine ok_ix ⟨by omega, by omega⟩ ?_
                      refine ok_lt fun s_16 e_s_16 => ?_
                      have hB_s_16 : BX s_16 := by rw [e_s_16]; exact pX_78 hB_s_15 (tI_rng _)
                      have hF_s_16 : FR [78, 79, 81, 82, 84, 85, 86, 88, 89, 90, 92] [] σ s_16 := by rw [e_s_16]; exact FR.st hF_s_15 (by decide)
                      have w_s_16_84 : (s_16.1 84 0).toInt = (s_15.1 84 0).toInt := by rw [e_s_16]; rfl
                      have f_s_16_4 : (s_16.1 4 0).toInt = (σ.1 4 0).toInt := by rw [hF_s_16.1 4 (by decide)]
                      have hLV_s_16 : LV s_16 := by rw [e_s_16]; exact LV.st1 (by decide) hLV_s_15
                      exact hk_k_243 s_16 ⟨trivial, hB_s_16, hF_s_16, (by omega)⟩
                    · have c_24 := c_24
                      refine ok_ite (fun c_26 => ?_) (fun c_26 => ?_)
                      · have c_26 := c_26
                        refine ok_calv (s_X5_pop  (σ := σ) hB) (fun v_17 s_17 h_27 => ?_)
                        obtain ⟨b_v_17, hB_s_17, hG_s_17⟩ := h_27
                        (try dsimp only at b_v_17 hB_s_17 hG_s_17)
                        have hF_s_17 : FR [78, 79, 81, 82, 84, 85, 86, 88, 89, 90, 92] [] σ s_17 := FR.cal hF hG_s_17 rfl rfl
                        have w_s_17_84 : (s_17.1 84 0).toInt = (σ.1 84 0).toInt := by rw [hG_s_17.1 84 (by decide)]
                        have f_s_17_4 : (s_17.1 4 0).toInt = (σ.1 4 0).toInt := by rw [hF_s_17.1 4 (by decide)]
                        have hLV_s_17 : LV s_17 := LV.fr hG_s_17 (by decide) hLV
                        refine ok_calv (s_X5_throwFrom (x1 := x1) (x2 := v_17) (σ := s_17) hB_s_17 hLV_s_17 (by omega)) (fun v_18 s_18 h_28 => ?_)
                        obtain ⟨b_v_18, hB_s_18, hG_s_18, x_s_18⟩ := h_28
                        (try dsimp only at b_v_18 hB_s_18 hG_s_18 x_s_18)
                        have hF_s_18 : FR [78, 79, 81, 82, 84, 85, 86, 88, 89, 90, 92] [] σ s_18 := FR.cal hF_s_17 hG_s_18 rfl rfl
                        have f_s_18_4 : (s_18.1 4 0).toInt = (σ.1 4 0).toInt := by rw [hF_s_18.1 4 (by decide)]
                        have hLV_s_18 : LV s_18 := LV.fr hG_s_18 (by decide) hLV_s_17
                        exact ok_ret ⟨(by (try dsimp only); omega), hB_s_18, hF_s_18, (fun h => by (try dsimp only at h); (try dsimp only); omega)⟩
                      · have c_26 := c_26
                        refine ok_ite (fun c_29 => ?_) (fun c_29 => ?_)
                        · have c_29 := c_29
                          refine ok_calv (s_X5_pop  (σ := σ) hB) (fun v_19 s_19 h_30 => ?_)
                          obtain ⟨b_v_19, hB_s_19, hG_s_19⟩ := h_30
                          (try dsimp only at b_v_19 hB_s_19 hG_s_19)
                          have hF_s_19 : FR [78, 79, 81, 82, 84, 85, 86, 88, 89, 90, 92] [] σ s_19 := FR.cal hF hG_s_19 rfl rfl
                          have w_s_19_84 : (s_19.1 84 0).toInt = (σ.1 84 0).toInt := by rw [hG_s_19.1 84 (by decide)]
                          have f_s_19_4 : (s_19.1 4 0).toInt = (σ.1 4 0).toInt := by rw [hF_s_19.1 4 (by decide)]
                          have hLV_s_19 : LV s_19 := LV.fr hG_s_19 (by decide) hLV
                          refine ok_ite (fun c_31 => ?_) (fun c_31 => ?_)
                          · rw [fa_eq] at c_31
                            exact ok_ret ⟨(by (try dsimp only); omega), hB_s_19, hF_s_19, (fun h => by (try dsimp only at h); (try dsimp only); omega)⟩
                          · rw [fa_eq] at c_31
                            exact hk_k_243 s_19 ⟨trivial, hB_s_19, hF_s_19, (by omega)⟩
                        · have c_29 := c_29
                          refine ok_cals (s_X5_operate (x1 := v_1) (σ := σ) hB (by omega)) (fun s_21 h_32 => ?_)
                          obtain ⟨hB_s_21, hG_s_21⟩ := h_32
                          (try dsimp only at hB_s_21 hG_s_21)
                          have hF_s_21 : FR [78, 79, 81, 82, 84, 85, 86, 88, 89, 90, 92] [] σ s_21 := FR.cal hF hG_s_21 rfl rfl
                          have f_s_21_4 : (s_21.1 4 0).toInt = (σ.1 4 0).toInt := by rw [hF_s_21.1 4 (by decide)]
                          have hLV_s_21 : LV s_21 := LV.fr hG_s_21 (by decide) hLV
                          have g_34 := gX_84 hB_s_21 0
                          refine ok_ite (fun c_33 => ?_) (fun c_33 => ?_)
                          · rw [fa_eq] at c_33
                            exact hk_k_243 s_21 ⟨trivial, hB_s_21, hF_s_21, (by omega)⟩
                          · rw [fa_eq] at c_33
                            refine ok_calv (s_X5_throwFrom (x1 := x1) (x2 := (99 : Int32)) (σ := s_21) hB_s_21 hLV_s_21 (by omega)) (fun v_23 s_23 h_35 => ?_)
                            obtain ⟨b_v_23, hB_s_23, hG_s_23, x_s_23⟩ := h_35
                            (try dsimp only at b_v_23 hB_s_23 hG_s_23 x_s_23)
                            have hF_s_23 : FR [78, 79, 81, 82, 84, 85, 86, 88, 89, 90, 92] [] σ s_23 := FR.cal hF_s_21 hG_s_23 rfl rfl
                            have f_s_23_4 : (s_23.1 4 0).toInt = (σ.1 4 0).toInt := by rw [hF_s_23.1 4 (by decide)]
                            have hLV_s_23 : LV s_23 := LV.fr hG_s_23 (by decide) hLV_s_21
                            exact ok_ret ⟨(by (try dsimp only); omega), hB_s_23, hF_s_23, (fun h => by (try dsimp only at h); (try dsimp only); omega)⟩

set_option maxHeartbeats 4000000 in
theorem s_X5_enter {σ : Sto} (hB : BX σ) : OK (f_X5_enter σ) (fun r => (0 ≤ r.1.toInt ∧ r.1.toInt ≤ 1) ∧ BX r.2 ∧ FR [86, 87] [] σ r.2) := by
  unfold f_X5_enter
  have hF : FR [86, 87] [] σ σ := FR.rf
  have k_0 : (0 : Int32).toInt = 0 := by decide +kernel
  have k_1 : (1 : Int32).toInt = 1 := by decide +kernel
  have k_2 : (2 : Int32).toInt = 2 := by decide +kernel
  refine ok_ite (fun c_1 => ?_) (fun c_1 => ?_)
  · rw [fa_eq] at c_1
    refine ok_lt fun s_2 e_s_2 => ?_
    have hB_s_2 : BX s_2 := by rw [e_s_2]; exact pX_86 hB (by omega)
    have hF_s_2 : FR [86, 87] [] σ s_2 := by rw [e_s_2]; exact FR.st hF (by decide)
    have w_s_2_87 : (s_2.1 87 0).toInt = (σ.1 87 0).toInt := by rw [e_s_2]; rfl
    exact ok_ret ⟨(by (try dsimp only); omega), hB_s_2, hF_s_2⟩
  · rw [fa_eq] at c_1
    obtain ⟨t_2, ht_2, g_2⟩ : ∃ t : Int, ((σ.1 87 0) + 1).toInt = t ∧ -2147483648 ≤ t ∧ t ≤ 2147483647 := ⟨_, rfl, tI_rng _⟩
    refine ok_lt fun s_3 e_s_3 => ?_
    have hB_s_3 : BX s_3 := by rw [e_s_3]; exact pX_87 hB (tI_rng _)
    have hF_s_3 : FR [86, 87] [] σ s_3 := by rw [e_s_3]; exact FR.st hF (by decide)
    have w_s_3_87 : (s_3.1 87 0).toInt = t_2 := by rw [e_s_3, sti_s, ht_2]
    exact ok_ret ⟨(by (try dsimp only); omega), hB_s_3, hF_s_3⟩

set_option maxHeartbeats 4000000 in
theorem s_X5_goThroughCode {σ : Sto} (hB : BX σ) (hLV : LV σ) (h4 : 1 ≤ (σ.1 4 0).toInt) : OK (f_X5_goThroughCode σ) (fun s => BX s ∧ FR [78, 79, 81, 82, 84, 85, 86, 87, 88, 89, 90, 92] [] σ s) := by
  unfold f_X5_goThroughCode
  have hF : FR [78, 79, 81, 82, 84, 85, 86, 87, 88, 89, 90, 92] [] σ σ := FR.rf
  have k_m1 : ((-1) : Int32).toInt = -1 := by decide +kernel
  have k_0 : (0 : Int32).toInt = 0 := by decide +kernel
  have k_1 : (1 : Int32).toInt = 1 := by decide +kernel
  have k_1000000 : (1000000 : Int32).toInt = 1000000 := by decide +kernel
  have g4 := gX_4 hB 0
  refine ok_itr3 (fun (n : Nat) (x1_1 : Int32) (x2_1 : Int32) (s_1 : Sto) => n = (1000001 - x2_1.toInt).toNat ∧ ((-1) ≤ x1_1.toInt ∧ x1_1.toInt ≤ 39) ∧ (0 ≤ x2_1.toInt ∧ x2_1.toInt ≤ 1000000) ∧ (BX s_1) ∧ (FR [78, 79, 81, 82, 84, 85, 86, 87, 88, 89, 90, 92] [] σ s_1) ∧ (LV s_1) ∧ (x1_1.toInt < (σ.1 4 0).toInt)) ?_ (n := _) ⟨rfl, (by omega), (by omega), hB, hF, hLV, (by omega)⟩ (show _ < 10000000 by omega)
  intro a_4 n x1_1 x2_1 s_1 hI ih_a_4
  obtain ⟨hn_a_4, b_x1_1, b_x2_1, hB_s_1, hF_s_1, hLV_s_1, hin⟩ := hI
  have f_s_1_4 : (s_1.1 4 0).toInt = (σ.1 4 0).toInt := by rw [hF_s_1.1 4 (by decide)]
  refine ok_ite (fun c_1 => ?_) (fun c_1 => ?_)
  · rw [fa_le] at c_1
    exact ok_ret ⟨hB_s_1, hF_s_1⟩
  · rw [fa_le] at c_1
    refine ok_ite (fun c_2 => ?_) (fun c_2 => ?_)
    · rw [fa_eq] at c_2
      exact ok_ret ⟨hB_s_1, hF_s_1⟩
    · rw [fa_eq] at c_2
      refine ok_ix ⟨by omega, by omega⟩ ?_
      have g_3 := gX_23 hB_s_1 (x1_1.toNatClampNeg)
      refine ok_lt fun v_4 e_v_4 => ?_
      have b_v_4 : (-1) ≤ v_4.toInt ∧ v_4.toInt ≤ 39 := by rw [e_v_4]; exact gX_23 hB_s_1 _
      refine ok_jn ?_
      refine ok_jn ?_
      refine ok_ite (fun c_4 => ?_) (fun c_4 => ?_)
      · rw [fa_eq] at c_4
        refine ok_jnI1 (fun (s_6 : Sto) => True ∧ (BX s_6) ∧ (FR [78, 79, 81, 82, 84, 85, 86, 87, 88, 89, 90, 92] [] σ s_6) ∧ (LV s_6) ∧ ((s_6.1 4 0).toInt = (σ.1 4 0).toInt)) ?_ ?_
        · intro s_6 hJ
          obtain ⟨-, hB_s_6, hF_s_6, hLV_s_6, j4⟩ := hJ
          refine ok_calv (s_X5_obey (x1 := x1_1) (σ := s_6) hB_s_6 hLV_s_6 (by omega) (by omega)) (fun v_7 s_7 h_5 => ?_)
          obtain ⟨b_v_7, hB_s_7, hG_s_7, x_s_7⟩ := h_5
          (try dsimp only at b_v_7 hB_s_7 hG_s_7 x_s_7)
          have hF_s_7 : FR [78, 79, 81, 82, 84, 85, 86, 87, 88, 89, 90, 92] [] σ s_7 := FR.cal hF_s_6 hG_s_7 rfl rfl
          have f_s_7_4 : (s_7.1 4 0).toInt = (σ.1 4 0).toInt := by rw [hF_s_7.1 4 (by decide)]
          have hLV_s_7 : LV s_7 := LV.fr hG_s_7 (by decide) hLV_s_6
          obtain ⟨t_6, ht_6, g_6⟩ : ∃ t : Int, (x2_1 + 1).toInt = t ∧ t = x2_1.toInt + (1 : Int32).toInt := ⟨_, rfl, by have h9 := fb_addI (x := x2_1) (y := (1 : Int32)) (by omega) (by omega); exact h9⟩
          refine ok_lt fun x2_8 e_x2_8 => ?_
          have q_x2_8 : x2_8.toInt = t_6 := by rw [e_x2_8]; exact ht_6
          exact ih_a_4 _ v_7 x2_8 s_7 (by rw [hn_a_4]; omega) ⟨rfl, (by omega), (by omega), hB_s_7, hF_s_7, hLV_s_7, (by omega)⟩
        · intro k_63 hk_k_63
          refine ok_ite (fun c_7 => ?_) (fun c_7 => ?_)
          · rw [fa_eq] at c_7
            exact hk_k_63 s_1 ⟨trivial, hB_s_1, hF_s_1, hLV_s_1, (by omega)⟩
          · rw [fa_eq] at c_7
            exfalso; omega
      · rw [fa_eq] at c_4
        refine ok_ix ⟨by omega, by omega⟩ ?_
        have g_8 := gX_21 hB_s_1 (v_4.toNatClampNeg)
        refine ok_lt fun v_14 e_v_14 => ?_
        have b_v_14 : 0 ≤ v_14.toInt ∧ v_14.toInt ≤ 39 := by rw [e_v_14]; exact gX_21 hB_s_1 _
        refine ok_ite (fun c_9 => ?_) (fun c_9 => ?_)
        · rw [fa_eq] at c_9
          refine ok_jnI1 (fun (s_6 : Sto) => True ∧ (BX s_6) ∧ (FR [78, 79, 81, 82, 84, 85, 86, 87, 88, 89, 90, 92] [] σ s_6) ∧ (LV s_6) ∧ ((s_6.1 4 0).toInt = (σ.1 4 0).toInt)) ?_ ?_
          · intro s_6 hJ
            obtain ⟨-, hB_s_6, hF_s_6, hLV_s_6, j4⟩ := hJ
            refine ok_calv (s_X5_obey (x1 := x1_1) (σ := s_6) hB_s_6 hLV_s_6 (by omega) (by omega)) (fun v_7 s_7 h_10 => ?_)
            obtain ⟨b_v_7, hB_s_7, hG_s_7, x_s_7⟩ := h_10
            (try dsimp only at b_v_7 hB_s_7 hG_s_7 x_s_7)
            have hF_s_7 : FR [78, 79, 81, 82, 84, 85, 86, 87, 88, 89, 90, 92] [] σ s_7 := FR.cal hF_s_6 hG_s_7 rfl rfl
            have f_s_7_4 : (s_7.1 4 0).toInt = (σ.1 4 0).toInt := by rw [hF_s_7.1 4 (by decide)]
            have hLV_s_7 : LV s_7 := LV.fr hG_s_7 (by decide) hLV_s_6
            obtain ⟨t_11, ht_11, g_11⟩ : ∃ t : Int, (x2_1 + 1).toInt = t ∧ t = x2_1.toInt + (1 : Int32).toInt := ⟨_, rfl, by have h9 := fb_addI (x := x2_1) (y := (1 : Int32)) (by omega) (by omega); exact h9⟩
            refine ok_lt fun x2_8 e_x2_8 => ?_
            have q_x2_8 : x2_8.toInt = t_11 := by rw [e_x2_8]; exact ht_11
            exact ih_a_4 _ v_7 x2_8 s_7 (by rw [hn_a_4]; omega) ⟨rfl, (by omega), (by omega), hB_s_7, hF_s_7, hLV_s_7, (by omega)⟩
          · intro k_63 hk_k_63
            refine ok_ite (fun c_12 => ?_) (fun c_12 => ?_)
            · rw [fa_eq] at c_12
              exfalso; omega
            · rw [fa_eq] at c_12
              refine ok_calv (s_X5_enter  (σ := s_1) hB_s_1) (fun v_10 s_10 h_13 => ?_)
              obtain ⟨b_v_10, hB_s_10, hG_s_10⟩ := h_13
              (try dsimp only at b_v_10 hB_s_10 hG_s_10)
              have hF_s_10 : FR [78, 79, 81, 82, 84, 85, 86, 87, 88, 89, 90, 92] [] σ s_10 := FR.cal hF_s_1 hG_s_10 rfl rfl
              have f_s_10_4 : (s_10.1 4 0).toInt = (σ.1 4 0).toInt := by rw [hF_s_10.1 4 (by decide)]
              have hLV_s_10 : LV s_10 := LV.fr hG_s_10 (by decide) hLV_s_1
              refine ok_ite (fun c_14 => ?_) (fun c_14 => ?_)
              · rw [fa_eq] at c_14
                exact ok_ret ⟨hB_s_10, hF_s_10⟩
              · rw [fa_eq] at c_14
                exact hk_k_63 s_10 ⟨trivial, hB_s_10, hF_s_10, hLV_s_10, (by omega)⟩
        · rw [fa_eq] at c_9
          refine ok_jnI1 (fun (s_6 : Sto) => True ∧ (BX s_6) ∧ (FR [78, 79, 81, 82, 84, 85, 86, 87, 88, 89, 90, 92] [] σ s_6) ∧ (LV s_6) ∧ ((s_6.1 4 0).toInt = (σ.1 4 0).toInt)) ?_ ?_
          · intro s_6 hJ
            obtain ⟨-, hB_s_6, hF_s_6, hLV_s_6, j4⟩ := hJ
            refine ok_calv (s_X5_obey (x1 := x1_1) (σ := s_6) hB_s_6 hLV_s_6 (by omega) (by omega)) (fun v_7 s_7 h_15 => ?_)
            obtain ⟨b_v_7, hB_s_7, hG_s_7, x_s_7⟩ := h_15
            (try dsimp only at b_v_7 hB_s_7 hG_s_7 x_s_7)
            have hF_s_7 : FR [78, 79, 81, 82, 84, 85, 86, 87, 88, 89, 90, 92] [] σ s_7 := FR.cal hF_s_6 hG_s_7 rfl rfl
            have f_s_7_4 : (s_7.1 4 0).toInt = (σ.1 4 0).toInt := by rw [hF_s_7.1 4 (by decide)]
            have hLV_s_7 : LV s_7 := LV.fr hG_s_7 (by decide) hLV_s_6
            obtain ⟨t_16, ht_16, g_16⟩ : ∃ t : Int, (x2_1 + 1).toInt = t ∧ t = x2_1.toInt + (1 : Int32).toInt := ⟨_, rfl, by have h9 := fb_addI (x := x2_1) (y := (1 : Int32)) (by omega) (by omega); exact h9⟩
            refine ok_lt fun x2_8 e_x2_8 => ?_
            have q_x2_8 : x2_8.toInt = t_16 := by rw [e_x2_8]; exact ht_16
            exact ih_a_4 _ v_7 x2_8 s_7 (by rw [hn_a_4]; omega) ⟨rfl, (by omega), (by omega), hB_s_7, hF_s_7, hLV_s_7, (by omega)⟩
          · intro k_63 hk_k_63
            refine ok_ite (fun c_17 => ?_) (fun c_17 => ?_)
            · rw [fa_eq] at c_17
              exact hk_k_63 s_1 ⟨trivial, hB_s_1, hF_s_1, hLV_s_1, (by omega)⟩
            · rw [fa_eq] at c_17
              exfalso; omega

set_option maxHeartbeats 4000000 in
theorem sd_X5_value : ∀ d : Nat, ∀ {x1 : Int32} {x2 : Int32} {σ : Sto} (hB : BX σ) (hPI : PI σ) (p_x1 : (-1) ≤ x1.toInt ∧ x1.toInt ≤ 511) (p_x2 : 0 ≤ x2.toInt ∧ x2.toInt ≤ 61), (63 - x2.toInt).toNat ≤ d → OK (f_X5_value d x1 x2 σ) (fun r => True ∧ BX r.2 ∧ FR [82, 84, 88] [] σ r.2) := by
  intro d
  induction d with
  | zero => intro x1 x2 σ hB hPI p_x1 p_x2 hmu; omega
  | succ d ih =>
  intro x1 x2 σ hB hPI p_x1 p_x2 hmu
  show OK (b_X5_value (f_X5_value d) x1 x2 σ) _
  unfold b_X5_value
  have hF : FR [82, 84, 88] [] σ σ := FR.rf
  have k_m1 : ((-1) : Int32).toInt = -1 := by decide +kernel
  have k_0 : (0 : Int32).toInt = 0 := by decide +kernel
  have k_1 : (1 : Int32).toInt = 1 := by decide +kernel
  have k_60 : (60 : Int32).toInt = 60 := by decide +kernel
  have k_84 : (84 : Int32).toInt = 84 := by decide +kernel
  have k_88 : (88 : Int32).toInt = 88 := by decide +kernel
  have k_105 : (105 : Int32).toInt = 105 := by decide +kernel
  have k_107 : (107 : Int32).toInt = 107 := by decide +kernel
  have k_108 : (108 : Int32).toInt = 108 := by decide +kernel
  refine ok_ite (fun c_1 => ?_) (fun c_1 => ?_)
  · rw [fa_eq] at c_1
    exact ok_ret ⟨trivial, hB, hF⟩
  · rw [fa_eq] at c_1
    refine ok_ite (fun c_2 => ?_) (fun c_2 => ?_)
    · rw [fa_lt] at c_2
      exact ok_ret ⟨trivial, hB, hF⟩
    · rw [fa_lt] at c_2
      have g_4 := gX_84 hB 0
      refine ok_ite (fun c_3 => ?_) (fun c_3 => ?_)
      · rw [fa_eq] at c_3
        refine ok_ix ⟨by omega, by omega⟩ ?_
        have g_5 := gX_47 hB (x1.toNatClampNeg)
        refine ok_lt fun v_4 e_v_4 => ?_
        have b_v_4 : 0 ≤ v_4.toInt ∧ v_4.toInt ≤ 255 := by rw [e_v_4]; exact gX_47 hB _
        refine ok_ix ⟨by omega, by omega⟩ ?_
        have g_6 := gX_48 hB (x1.toNatClampNeg)
        refine ok_lt fun v_5 e_v_5 => ?_
        have b_v_5 : 0 ≤ v_5.toInt ∧ v_5.toInt ≤ 999 := by rw [e_v_5]; exact gX_48 hB _
        have y1 : v_4.toInt ≠ 107 → v_5.toInt ≤ 511 := by rw [e_v_4, e_v_5]; exact (hPI _).1
        have y2 : v_4.toInt = 108 → v_5.toInt ≤ 5 := by rw [e_v_4, e_v_5]; exact (hPI _).2.1
        have y3 : v_4.toInt = 84 → v_5.toInt ≤ 5 := by rw [e_v_4, e_v_5]; exact (hPI _).2.2.1
        have y4 : v_4.toInt = 88 → v_5.toInt ≤ 160 := by rw [e_v_4, e_v_5]; exact (hPI _).2.2.2.1
        refine ok_ite (fun c_7 => ?_) (fun c_7 => ?_)
        · have c_7 := c_7
          refine ok_ix ⟨by omega, by omega⟩ ?_
          refine ok_lt fun v_7 e_v_7 => ?_
          exact ok_ret ⟨trivial, hB, hF⟩
        · have c_7 := c_7
          refine ok_ite (fun c_8 => ?_) (fun c_8 => ?_)
          · have c_8 := c_8
            refine ok_ix ⟨by omega, by omega⟩ ?_
            refine ok_lt fun v_8 e_v_8 => ?_
            exact ok_ret ⟨trivial, hB, hF⟩
          · have c_8 := c_8
            refine ok_ite (fun c_9 => ?_) (fun c_9 => ?_)
            · have c_9 := c_9
              refine ok_calv (s_X5_draw  (σ := σ) hB) (fun v_9 s_9 h_10 => ?_)
              obtain ⟨b_v_9, hB_s_9, hG_s_9⟩ := h_10
              (try dsimp only at b_v_9 hB_s_9 hG_s_9)
              have hF_s_9 : FR [82, 84, 88] [] σ s_9 := FR.cal hF hG_s_9 rfl rfl
              have w_s_9_84 : (s_9.1 84 0).toInt = (σ.1 84 0).toInt := by rw [hG_s_9.1 84 (by decide)]
              have hPI_s_9 : PI s_9 := PI.fr hG_s_9 (by decide) hPI
              exact ok_ret ⟨trivial, hB_s_9, hF_s_9⟩
            · have c_9 := c_9
              refine ok_ite (fun c_11 => ?_) (fun c_11 => ?_)
              · have c_11 := c_11
                exact ok_ret ⟨trivial, hB, hF⟩
              · have c_11 := c_11
                refine ok_ite (fun c_12 => ?_) (fun c_12 => ?_)
                · have c_12 := c_12
                  refine ok_ix ⟨by omega, by omega⟩ ?_
                  refine ok_lt fun v_10 e_v_10 => ?_
                  exact ok_ret ⟨trivial, hB, hF⟩
                · have c_12 := c_12
                  obtain ⟨t_13, ht_13, g_13⟩ : ∃ t : Int, (x2 + 1).toInt = t ∧ t = x2.toInt + (1 : Int32).toInt := ⟨_, rfl, by have h9 := fb_addI (x := x2) (y := (1 : Int32)) (by omega) (by omega); exact h9⟩
                  refine ok_calv (ih (x1 := v_5) (x2 := (x2 + 1)) (σ := σ) hB hPI (by omega) (by rw [ht_13]; omega) (by rw [ht_13]; omega)) (fun v_11 s_11 h_14 => ?_)
                  obtain ⟨b_v_11, hB_s_11, hG_s_11⟩ := h_14
                  (try dsimp only at b_v_11 hB_s_11 hG_s_11)
                  have hF_s_11 : FR [82, 84, 88] [] σ s_11 := FR.cal hF hG_s_11 rfl rfl
                  have hPI_s_11 : PI s_11 := PI.fr hG_s_11 (by decide) hPI
                  refine ok_calp (s_X11_isBinary (x1 := v_4) ) (fun v_12 h_15 => ?_)
                  obtain ⟨b_v_12, x_v_12⟩ := h_15
                  (try dsimp only at b_v_12 x_v_12)
                  refine ok_jn ?_
                  refine ok_ite (fun c_16 => ?_) (fun c_16 => ?_)
                  · rw [fa_eq] at c_16
                    refine ok_jn ?_
                    refine ok_jn ?_
                    have g_18 := gX_84 hB_s_11 0
                    refine ok_ite (fun c_17 => ?_) (fun c_17 => ?_)
                    · rw [fa_eq] at c_17
                      refine ok_calp (s_X11_dividesByZero (x1 := v_4) (x2 := (0 : Int32)) (by omega)) (fun v_21 h_19 => ?_)
                      have b_v_21 := h_19
                      (try dsimp only at b_v_21)
                      refine ok_ite (fun c_20 => ?_) (fun c_20 => ?_)
                      · rw [fa_eq] at c_20
                        refine ok_bz (by rw [fa_eq, fa_eq]; omega) ?_
                        refine ok_lt fun s_15 e_s_15 => ?_
                        have hB_s_15 : BX s_15 := by rw [e_s_15]; exact pX_84 hB_s_11 (by omega)
                        have hF_s_15 : FR [82, 84, 88] [] σ s_15 := by rw [e_s_15]; exact FR.st hF_s_11 (by decide)
                        have w_s_15_84 : (s_15.1 84 0).toInt = (0 : Int32).toInt := by rw [e_s_15, sti_s]
                        have hPI_s_15 : PI s_15 := by rw [e_s_15]; exact PI.st1 (by decide) hPI_s_11
                        have g_22 := gX_84 hB_s_15 0
                        refine ok_ite (fun c_21 => ?_) (fun c_21 => ?_)
                        · rw [fa_eq] at c_21
                          refine ok_calp (s_X11_outcome (x1 := v_4) (x2 := v_11) (x3 := (0 : Int32)) (by omega)) (fun v_18 h_23 => ?_)
                          have b_v_18 := h_23
                          (try dsimp only at b_v_18)
                          exact ok_ret ⟨trivial, hB_s_15, hF_s_15⟩
                        · rw [fa_eq] at c_21
                          exfalso; omega
                      · rw [fa_eq] at c_20
                        refine ok_bz (by rw [fa_eq, fa_eq]; omega) ?_
                        refine ok_lt fun s_15 e_s_15 => ?_
                        have hB_s_15 : BX s_15 := by rw [e_s_15]; exact pX_84 hB_s_11 (by omega)
                        have hF_s_15 : FR [82, 84, 88] [] σ s_15 := by rw [e_s_15]; exact FR.st hF_s_11 (by decide)
                        have w_s_15_84 : (s_15.1 84 0).toInt = (1 : Int32).toInt := by rw [e_s_15, sti_s]
                        have hPI_s_15 : PI s_15 := by rw [e_s_15]; exact PI.st1 (by decide) hPI_s_11
                        have g_25 := gX_84 hB_s_15 0
                        refine ok_ite (fun c_24 => ?_) (fun c_24 => ?_)
                        · rw [fa_eq] at c_24
                          exfalso; omega
                        · rw [fa_eq] at c_24
                          exact ok_ret ⟨trivial, hB_s_15, hF_s_15⟩
                    · rw [fa_eq] at c_17
                      refine ok_bz (by rw [fa_eq, fa_eq]; omega) ?_
                      refine ok_lt fun s_15 e_s_15 => ?_
                      have hB_s_15 : BX s_15 := by rw [e_s_15]; exact pX_84 hB_s_11 (by omega)
                      have hF_s_15 : FR [82, 84, 88] [] σ s_15 := by rw [e_s_15]; exact FR.st hF_s_11 (by decide)
                      have w_s_15_84 : (s_15.1 84 0).toInt = (1 : Int32).toInt := by rw [e_s_15, sti_s]
                      have hPI_s_15 : PI s_15 := by rw [e_s_15]; exact PI.st1 (by decide) hPI_s_11
                      have g_27 := gX_84 hB_s_15 0
                      refine ok_ite (fun c_26 => ?_) (fun c_26 => ?_)
                      · rw [fa_eq] at c_26
                        exfalso; omega
                      · rw [fa_eq] at c_26
                        exact ok_ret ⟨trivial, hB_s_15, hF_s_15⟩
                  · rw [fa_eq] at c_16
                    refine ok_ix ⟨by omega, by omega⟩ ?_
                    have g_28 := gX_49 hB_s_11 (x1.toNatClampNeg)
                    refine ok_lt fun v_24 e_v_24 => ?_
                    have b_v_24 : 0 ≤ v_24.toInt ∧ v_24.toInt ≤ 511 := by rw [e_v_24]; exact gX_49 hB_s_11 _
                    refine ok_calv (ih (x1 := v_24) (x2 := (x2 + 1)) (σ := s_11) hB_s_11 hPI_s_11 (by omega) (by rw [ht_13]; omega) (by rw [ht_13]; omega)) (fun v_25 s_25 h_29 => ?_)
                    obtain ⟨b_v_25, hB_s_25, hG_s_25⟩ := h_29
                    (try dsimp only at b_v_25 hB_s_25 hG_s_25)
                    have hF_s_25 : FR [82, 84, 88] [] σ s_25 := FR.cal hF_s_11 hG_s_25 rfl rfl
                    have hPI_s_25 : PI s_25 := PI.fr hG_s_25 (by decide) hPI_s_11
                    refine ok_jn ?_
                    refine ok_jn ?_
                    have g_31 := gX_84 hB_s_25 0
                    refine ok_ite (fun c_30 => ?_) (fun c_30 => ?_)
                    · rw [fa_eq] at c_30
                      refine ok_calp (s_X11_dividesByZero (x1 := v_4) (x2 := v_25) (by omega)) (fun v_21 h_32 => ?_)
                      have b_v_21 := h_32
                      (try dsimp only at b_v_21)
                      refine ok_ite (fun c_33 => ?_) (fun c_33 => ?_)
                      · rw [fa_eq] at c_33
                        refine ok_bz (by rw [fa_eq, fa_eq]; omega) ?_
                        refine ok_lt fun s_15 e_s_15 => ?_
                        have hB_s_15 : BX s_15 := by rw [e_s_15]; exact pX_84 hB_s_25 (by omega)
                        have hF_s_15 : FR [82, 84, 88] [] σ s_15 := by rw [e_s_15]; exact FR.st hF_s_25 (by decide)
                        have w_s_15_84 : (s_15.1 84 0).toInt = (0 : Int32).toInt := by rw [e_s_15, sti_s]
                        have hPI_s_15 : PI s_15 := by rw [e_s_15]; exact PI.st1 (by decide) hPI_s_25
                        have g_35 := gX_84 hB_s_15 0
                        refine ok_ite (fun c_34 => ?_) (fun c_34 => ?_)
                        · rw [fa_eq] at c_34
                          refine ok_calp (s_X11_outcome (x1 := v_4) (x2 := v_11) (x3 := v_25) (by omega)) (fun v_18 h_36 => ?_)
                          have b_v_18 := h_36
                          (try dsimp only at b_v_18)
                          exact ok_ret ⟨trivial, hB_s_15, hF_s_15⟩
                        · rw [fa_eq] at c_34
                          exfalso; omega
                      · rw [fa_eq] at c_33
                        refine ok_bz (by rw [fa_eq, fa_eq]; omega) ?_
                        refine ok_lt fun s_15 e_s_15 => ?_
                        have hB_s_15 : BX s_15 := by rw [e_s_15]; exact pX_84 hB_s_25 (by omega)
                        have hF_s_15 : FR [82, 84, 88] [] σ s_15 := by rw [e_s_15]; exact FR.st hF_s_25 (by decide)
                        have w_s_15_84 : (s_15.1 84 0).toInt = (1 : Int32).toInt := by rw [e_s_15, sti_s]
                        have hPI_s_15 : PI s_15 := by rw [e_s_15]; exact PI.st1 (by decide) hPI_s_25
                        have g_38 := gX_84 hB_s_15 0
                        refine ok_ite (fun c_37 => ?_) (fun c_37 => ?_)
                        · rw [fa_eq] at c_37
                          exfalso; omega
                        · rw [fa_eq] at c_37
                          exact ok_ret ⟨trivial, hB_s_15, hF_s_15⟩
                    · rw [fa_eq] at c_30
                      refine ok_bz (by rw [fa_eq, fa_eq]; omega) ?_
                      refine ok_lt fun s_15 e_s_15 => ?_
                      have hB_s_15 : BX s_15 := by rw [e_s_15]; exact pX_84 hB_s_25 (by omega)
                      have hF_s_15 : FR [82, 84, 88] [] σ s_15 := by rw [e_s_15]; exact FR.st hF_s_25 (by decide)
                      have w_s_15_84 : (s_15.1 84 0).toInt = (1 : Int32).toInt := by rw [e_s_15, sti_s]
                      have hPI_s_15 : PI s_15 := by rw [e_s_15]; exact PI.st1 (by decide) hPI_s_25
                      have g_40 := gX_84 hB_s_15 0
                      refine ok_ite (fun c_39 => ?_) (fun c_39 => ?_)
                      · rw [fa_eq] at c_39
                        exfalso; omega
                      · rw [fa_eq] at c_39
                        exact ok_ret ⟨trivial, hB_s_15, hF_s_15⟩
      · rw [fa_eq] at c_3
        exact ok_ret ⟨trivial, hB, hF⟩
theorem s_X5_value {x1 : Int32} {x2 : Int32} {σ : Sto} (hB : BX σ) (hPI : PI σ) (p_x1 : (-1) ≤ x1.toInt ∧ x1.toInt ≤ 511) (p_x2 : 0 ≤ x2.toInt ∧ x2.toInt ≤ 61) (hmu : (63 - x2.toInt).toNat ≤ 250) : OK (f_X5_value 250 x1 x2 σ) (fun r => True ∧ BX r.2 ∧ FR [82, 84, 88] [] σ r.2) := sd_X5_value 250 hB hPI p_x1 p_x2 hmu

theorem s_X2_whereCaught {x1 : Int32} {σ : Sto} (hB : BX σ) (p_x1 : 0 ≤ x1.toInt ∧ x1.toInt ≤ 39) : OK (f_X2_whereCaught x1 σ) (fun v => (0 ≤ v.toInt ∧ v.toInt ≤ 800)) := sorry
set_option maxHeartbeats 4000000 in
theorem s_X5_catchIn {x1 : Int32} {x2 : Int32} {σ : Sto} (hB : BX σ) (p_x1 : 0 ≤ x1.toInt ∧ x1.toInt ≤ 39) : OK (f_X5_catchIn x1 x2 σ) (fun r => ((-1) ≤ r.1.toInt ∧ r.1.toInt ≤ 800) ∧ BX r.2 ∧ FR [79, 84, 85, 86] [] σ r.2) := by
  unfold f_X5_catchIn
  have hF : FR [79, 84, 85, 86] [] σ σ := FR.rf
  have k_m1 : ((-1) : Int32).toInt = -1 := by decide +kernel
  have k_0 : (0 : Int32).toInt = 0 := by decide +kernel
  refine ok_ix ⟨by omega, by omega⟩ ?_
  have g_1 := gX_26 hB (x1.toNatClampNeg)
  refine ok_lt fun v_1 e_v_1 => ?_
  have b_v_1 : (-1) ≤ v_1.toInt ∧ v_1.toInt ≤ 39 := by rw [e_v_1]; exact gX_26 hB _
  refine ok_ite (fun c_2 => ?_) (fun c_2 => ?_)
  · rw [fa_eq] at c_2
    refine ok_cals (s_X5_throwOut (x1 := x2) (σ := σ) hB) (fun s_3 h_3 => ?_)
    obtain ⟨hB_s_3, hG_s_3⟩ := h_3
    (try dsimp only at hB_s_3 hG_s_3)
    have hF_s_3 : FR [79, 84, 85, 86] [] σ s_3 := FR.cal hF hG_s_3 rfl rfl
    exact ok_ret ⟨(by (try dsimp only); omega), hB_s_3, hF_s_3⟩
  · rw [fa_eq] at c_2
    refine ok_lt fun s_4 e_s_4 => ?_
    have hB_s_4 : BX s_4 := by rw [e_s_4]; exact pX_84 hB (by omega)
    have hF_s_4 : FR [79, 84, 85, 86] [] σ s_4 := by rw [e_s_4]; exact FR.st hF (by decide)
    refine ok_ix ⟨by omega, by omega⟩ ?_
    refine ok_lt fun s_5 e_s_5 => ?_
    have hB_s_5 : BX s_5 := by rw [e_s_5]; exact pX_79 hB_s_4 (tI_rng _)
    have hF_s_5 : FR [79, 84, 85, 86] [] σ s_5 := by rw [e_s_5]; exact FR.st hF_s_4 (by decide)
    refine ok_calp (s_X2_whereCaught (x1 := x1) (σ := s_5) hB_s_5 (by omega)) (fun v_6 h_4 => ?_)
    have b_v_6 := h_4
    (try dsimp only at b_v_6)
    exact ok_ret ⟨(by (try dsimp only); omega), hB_s_5, hF_s_5⟩

set_option maxHeartbeats 4000000 in
theorem s_X5_perform {x1 : Int32} {x2 : Int32} {x3 : Int32} {σ : Sto} (hB : BX σ) (hPI : PI σ) (hSI : SI σ) (p_x1 : 0 ≤ x1.toInt ∧ x1.toInt ≤ 319) (p_x2 : 0 ≤ x2.toInt ∧ x2.toInt ≤ 39) (p_x3 : 0 ≤ x3.toInt ∧ x3.toInt ≤ 799) : OK (f_X5_perform x1 x2 x3 σ) (fun r => ((-1) ≤ r.1.toInt ∧ r.1.toInt ≤ 800) ∧ BX r.2 ∧ FR [78, 79, 80, 82, 84, 85, 86, 88, 89, 90, 92] [] σ r.2) := by
  unfold f_X5_perform
  have hF : FR [78, 79, 80, 82, 84, 85, 86, 88, 89, 90, 92] [] σ σ := FR.rf
  have k_m1 : ((-1) : Int32).toInt = -1 := by decide +kernel
  have k_0 : (0 : Int32).toInt = 0 := by decide +kernel
  have k_1 : (1 : Int32).toInt = 1 := by decide +kernel
  have k_2 : (2 : Int32).toInt = 2 := by decide +kernel
  have k_3 : (3 : Int32).toInt = 3 := by decide +kernel
  have k_5 : (5 : Int32).toInt = 5 := by decide +kernel
  have k_6 : (6 : Int32).toInt = 6 := by decide +kernel
  have k_99 : (99 : Int32).toInt = 99 := by decide +kernel
  refine ok_ix ⟨by omega, by omega⟩ ?_
  have g_1 := gX_53 hB (x1.toNatClampNeg)
  refine ok_lt fun v_1 e_v_1 => ?_
  have b_v_1 : 0 ≤ v_1.toInt ∧ v_1.toInt ≤ 6 := by rw [e_v_1]; exact gX_53 hB _
  refine ok_ite (fun c_2 => ?_) (fun c_2 => ?_)
  · rw [fa_eq] at c_2
    exact ok_ret ⟨(by (try dsimp only); omega), hB, hF⟩
  · rw [fa_eq] at c_2
    refine ok_ix ⟨by omega, by omega⟩ ?_
    have g_3 := gX_55 hB (x1.toNatClampNeg)
    refine ok_lt fun v_3 e_v_3 => ?_
    have b_v_3 : (-1) ≤ v_3.toInt ∧ v_3.toInt ≤ 511 := by rw [e_v_3]; exact gX_55 hB _
    refine ok_calv (s_X5_value (x1 := v_3) (x2 := (0 : Int32)) (σ := σ) hB hPI (by omega) (by omega) (by omega)) (fun v_4 s_4 h_4 => ?_)
    obtain ⟨b_v_4, hB_s_4, hG_s_4⟩ := h_4
    (try dsimp only at b_v_4 hB_s_4 hG_s_4)
    have hF_s_4 : FR [78, 79, 80, 82, 84, 85, 86, 88, 89, 90, 92] [] σ s_4 := FR.cal hF hG_s_4 rfl rfl
    have hPI_s_4 : PI s_4 := PI.fr hG_s_4 (by decide) hPI
    have hSI_s_4 : SI s_4 := SI.fr hG_s_4 (by decide) hSI
    refine ok_jn ?_
    have g_6 := gX_84 hB_s_4 0
    refine ok_ite (fun c_5 => ?_) (fun c_5 => ?_)
    · rw [fa_eq] at c_5
      refine ok_ite (fun c_7 => ?_) (fun c_7 => ?_)
      · rw [fa_eq] at c_7
        refine ok_ite (fun c_8 => ?_) (fun c_8 => ?_)
        · rw [fa_eq] at c_8
          refine ok_calv (s_X5_catchIn (x1 := x2) (x2 := v_4) (σ := s_4) hB_s_4 (by omega)) (fun v_7 s_7 h_9 => ?_)
          obtain ⟨b_v_7, hB_s_7, hG_s_7⟩ := h_9
          (try dsimp only at b_v_7 hB_s_7 hG_s_7)
          have hF_s_7 : FR [78, 79, 80, 82, 84, 85, 86, 88, 89, 90, 92] [] σ s_7 := FR.cal hF_s_4 hG_s_7 rfl rfl
          have hPI_s_7 : PI s_7 := PI.fr hG_s_7 (by decide) hPI_s_4
          have hSI_s_7 : SI s_7 := SI.fr hG_s_7 (by decide) hSI_s_4
          exact ok_ret ⟨(by (try dsimp only); omega), hB_s_7, hF_s_7⟩
        · rw [fa_eq] at c_8
          exfalso; omega
      · rw [fa_eq] at c_7
        refine ok_ix ⟨by omega, by omega⟩ ?_
        have g_10 := gX_54 hB_s_4 (x1.toNatClampNeg)
        refine ok_lt fun v_11 e_v_11 => ?_
        have b_v_11 : (-1) ≤ v_11.toInt ∧ v_11.toInt ≤ 160 := by rw [e_v_11]; exact gX_54 hB_s_4 _
        have z1 : v_11.toInt = (σ.1 54 x1.toNatClampNeg).toInt := by rw [e_v_11, hF_s_4.1 54 (by decide)]
        have y1 : v_1.toInt = 0 → 0 ≤ v_11.toInt ∧ v_11.toInt ≤ 5 := by rw [e_v_1, z1]; exact (hSI _).1
        have y2 : v_1.toInt = 1 → 0 ≤ v_11.toInt ∧ v_11.toInt ≤ 5 := by rw [e_v_1, z1]; exact (hSI _).2.1
        have y3 : v_1.toInt = 2 → 0 ≤ v_11.toInt := by rw [e_v_1, z1]; exact (hSI _).2.2.1
        refine ok_jn ?_
        refine ok_ite (fun c_11 => ?_) (fun c_11 => ?_)
        · have c_11 := c_11
          refine ok_ix ⟨by omega, by omega⟩ ?_
          refine ok_lt fun s_14 e_s_14 => ?_
          have hB_s_14 : BX s_14 := by rw [e_s_14]; exact pX_78 hB_s_4 (tI_rng _)
          have hF_s_14 : FR [78, 79, 80, 82, 84, 85, 86, 88, 89, 90, 92] [] σ s_14 := by rw [e_s_14]; exact FR.st hF_s_4 (by decide)
          have w_s_14_84 : (s_14.1 84 0).toInt = (s_4.1 84 0).toInt := by rw [e_s_14]; rfl
          have hPI_s_14 : PI s_14 := by rw [e_s_14]; exact PI.st1 (by decide) hPI_s_4
          have hSI_s_14 : SI s_14 := by rw [e_s_14]; exact SI.st1 (by decide) hSI_s_4
          obtain ⟨t_12, ht_12, g_12⟩ : ∃ t : Int, (x3 + 1).toInt = t ∧ t = x3.toInt + (1 : Int32).toInt := ⟨_, rfl, by have h9 := fb_addI (x := x3) (y := (1 : Int32)) (by omega) (by omega); exact h9⟩
          exact ok_ret ⟨(by (try dsimp only); rw [ht_12]; omega), hB_s_14, hF_s_14⟩
        · have c_11 := c_11
          refine ok_ite (fun c_13 => ?_) (fun c_13 => ?_)
          · have c_13 := c_13
            refine ok_ix ⟨by omega, by omega⟩ ?_
            refine ok_lt fun s_15 e_s_15 => ?_
            have hB_s_15 : BX s_15 := by rw [e_s_15]; exact pX_79 hB_s_4 (tI_rng _)
            have hF_s_15 : FR [78, 79, 80, 82, 84, 85, 86, 88, 89, 90, 92] [] σ s_15 := by rw [e_s_15]; exact FR.st hF_s_4 (by decide)
            have w_s_15_84 : (s_15.1 84 0).toInt = (s_4.1 84 0).toInt := by rw [e_s_15]; rfl
            have hPI_s_15 : PI s_15 := by rw [e_s_15]; exact PI.st1 (by decide) hPI_s_4
            have hSI_s_15 : SI s_15 := by rw [e_s_15]; exact SI.st1 (by decide) hSI_s_4
            obtain ⟨t_14, ht_14, g_14⟩ : ∃ t : Int, (x3 + 1).toInt = t ∧ t = x3.toInt + (1 : Int32).toInt := ⟨_, rfl, by have h9 := fb_addI (x := x3) (y := (1 : Int32)) (by omega) (by omega); exact h9⟩
            exact ok_ret ⟨(by (try dsimp only); rw [ht_14]; omega), hB_s_15, hF_s_15⟩
          · have c_13 := c_13
            refine ok_ite (fun c_15 => ?_) (fun c_15 => ?_)
            · have c_15 := c_15
              refine ok_ix ⟨by omega, by omega⟩ ?_
              refine ok_lt fun s_16 e_s_16 => ?_
              have hB_s_16 : BX s_16 := by rw [e_s_16]; exact pX_80 hB_s_4 (tI_rng _)
              have hF_s_16 : FR [78, 79, 80, 82, 84, 85, 86, 88, 89, 90, 92] [] σ s_16 := by rw [e_s_16]; exact FR.st hF_s_4 (by decide)
              have w_s_16_84 : (s_16.1 84 0).toInt = (s_4.1 84 0).toInt := by rw [e_s_16]; rfl
              have hPI_s_16 : PI s_16 := by rw [e_s_16]; exact PI.st1 (by decide) hPI_s_4
              have hSI_s_16 : SI s_16 := by rw [e_s_16]; exact SI.st1 (by decide) hSI_s_4
              obtain ⟨t_16, ht_16, g_16⟩ : ∃ t : Int, (x3 + 1).toInt = t ∧ t = x3.toInt + (1 : Int32).toInt := ⟨_, rfl, by have h9 := fb_addI (x := x3) (y := (1 : Int32)) (by omega) (by omega); exact h9⟩
              exact ok_ret ⟨(by (try dsimp only); rw [ht_16]; omega), hB_s_16, hF_s_16⟩
            · have c_15 := c_15
              refine ok_ite (fun c_17 => ?_) (fun c_17 => ?_)
              · have c_17 := c_17
                refine ok_cals (s_X5_tellOut (x1 := v_4) (σ := s_4) hB_s_4) (fun s_17 h_18 => ?_)
                obtain ⟨hB_s_17, hG_s_17⟩ := h_18
                (try dsimp only at hB_s_17 hG_s_17)
                have hF_s_17 : FR [78, 79, 80, 82, 84, 85, 86, 88, 89, 90, 92] [] σ s_17 := FR.cal hF_s_4 hG_s_17 rfl rfl
                have w_s_17_84 : (s_17.1 84 0).toInt = (s_4.1 84 0).toInt := by rw [hG_s_17.1 84 (by decide)]
                have hPI_s_17 : PI s_17 := PI.fr hG_s_17 (by decide) hPI_s_4
                have hSI_s_17 : SI s_17 := SI.fr hG_s_17 (by decide) hSI_s_4
                obtain ⟨t_19, ht_19, g_19⟩ : ∃ t : Int, (x3 + 1).toInt = t ∧ t = x3.toInt + (1 : Int32).toInt := ⟨_, rfl, by have h9 := fb_addI (x := x3) (y := (1 : Int32)) (by omega) (by omega); exact h9⟩
                exact ok_ret ⟨(by (try dsimp only); rw [ht_19]; omega), hB_s_17, hF_s_17⟩
              · have c_17 := c_17
                obtain ⟨t_20, ht_20, g_20⟩ : ∃ t : Int, (x3 + 1).toInt = t ∧ t = x3.toInt + (1 : Int32).toInt := ⟨_, rfl, by have h9 := fb_addI (x := x3) (y := (1 : Int32)) (by omega) (by omega); exact h9⟩
                exact ok_ret ⟨(by (try dsimp only); rw [ht_20]; omega), hB_s_4, hF_s_4⟩
    · rw [fa_eq] at c_5
      refine ok_ite (fun c_21 => ?_) (fun c_21 => ?_)
      · rw [fa_eq] at c_21
        exfalso; omega
      · rw [fa_eq] at c_21
        refine ok_calv (s_X5_catchIn (x1 := x2) (x2 := (99 : Int32)) (σ := s_4) hB_s_4 (by omega)) (fun v_8 s_8 h_22 => ?_)
        obtain ⟨b_v_8, hB_s_8, hG_s_8⟩ := h_22
        (try dsimp only at b_v_8 hB_s_8 hG_s_8)
        have hF_s_8 : FR [78, 79, 80, 82, 84, 85, 86, 88, 89, 90, 92] [] σ s_8 := FR.cal hF_s_4 hG_s_8 rfl rfl
        have hPI_s_8 : PI s_8 := PI.fr hG_s_8 (by decide) hPI_s_4
        have hSI_s_8 : SI s_8 := SI.fr hG_s_8 (by decide) hSI_s_4
        exact ok_ret ⟨(by (try dsimp only); omega), hB_s_8, hF_s_8⟩

set_option maxHeartbeats 4000000 in
theorem s_X5_follow {x1 : Int32} {σ : Sto} (hB : BX σ) (hPI : PI σ) (hSI : SI σ) (hLI : LI σ) (p_x1 : 0 ≤ x1.toInt ∧ x1.toInt ≤ 799) : OK (f_X5_follow x1 σ) (fun r => ((-1) ≤ r.1.toInt ∧ r.1.toInt ≤ 800) ∧ BX r.2 ∧ FR [78, 79, 80, 82, 84, 85, 86, 88, 89, 90, 92] [] σ r.2) := by
  unfold f_X5_follow
  have hF : FR [78, 79, 80, 82, 84, 85, 86, 88, 89, 90, 92] [] σ σ := FR.rf
  have k_0 : (0 : Int32).toInt = 0 := by decide +kernel
  have k_1 : (1 : Int32).toInt = 1 := by decide +kernel
  have k_3 : (3 : Int32).toInt = 3 := by decide +kernel
  have k_4 : (4 : Int32).toInt = 4 := by decide +kernel
  have k_6 : (6 : Int32).toInt = 6 := by decide +kernel
  have k_7 : (7 : Int32).toInt = 7 := by decide +kernel
  have k_8 : (8 : Int32).toInt = 8 := by decide +kernel
  refine ok_ix ⟨by omega, by omega⟩ ?_
  have g_1 := gX_70 hB (x1.toNatClampNeg)
  refine ok_lt fun v_1 e_v_1 => ?_
  have b_v_1 : 0 ≤ v_1.toInt ∧ v_1.toInt ≤ 39 := by rw [e_v_1]; exact gX_70 hB _
  refine ok_ix ⟨by omega, by omega⟩ ?_
  have g_2 := gX_69 hB (x1.toNatClampNeg)
  refine ok_lt fun v_2 e_v_2 => ?_
  have b_v_2 : 0 ≤ v_2.toInt ∧ v_2.toInt ≤ 12 := by rw [e_v_2]; exact gX_69 hB _
  refine ok_ite (fun c_3 => ?_) (fun c_3 => ?_)
  · have c_3 := c_3
    refine ok_ix ⟨by omega, by omega⟩ ?_
    have g_4 := gX_72 hB (x1.toNatClampNeg)
    refine ok_lt fun v_4 e_v_4 => ?_
    have b_v_4 : (-1) ≤ v_4.toInt ∧ v_4.toInt ≤ 799 := by rw [e_v_4]; exact gX_72 hB _
    have q_v_4 : v_4.toInt = (σ.1 72 x1.toNatClampNeg).toInt := by rw [e_v_4]
    have y1 : 0 ≤ v_4.toInt ∧ v_4.toInt ≤ 319 := by rw [e_v_4]; exact hLI _ (by rw [← e_v_2]; omega)
    refine ok_calv (s_X5_perform (x1 := v_4) (x2 := v_1) (x3 := x1) (σ := σ) hB hPI hSI (by omega) (by omega) (by omega)) (fun v_5 s_5 h_5 => ?_)
    obtain ⟨b_v_5, hB_s_5, hG_s_5⟩ := h_5
    (try dsimp only at b_v_5 hB_s_5 hG_s_5)
    have hF_s_5 : FR [78, 79, 80, 82, 84, 85, 86, 88, 89, 90, 92] [] σ s_5 := FR.cal hF hG_s_5 rfl rfl
    have hPI_s_5 : PI s_5 := PI.fr hG_s_5 (by decide) hPI
    have hSI_s_5 : SI s_5 := SI.fr hG_s_5 (by decide) hSI
    have hLI_s_5 : LI s_5 := LI.fr hG_s_5 (by decide) hLI
    exact ok_ret ⟨(by (try dsimp only); omega), hB_s_5, hF_s_5⟩
  · have c_3 := c_3
    refine ok_ite (fun c_6 => ?_) (fun c_6 => ?_)
    · have c_6 := c_6
      refine ok_ix ⟨by omega, by omega⟩ ?_
      have g_7 := gX_57 hB (v_1.toNatClampNeg)
      refine ok_lt fun v_6 e_v_6 => ?_
      have b_v_6 : (-1) ≤ v_6.toInt ∧ v_6.toInt ≤ 511 := by rw [e_v_6]; exact gX_57 hB _
      refine ok_calv (s_X5_value (x1 := v_6) (x2 := (0 : Int32)) (σ := σ) hB hPI (by omega) (by omega) (by omega)) (fun v_7 s_7 h_8 => ?_)
      obtain ⟨b_v_7, hB_s_7, hG_s_7⟩ := h_8
      (try dsimp only at b_v_7 hB_s_7 hG_s_7)
      have hF_s_7 : FR [78, 79, 80, 82, 84, 85, 86, 88, 89, 90, 92] [] σ s_7 := FR.cal hF hG_s_7 rfl rfl
      have hPI_s_7 : PI s_7 := PI.fr hG_s_7 (by decide) hPI
      have hSI_s_7 : SI s_7 := SI.fr hG_s_7 (by decide) hSI
      have hLI_s_7 : LI s_7 := LI.fr hG_s_7 (by decide) hLI
      refine ok_ite (fun c_9 => ?_) (fun c_9 => ?_)
      · rw [fa_eq] at c_9
        refine ok_ix ⟨by omega, by omega⟩ ?_
        have g_10 := gX_72 hB_s_7 (x1.toNatClampNeg)
        refine ok_lt fun v_9 e_v_9 => ?_
        have b_v_9 : (-1) ≤ v_9.toInt ∧ v_9.toInt ≤ 799 := by rw [e_v_9]; exact gX_72 hB_s_7 _
        have q_v_9 : v_9.toInt = (σ.1 72 (x1.toNatClampNeg)).toInt := by rw [e_v_9, hF_s_7.1 72 (by decide)]
        obtain ⟨t_11, ht_11, g_11⟩ : ∃ t : Int, (v_9 + 1).toInt = t ∧ t = v_9.toInt + (1 : Int32).toInt := ⟨_, rfl, by have h9 := fb_addI (x := v_9) (y := (1 : Int32)) (by omega) (by omega); exact h9⟩
        exact ok_ret ⟨(by (try dsimp only); rw [ht_11]; omega), hB_s_7, hF_s_7⟩
      · rw [fa_eq] at c_9
        obtain ⟨t_12, ht_12, g_12⟩ : ∃ t : Int, (x1 + 1).toInt = t ∧ t = x1.toInt + (1 : Int32).toInt := ⟨_, rfl, by have h9 := fb_addI (x := x1) (y := (1 : Int32)) (by omega) (by omega); exact h9⟩
        exact ok_ret ⟨(by (try dsimp only); rw [ht_12]; omega), hB_s_7, hF_s_7⟩
    · have c_6 := c_6
      refine ok_ite (fun c_13 => ?_) (fun c_13 => ?_)
      · have c_13 := c_13
        refine ok_ix ⟨by omega, by omega⟩ ?_
        have g_14 := gX_72 hB (x1.toNatClampNeg)
        refine ok_lt fun v_10 e_v_10 => ?_
        have b_v_10 : (-1) ≤ v_10.toInt ∧ v_10.toInt ≤ 799 := by rw [e_v_10]; exact gX_72 hB _
        have q_v_10 : v_10.toInt = (σ.1 72 x1.toNatClampNeg).toInt := by rw [e_v_10]
        obtain ⟨t_15, ht_15, g_15⟩ : ∃ t : Int, (v_10 + 1).toInt = t ∧ t = v_10.toInt + (1 : Int32).toInt := ⟨_, rfl, by have h9 := fb_addI (x := v_10) (y := (1 : Int32)) (by omega) (by omega); exact h9⟩
        exact ok_ret ⟨(by (try dsimp only); rw [ht_15]; omega), hB, hF⟩
      · have c_13 := c_13
        refine ok_ite (fun c_16 => ?_) (fun c_16 => ?_)
        · have c_16 := c_16
          refine ok_ix ⟨by omega, by omega⟩ ?_
          have g_17 := gX_75 hB (v_1.toNatClampNeg)
          refine ok_lt fun v_11 e_v_11 => ?_
          have b_v_11 : 0 ≤ v_11.toInt ∧ v_11.toInt ≤ 799 := by rw [e_v_11]; exact gX_75 hB _
          obtain ⟨t_18, ht_18, g_18⟩ : ∃ t : Int, (v_11 + 1).toInt = t ∧ t = v_11.toInt + (1 : Int32).toInt := ⟨_, rfl, by have h9 := fb_addI (x := v_11) (y := (1 : Int32)) (by omega) (by omega); exact h9⟩
          exact ok_ret ⟨(by (try dsimp only); rw [ht_18]; omega), hB, hF⟩
        · have c_16 := c_16
          refine ok_ite (fun c_19 => ?_) (fun c_19 => ?_)
          · have c_19 := c_19
            refine ok_ix ⟨by omega, by omega⟩ ?_
            have g_20 := gX_74 hB (v_1.toNatClampNeg)
            refine ok_lt fun v_12 e_v_12 => ?_
            have b_v_12 : 0 ≤ v_12.toInt ∧ v_12.toInt ≤ 799 := by rw [e_v_12]; exact gX_74 hB _
            exact ok_ret ⟨(by (try dsimp only); omega), hB, hF⟩
          · have c_19 := c_19
            refine ok_ite (fun c_21 => ?_) (fun c_21 => ?_)
            · have c_21 := c_21
              refine ok_ix ⟨by omega, by omega⟩ ?_
              have g_22 := gX_73 hB (v_1.toNatClampNeg)
              refine ok_lt fun v_13 e_v_13 => ?_
              have b_v_13 : 0 ≤ v_13.toInt ∧ v_13.toInt ≤ 799 := by rw [e_v_13]; exact gX_73 hB _
              exact ok_ret ⟨(by (try dsimp only); omega), hB, hF⟩
            · have c_21 := c_21
              obtain ⟨t_23, ht_23, g_23⟩ : ∃ t : Int, (x1 + 1).toInt = t ∧ t = x1.toInt + (1 : Int32).toInt := ⟨_, rfl, by have h9 := fb_addI (x := x1) (y := (1 : Int32)) (by omega) (by omega); exact h9⟩
              exact ok_ret ⟨(by (try dsimp only); rw [ht_23]; omega), hB, hF⟩

set_option maxHeartbeats 4000000 in
theorem s_X5_goThroughLines {σ : Sto} (hB : BX σ) (hPI : PI σ) (hSI : SI σ) (hLI : LI σ) : OK (f_X5_goThroughLines σ) (fun s => BX s ∧ FR [78, 79, 80, 82, 84, 85, 86, 87, 88, 89, 90, 92] [] σ s) := by
  unfold f_X5_goThroughLines
  have hF : FR [78, 79, 80, 82, 84, 85, 86, 87, 88, 89, 90, 92] [] σ σ := FR.rf
  have k_0 : (0 : Int32).toInt = 0 := by decide +kernel
  have k_1 : (1 : Int32).toInt = 1 := by decide +kernel
  have k_11 : (11 : Int32).toInt = 11 := by decide +kernel
  have k_1000000 : (1000000 : Int32).toInt = 1000000 := by decide +kernel
  refine ok_itr3 (fun (n : Nat) (x1_1 : Int32) (x2_1 : Int32) (s_1 : Sto) => n = (1000001 - x2_1.toInt).toNat ∧ ((-1) ≤ x1_1.toInt ∧ x1_1.toInt ≤ 800) ∧ (0 ≤ x2_1.toInt ∧ x2_1.toInt ≤ 1000000) ∧ (BX s_1) ∧ (FR [78, 79, 80, 82, 84, 85, 86, 87, 88, 89, 90, 92] [] σ s_1) ∧ (PI s_1) ∧ (SI s_1) ∧ (LI s_1)) ?_ (n := _) ⟨rfl, (by omega), (by omega), hB, hF, hPI, hSI, hLI⟩ (show _ < 10000000 by omega)
  intro a_4 n x1_1 x2_1 s_1 hI ih_a_4
  obtain ⟨hn_a_4, b_x1_1, b_x2_1, hB_s_1, hF_s_1, hPI_s_1, hSI_s_1, hLI_s_1⟩ := hI
  refine ok_ite (fun c_1 => ?_) (fun c_1 => ?_)
  · rw [fa_le] at c_1
    exact ok_ret ⟨hB_s_1, hF_s_1⟩
  · rw [fa_le] at c_1
    refine ok_ite (fun c_2 => ?_) (fun c_2 => ?_)
    · rw [fa_lt] at c_2
      exact ok_ret ⟨hB_s_1, hF_s_1⟩
    · rw [fa_lt] at c_2
      have g_4 := gX_68 hB_s_1 0
      have g_5 : (s_1.1 68 0).toInt = (σ.1 68 0).toInt := by rw [hF_s_1.1 68 (by decide)]
      have g_6 := gX_68 hB 0
      refine ok_ite (fun c_3 => ?_) (fun c_3 => ?_)
      · rw [fa_le] at c_3
        exact ok_ret ⟨hB_s_1, hF_s_1⟩
      · rw [fa_le] at c_3
        refine ok_ix ⟨by omega, by omega⟩ ?_
        have g_7 := gX_69 hB_s_1 (x1_1.toNatClampNeg)
        refine ok_lt fun v_5 e_v_5 => ?_
        have b_v_5 : 0 ≤ v_5.toInt ∧ v_5.toInt ≤ 12 := by rw [e_v_5]; exact gX_69 hB_s_1 _
        refine ok_jn ?_
        refine ok_ite (fun c_8 => ?_) (fun c_8 => ?_)
        · rw [fa_eq] at c_8
          refine ok_calv (s_X5_enter  (σ := s_1) hB_s_1) (fun v_10 s_10 h_9 => ?_)
          obtain ⟨b_v_10, hB_s_10, hG_s_10⟩ := h_9
          (try dsimp only at b_v_10 hB_s_10 hG_s_10)
          have hF_s_10 : FR [78, 79, 80, 82, 84, 85, 86, 87, 88, 89, 90, 92] [] σ s_10 := FR.cal hF_s_1 hG_s_10 rfl rfl
          have hPI_s_10 : PI s_10 := PI.fr hG_s_10 (by decide) hPI_s_1
          have hSI_s_10 : SI s_10 := SI.fr hG_s_10 (by decide) hSI_s_1
          have hLI_s_10 : LI s_10 := LI.fr hG_s_10 (by decide) hLI_s_1
          refine ok_ite (fun c_10 => ?_) (fun c_10 => ?_)
          · rw [fa_eq] at c_10
            exact ok_ret ⟨hB_s_10, hF_s_10⟩
          · rw [fa_eq] at c_10
            refine ok_calv (s_X5_follow (x1 := x1_1) (σ := s_10) hB_s_10 hPI_s_10 hSI_s_10 hLI_s_10 (by omega)) (fun v_7 s_7 h_11 => ?_)
            obtain ⟨b_v_7, hB_s_7, hG_s_7⟩ := h_11
            (try dsimp only at b_v_7 hB_s_7 hG_s_7)
            have hF_s_7 : FR [78, 79, 80, 82, 84, 85, 86, 87, 88, 89, 90, 92] [] σ s_7 := FR.cal hF_s_10 hG_s_7 rfl rfl
            have hPI_s_7 : PI s_7 := PI.fr hG_s_7 (by decide) hPI_s_10
            have hSI_s_7 : SI s_7 := SI.fr hG_s_7 (by decide) hSI_s_10
            have hLI_s_7 : LI s_7 := LI.fr hG_s_7 (by decide) hLI_s_10
            obtain ⟨t_12, ht_12, g_12⟩ : ∃ t : Int, (x2_1 + 1).toInt = t ∧ t = x2_1.toInt + (1 : Int32).toInt := ⟨_, rfl, by have h9 := fb_addI (x := x2_1) (y := (1 : Int32)) (by omega) (by omega); exact h9⟩
            refine ok_lt fun x2_8 e_x2_8 => ?_
            have q_x2_8 : x2_8.toInt = t_12 := by rw [e_x2_8]; exact ht_12
            exact ih_a_4 _ v_7 x2_8 s_7 (by rw [hn_a_4]; omega) ⟨rfl, (by omega), (by omega), hB_s_7, hF_s_7, hPI_s_7, hSI_s_7, hLI_s_7⟩
        · rw [fa_eq] at c_8
          refine ok_calv (s_X5_follow (x1 := x1_1) (σ := s_1) hB_s_1 hPI_s_1 hSI_s_1 hLI_s_1 (by omega)) (fun v_7 s_7 h_13 => ?_)
          obtain ⟨b_v_7, hB_s_7, hG_s_7⟩ := h_13
          (try dsimp only at b_v_7 hB_s_7 hG_s_7)
          have hF_s_7 : FR [78, 79, 80, 82, 84, 85, 86, 87, 88, 89, 90, 92] [] σ s_7 := FR.cal hF_s_1 hG_s_7 rfl rfl
          have hPI_s_7 : PI s_7 := PI.fr hG_s_7 (by decide) hPI_s_1
          have hSI_s_7 : SI s_7 := SI.fr hG_s_7 (by decide) hSI_s_1
          have hLI_s_7 : LI s_7 := LI.fr hG_s_7 (by decide) hLI_s_1
          obtain ⟨t_14, ht_14, g_14⟩ : ∃ t : Int, (x2_1 + 1).toInt = t ∧ t = x2_1.toInt + (1 : Int32).toInt := ⟨_, rfl, by have h9 := fb_addI (x := x2_1) (y := (1 : Int32)) (by omega) (by omega); exact h9⟩
          refine ok_lt fun x2_8 e_x2_8 => ?_
          have q_x2_8 : x2_8.toInt = t_14 := by rw [e_x2_8]; exact ht_14
          exact ih_a_4 _ v_7 x2_8 s_7 (by rw [hn_a_4]; omega) ⟨rfl, (by omega), (by omega), hB_s_7, hF_s_7, hPI_s_7, hSI_s_7, hLI_s_7⟩

set_option maxHeartbeats 4000000 in
theorem s_X11_goThrough {x1 : Int32} {σ : Sto} (hB : BX σ) (hPI : PI σ) (hSI : SI σ) (hLI : LI σ) (hLV : LV σ) (h4 : 1 ≤ (σ.1 4 0).toInt) : OK (f_X11_goThrough x1 σ) (fun s => BX s ∧ FR [78, 79, 80, 81, 82, 84, 85, 86, 87, 88, 89, 90, 92] [] σ s) := by
  unfold f_X11_goThrough
  have hF : FR [78, 79, 80, 81, 82, 84, 85, 86, 87, 88, 89, 90, 92] [] σ σ := FR.rf
  have k_0 : (0 : Int32).toInt = 0 := by decide +kernel
  refine ok_ite (fun c_1 => ?_) (fun c_1 => ?_)
  · rw [fa_eq] at c_1
    refine ok_cals (s_X5_goThroughCode  (σ := σ) hB hLV (by omega)) (fun s_2 h_2 => ?_)
    obtain ⟨hB_s_2, hG_s_2⟩ := h_2
    (try dsimp only at hB_s_2 hG_s_2)
    have hF_s_2 : FR [78, 79, 80, 81, 82, 84, 85, 86, 87, 88, 89, 90, 92] [] σ s_2 := FR.cal hF hG_s_2 rfl rfl
    have hPI_s_2 : PI s_2 := PI.fr hG_s_2 (by decide) hPI
    have hSI_s_2 : SI s_2 := SI.fr hG_s_2 (by decide) hSI
    have hLI_s_2 : LI s_2 := LI.fr hG_s_2 (by decide) hLI
    have hLV_s_2 : LV s_2 := LV.fr hG_s_2 (by decide) hLV
    exact ok_ret ⟨hB_s_2, hF_s_2⟩
  · rw [fa_eq] at c_1
    refine ok_cals (s_X5_goThroughLines  (σ := σ) hB hPI hSI hLI) (fun s_3 h_3 => ?_)
    obtain ⟨hB_s_3, hG_s_3⟩ := h_3
    (try dsimp only at hB_s_3 hG_s_3)
    have hF_s_3 : FR [78, 79, 80, 81, 82, 84, 85, 86, 87, 88, 89, 90, 92] [] σ s_3 := FR.cal hF hG_s_3 rfl rfl
    have hPI_s_3 : PI s_3 := PI.fr hG_s_3 (by decide) hPI
    have hSI_s_3 : SI s_3 := SI.fr hG_s_3 (by decide) hSI
    have hLI_s_3 : LI s_3 := LI.fr hG_s_3 (by decide) hLI
    have hLV_s_3 : LV s_3 := LV.fr hG_s_3 (by decide) hLV
    exact ok_ret ⟨hB_s_3, hF_s_3⟩

set_option maxHeartbeats 4000000 in
theorem s_X11_run {x1 : Int32} {x2 : Int32} {x3 : Int32} {x4 : Int32} {x5 : Int32} {x6 : Int32} {σ : Sto} (hB : BX σ) (hPI : PI σ) (hSI : SI σ) (hLI : LI σ) (hQV : QV σ) : OK (f_X11_run x1 x2 x3 x4 x5 x6 σ) (fun r => True ∧ BX r.2 ∧ FR [78, 79, 80, 81, 82, 83, 84, 85, 86, 87, 88, 89, 90, 91, 92] [] σ r.2) := by
  unfold f_X11_run
  have hF : FR [78, 79, 80, 81, 82, 83, 84, 85, 86, 87, 88, 89, 90, 91, 92] [] σ σ := FR.rf
  have k_m1000000 : ((-1000000) : Int32).toInt = -1000000 := by decide +kernel
  have k_m1 : ((-1) : Int32).toInt = -1 := by decide +kernel
  have k_0 : (0 : Int32).toInt = 0 := by decide +kernel
  have k_1 : (1 : Int32).toInt = 1 := by decide +kernel
  have k_2 : (2 : Int32).toInt = 2 := by decide +kernel
  have k_3 : (3 : Int32).toInt = 3 := by decide +kernel
  have k_4 : (4 : Int32).toInt = 4 := by decide +kernel
  have k_5 : (5 : Int32).toInt = 5 := by decide +kernel
  have k_11 : (11 : Int32).toInt = 11 := by decide +kernel
  refine ok_calp (s_X11_canRun (x1 := x1) (x2 := x5) (σ := σ) hB) (fun v_1 h_1 => ?_)
  obtain ⟨b_v_1, x_v_1⟩ := h_1
  (try dsimp only at b_v_1 x_v_1)
  refine ok_ite (fun c_2 => ?_) (fun c_2 => ?_)
  · rw [fa_eq] at c_2
    exact ok_ret ⟨trivial, hB, hF⟩
  · rw [fa_eq] at c_2
    have hq := hQV (x_v_1 (by omega))
    have hq1 := hq.1
    have hLV_0 : LV σ := hq.2
    refine ok_ite (fun c_3 => ?_) (fun c_3 => ?_)
    · rw [fa_lt] at c_3
      exact ok_ret ⟨trivial, hB, hF⟩
    · rw [fa_lt] at c_3
      refine ok_ite (fun c_4 => ?_) (fun c_4 => ?_)
      · rw [fa_le] at c_4
        refine ok_cals (s_X5_begin (x1 := x2) (x2 := x3) (x3 := x4) (x4 := x5) (x5 := ((-1) : Int32)) (σ := σ) hB (by omega)) (fun s_5 h_5 => ?_)
        obtain ⟨hB_s_5, hG_s_5⟩ := h_5
        (try dsimp only at hB_s_5 hG_s_5)
        have hF_s_5 : FR [78, 79, 80, 81, 82, 83, 84, 85, 86, 87, 88, 89, 90, 91, 92] [] σ s_5 := FR.cal hF hG_s_5 rfl rfl
        have f_s_5_4 : (s_5.1 4 0).toInt = (σ.1 4 0).toInt := by rw [hF_s_5.1 4 (by decide)]
        have hPI_s_5 : PI s_5 := PI.fr hG_s_5 (by decide) hPI
        have hSI_s_5 : SI s_5 := SI.fr hG_s_5 (by decide) hSI
        have hLI_s_5 : LI s_5 := LI.fr hG_s_5 (by decide) hLI
        have hQV_s_5 : QV s_5 := QV.fr hG_s_5 (by decide) hQV
        have hLV_s_5 : LV s_5 := LV.fr hG_s_5 (by decide) hLV_0
        refine ok_cals (s_X11_goThrough (x1 := x1) (σ := s_5) hB_s_5 hPI_s_5 hSI_s_5 hLI_s_5 hLV_s_5 (by omega)) (fun s_6 h_6 => ?_)
        obtain ⟨hB_s_6, hG_s_6⟩ := h_6
        (try dsimp only at hB_s_6 hG_s_6)
        have hF_s_6 : FR [78, 79, 80, 81, 82, 83, 84, 85, 86, 87, 88, 89, 90, 91, 92] [] σ s_6 := FR.cal hF_s_5 hG_s_6 rfl rfl
        have f_s_6_4 : (s_6.1 4 0).toInt = (σ.1 4 0).toInt := by rw [hF_s_6.1 4 (by decide)]
        have hPI_s_6 : PI s_6 := PI.fr hG_s_6 (by decide) hPI_s_5
        have hSI_s_6 : SI s_6 := SI.fr hG_s_6 (by decide) hSI_s_5
        have hLI_s_6 : LI s_6 := LI.fr hG_s_6 (by decide) hLI_s_5
        have hQV_s_6 : QV s_6 := QV.fr hG_s_6 (by decide) hQV_s_5
        have hLV_s_6 : LV s_6 := LV.fr hG_s_6 (by decide) hLV_s_5
        refine ok_ite (fun c_7 => ?_) (fun c_7 => ?_)
        · have c_7 := c_7
          exact ok_ret ⟨trivial, hB_s_6, hF_s_6⟩
        · have c_7 := c_7
          refine ok_ite (fun c_8 => ?_) (fun c_8 => ?_)
          · have c_8 := c_8
            have g_9 := gX_86 hB_s_6 0
            exact ok_ret ⟨trivial, hB_s_6, hF_s_6⟩
          · have c_8 := c_8
            refine ok_ite (fun c_10 => ?_) (fun c_10 => ?_)
            · have c_10 := c_10
              have g_12 := gX_86 hB_s_6 0
              refine ok_ite (fun c_11 => ?_) (fun c_11 => ?_)
              · rw [fa_eq] at c_11
                exact ok_ret ⟨trivial, hB_s_6, hF_s_6⟩
              · rw [fa_eq] at c_11
                exact ok_ret ⟨trivial, hB_s_6, hF_s_6⟩
            · have c_10 := c_10
              refine ok_ite (fun c_13 => ?_) (fun c_13 => ?_)
              · have c_13 := c_13
                exact ok_ret ⟨trivial, hB_s_6, hF_s_6⟩
              · have c_13 := c_13
                refine ok_ite (fun c_14 => ?_) (fun c_14 => ?_)
                · have c_14 := c_14
                  exact ok_ret ⟨trivial, hB_s_6, hF_s_6⟩
                · have c_14 := c_14
                  refine ok_ite (fun c_15 => ?_) (fun c_15 => ?_)
                  · have c_15 := c_15
                    exact ok_ret ⟨trivial, hB_s_6, hF_s_6⟩
                  · have c_15 := c_15
                    obtain ⟨t_16, ht_16, g_16⟩ : ∃ t : Int, (x6 - 5).toInt = t ∧ t = x6.toInt - (5 : Int32).toInt := ⟨_, rfl, by have h9 := fb_subI (x := x6) (y := (5 : Int32)) (by omega) (by omega); exact h9⟩
                    refine ok_ix ⟨by rw [ht_16]; omega, by rw [ht_16]; omega⟩ ?_
                    refine ok_lt fun v_9 e_v_9 => ?_
                    exact ok_ret ⟨trivial, hB_s_6, hF_s_6⟩
      · rw [fa_le] at c_4
        exact ok_ret ⟨trivial, hB, hF⟩

set_option maxHeartbeats 4000000 in
theorem s_X11_output {x1 : Int32} {x2 : Int32} {x3 : Int32} {x4 : Int32} {x5 : Int32} {x6 : Int32} {σ : Sto} (hB : BX σ) (hPI : PI σ) (hSI : SI σ) (hLI : LI σ) (hQV : QV σ) : OK (f_X11_output x1 x2 x3 x4 x5 x6 σ) (fun r => True ∧ BX r.2 ∧ FR [78, 79, 80, 81, 82, 83, 84, 85, 86, 87, 88, 89, 90, 91, 92] [] σ r.2) := by
  unfold f_X11_output
  have hF : FR [78, 79, 80, 81, 82, 83, 84, 85, 86, 87, 88, 89, 90, 91, 92] [] σ σ := FR.rf
  have k_m1000000 : ((-1000000) : Int32).toInt = -1000000 := by decide +kernel
  have k_0 : (0 : Int32).toInt = 0 := by decide +kernel
  refine ok_calp (s_X11_canRun (x1 := x1) (x2 := x5) (σ := σ) hB) (fun v_1 h_1 => ?_)
  obtain ⟨b_v_1, x_v_1⟩ := h_1
  (try dsimp only at b_v_1 x_v_1)
  refine ok_ite (fun c_2 => ?_) (fun c_2 => ?_)
  · rw [fa_eq] at c_2
    exact ok_ret ⟨trivial, hB, hF⟩
  · rw [fa_eq] at c_2
    have hq := hQV (x_v_1 (by omega))
    have hq1 := hq.1
    have hLV_0 : LV σ := hq.2
    refine ok_ite (fun c_3 => ?_) (fun c_3 => ?_)
    · rw [fa_le] at c_3
      refine ok_cals (s_X5_begin (x1 := x2) (x2 := x3) (x3 := x4) (x4 := x5) (x5 := x6) (σ := σ) hB (by omega)) (fun s_4 h_4 => ?_)
      obtain ⟨hB_s_4, hG_s_4⟩ := h_4
      (try dsimp only at hB_s_4 hG_s_4)
      have hF_s_4 : FR [78, 79, 80, 81, 82, 83, 84, 85, 86, 87, 88, 89, 90, 91, 92] [] σ s_4 := FR.cal hF hG_s_4 rfl rfl
      have f_s_4_4 : (s_4.1 4 0).toInt = (σ.1 4 0).toInt := by rw [hF_s_4.1 4 (by decide)]
      have hPI_s_4 : PI s_4 := PI.fr hG_s_4 (by decide) hPI
      have hSI_s_4 : SI s_4 := SI.fr hG_s_4 (by decide) hSI
      have hLI_s_4 : LI s_4 := LI.fr hG_s_4 (by decide) hLI
      have hQV_s_4 : QV s_4 := QV.fr hG_s_4 (by decide) hQV
      have hLV_s_4 : LV s_4 := LV.fr hG_s_4 (by decide) hLV_0
      refine ok_cals (s_X11_goThrough (x1 := x1) (σ := s_4) hB_s_4 hPI_s_4 hSI_s_4 hLI_s_4 hLV_s_4 (by omega)) (fun s_5 h_5 => ?_)
      obtain ⟨hB_s_5, hG_s_5⟩ := h_5
      (try dsimp only at hB_s_5 hG_s_5)
      have hF_s_5 : FR [78, 79, 80, 81, 82, 83, 84, 85, 86, 87, 88, 89, 90, 91, 92] [] σ s_5 := FR.cal hF_s_4 hG_s_5 rfl rfl
      have f_s_5_4 : (s_5.1 4 0).toInt = (σ.1 4 0).toInt := by rw [hF_s_5.1 4 (by decide)]
      have hPI_s_5 : PI s_5 := PI.fr hG_s_5 (by decide) hPI_s_4
      have hSI_s_5 : SI s_5 := SI.fr hG_s_5 (by decide) hSI_s_4
      have hLI_s_5 : LI s_5 := LI.fr hG_s_5 (by decide) hLI_s_4
      have hQV_s_5 : QV s_5 := QV.fr hG_s_5 (by decide) hQV_s_4
      have hLV_s_5 : LV s_5 := LV.fr hG_s_5 (by decide) hLV_s_4
      refine ok_ite (fun c_6 => ?_) (fun c_6 => ?_)
      · rw [fa_le] at c_6
        exact ok_ret ⟨trivial, hB_s_5, hF_s_5⟩
      · rw [fa_le] at c_6
        exact ok_ret ⟨trivial, hB_s_5, hF_s_5⟩
    · rw [fa_le] at c_3
      exact ok_ret ⟨trivial, hB, hF⟩

set_option maxHeartbeats 4000000 in
theorem s_X0_leadingTo {x1 : Int32} {σ : Sto} (hB : BX σ) : OK (f_X0_leadingTo x1 σ) (fun v => True) := by
  unfold f_X0_leadingTo
  have hF : FR [] [] σ σ := FR.rf
  have k_0 : (0 : Int32).toInt = 0 := by decide +kernel
  have k_1 : (1 : Int32).toInt = 1 := by decide +kernel
  refine ok_itr3 (fun (n : Nat) (x2_1 : Int64) (x4_1 : Int64) (x6_1 : Int32) => n = (42 - x6_1.toInt).toNat ∧ (0 ≤ x6_1.toInt ∧ x6_1.toInt ≤ 41)) ?_ (n := _) ⟨rfl, (by omega)⟩ (show _ < 10000000 by omega)
  intro a_8 n x2_1 x4_1 x6_1 hI ih_a_8
  obtain ⟨hn_a_8, b_x6_1⟩ := hI
  have g_2 := gX_20 hB 0
  refine ok_ite (fun c_1 => ?_) (fun c_1 => ?_)
  · rw [fa_lt] at c_1
    exact ok_ret trivial
  · rw [fa_lt] at c_1
    obtain ⟨t_4, ht_4, g_4⟩ : ∃ t : Int, (lg_cmp x4_1 (x2_1 ||| ((1 : Int64) <<< (x1.toInt64 &&& 63)))).toInt = t ∧ -2147483648 ≤ t ∧ t ≤ 2147483647 := ⟨_, rfl, tI_rng _⟩
    refine ok_ite (fun c_3 => ?_) (fun c_3 => ?_)
    · rw [lg_cmp_eq] at c_3
      exact ok_ret trivial
    · rw [lg_cmp_eq] at c_3
      refine ok_lt fun x4_4 e_x4_4 => ?_
      refine ok_itr2 (fun (n : Nat) (x2_5 : Int64) (x7_5 : Int32) => n = (41 - x7_5.toInt).toNat ∧ (0 ≤ x7_5.toInt ∧ x7_5.toInt ≤ 40)) ?_ (n := _) ⟨rfl, (by omega)⟩ (show _ < 10000000 by omega)
      intro a_38 n x2_5 x7_5 hI ih_a_38
      obtain ⟨hn_a_38, b_x7_5⟩ := hI
      refine ok_ite (fun c_5 => ?_) (fun c_5 => ?_)
      · rw [fa_le] at c_5
        obtain ⟨t_6, ht_6, g_6⟩ : ∃ t : Int, (x6_1 + 1).toInt = t ∧ t = x6_1.toInt + (1 : Int32).toInt := ⟨_, rfl, by have h9 := fb_addI (x := x6_1) (y := (1 : Int32)) (by omega) (by omega); exact h9⟩
        refine ok_lt fun x6_7 e_x6_7 => ?_
        have q_x6_7 : x6_7.toInt = t_6 := by rw [e_x6_7]; exact ht_6
        exact ih_a_8 _ x2_5 x4_4 x6_7 (by rw [hn_a_8]; omega) ⟨rfl, (by omega)⟩
      · rw [fa_le] at c_5
        refine ok_ix ⟨by omega, by omega⟩ ?_
        refine ok_lt fun v_8 e_v_8 => ?_
        refine ok_jn ?_
        obtain ⟨t_8, ht_8, g_8⟩ : ∃ t : Int, (lg_cmp (v_8 &&& x4_4) (0 : Int64)).toInt = t ∧ -2147483648 ≤ t ∧ t ≤ 2147483647 := ⟨_, rfl, tI_rng _⟩
        refine ok_ite (fun c_7 => ?_) (fun c_7 => ?_)
        · rw [lg_cmp_eq] at c_7
          obtain ⟨t_9, ht_9, g_9⟩ : ∃ t : Int, (x7_5 + 1).toInt = t ∧ t = x7_5.toInt + (1 : Int32).toInt := ⟨_, rfl, by have h9 := fb_addI (x := x7_5) (y := (1 : Int32)) (by omega) (by omega); exact h9⟩
          refine ok_lt fun x7_10 e_x7_10 => ?_
          have q_x7_10 : x7_10.toInt = t_9 := by rw [e_x7_10]; exact ht_9
          exact ih_a_38 _ x2_5 x7_10 (by rw [hn_a_38]; omega) ⟨rfl, (by omega)⟩
        · rw [lg_cmp_eq] at c_7
          refine ok_lt fun x2_12 e_x2_12 => ?_
          obtain ⟨t_10, ht_10, g_10⟩ : ∃ t : Int, (x7_5 + 1).toInt = t ∧ t = x7_5.toInt + (1 : Int32).toInt := ⟨_, rfl, by have h9 := fb_addI (x := x7_5) (y := (1 : Int32)) (by omega) (by omega); exact h9⟩
          refine ok_lt fun x7_10 e_x7_10 => ?_
          have q_x7_10 : x7_10.toInt = t_10 := by rw [e_x7_10]; exact ht_10
          exact ih_a_38 _ x2_12 x7_10 (by rw [hn_a_38]; omega) ⟨rfl, (by omega)⟩

set_option maxHeartbeats 4000000 in
theorem s_X11_comesTo {x1 : Int32} {σ : Sto} (hB : BX σ) : OK (f_X11_comesTo x1 σ) (fun v => True) := by
  unfold f_X11_comesTo
  have hF : FR [] [] σ σ := FR.rf
  have k_0 : (0 : Int32).toInt = 0 := by decide +kernel
  refine ok_calp (s_X11_isBlock (x1 := x1) (σ := σ) hB) (fun v_1 h_1 => ?_)
  obtain ⟨b_v_1, x_v_1⟩ := h_1
  (try dsimp only at b_v_1 x_v_1)
  refine ok_ite (fun c_2 => ?_) (fun c_2 => ?_)
  · rw [fa_eq] at c_2
    exact ok_ret trivial
  · rw [fa_eq] at c_2
    refine ok_calp (s_X0_leadingTo (x1 := x1) (σ := σ) hB) (fun v_3 h_3 => ?_)
    exact ok_ret trivial

set_option maxHeartbeats 4000000 in
theorem s_X0_way {x1 : Int32} {x2 : Int32} {σ : Sto} (hB : BX σ) : OK (f_X0_way x1 x2 σ) (fun v => ((-1) ≤ v.toInt ∧ v.toInt ≤ 40)) := by
  unfold f_X0_way
  have hF : FR [] [] σ σ := FR.rf
  have k_m1 : ((-1) : Int32).toInt = -1 := by decide +kernel
  have k_0 : (0 : Int32).toInt = 0 := by decide +kernel
  have k_1 : (1 : Int32).toInt = 1 := by decide +kernel
  refine ok_lt fun x3_1 e_x3_1 => ?_
  refine ok_itr2 (fun (n : Nat) (x3_2 : Int64) (x5_2 : Int32) => n = (42 - x5_2.toInt).toNat ∧ (0 ≤ x5_2.toInt ∧ x5_2.toInt ≤ 41)) ?_ (n := _) ⟨rfl, (by omega)⟩ (show _ < 10000000 by omega)
  intro a_7 n x3_2 x5_2 hI ih_a_7
  obtain ⟨hn_a_7, b_x5_2⟩ := hI
  have g_2 := gX_20 hB 0
  refine ok_ite (fun c_1 => ?_) (fun c_1 => ?_)
  · rw [fa_lt] at c_1
    exact ok_ret (by (try dsimp only); omega)
  · rw [fa_lt] at c_1
    refine ok_calp (s_X11_isIn (x1 := x3_2) (x2 := x2) ) (fun v_4 h_3 => ?_)
    have b_v_4 := h_3
    (try dsimp only at b_v_4)
    refine ok_ite (fun c_4 => ?_) (fun c_4 => ?_)
    · rw [fa_eq] at c_4
      refine ok_itr2 (fun (n : Nat) (x6_6 : Int64) (x8_6 : Int32) => n = (41 - x8_6.toInt).toNat ∧ (0 ≤ x8_6.toInt ∧ x8_6.toInt ≤ 40)) ?_ (n := _) ⟨rfl, (by omega)⟩ (show _ < 10000000 by omega)
      intro a_33 n x6_6 x8_6 hI ih_a_33
      obtain ⟨hn_a_33, b_x8_6⟩ := hI
      refine ok_ite (fun c_5 => ?_) (fun c_5 => ?_)
      · rw [fa_le] at c_5
        obtain ⟨t_6, ht_6, g_6⟩ : ∃ t : Int, (x5_2 + 1).toInt = t ∧ t = x5_2.toInt + (1 : Int32).toInt := ⟨_, rfl, by have h9 := fb_addI (x := x5_2) (y := (1 : Int32)) (by omega) (by omega); exact h9⟩
        refine ok_lt fun x5_8 e_x5_8 => ?_
        have q_x5_8 : x5_8.toInt = t_6 := by rw [e_x5_8]; exact ht_6
        exact ih_a_7 _ x6_6 x5_8 (by rw [hn_a_7]; omega) ⟨rfl, (by omega)⟩
      · rw [fa_le] at c_5
        refine ok_calp (s_X11_isIn (x1 := x3_2) (x2 := x8_6) ) (fun v_9 h_7 => ?_)
        have b_v_9 := h_7
        (try dsimp only at b_v_9)
        refine ok_jn ?_
        refine ok_ite (fun c_8 => ?_) (fun c_8 => ?_)
        · rw [fa_eq] at c_8
          obtain ⟨t_9, ht_9, g_9⟩ : ∃ t : Int, (x8_6 + 1).toInt = t ∧ t = x8_6.toInt + (1 : Int32).toInt := ⟨_, rfl, by have h9 := fb_addI (x := x8_6) (y := (1 : Int32)) (by omega) (by omega); exact h9⟩
          refine ok_lt fun x8_11 e_x8_11 => ?_
          have q_x8_11 : x8_11.toInt = t_9 := by rw [e_x8_11]; exact ht_9
          exact ih_a_33 _ x6_6 x8_11 (by rw [hn_a_33]; omega) ⟨rfl, (by omega)⟩
        · rw [fa_eq] at c_8
          refine ok_ix ⟨by omega, by omega⟩ ?_
          refine ok_lt fun v_13 e_v_13 => ?_
          refine ok_lt fun x6_14 e_x6_14 => ?_
          obtain ⟨t_10, ht_10, g_10⟩ : ∃ t : Int, (x8_6 + 1).toInt = t ∧ t = x8_6.toInt + (1 : Int32).toInt := ⟨_, rfl, by have h9 := fb_addI (x := x8_6) (y := (1 : Int32)) (by omega) (by omega); exact h9⟩
          refine ok_lt fun x8_11 e_x8_11 => ?_
          have q_x8_11 : x8_11.toInt = t_10 := by rw [e_x8_11]; exact ht_10
          exact ih_a_33 _ x6_14 x8_11 (by rw [hn_a_33]; omega) ⟨rfl, (by omega)⟩
    · rw [fa_eq] at c_4
      exact ok_ret (by (try dsimp only); omega)

set_option maxHeartbeats 4000000 in
theorem s_X11_far {x1 : Int32} {x2 : Int32} {σ : Sto} (hB : BX σ) : OK (f_X11_far x1 x2 σ) (fun v => ((-1) ≤ v.toInt ∧ v.toInt ≤ 40)) := by
  unfold f_X11_far
  have hF : FR [] [] σ σ := FR.rf
  have k_m1 : ((-1) : Int32).toInt = -1 := by decide +kernel
  have k_0 : (0 : Int32).toInt = 0 := by decide +kernel
  refine ok_calp (s_X11_isBlock (x1 := x1) (σ := σ) hB) (fun v_1 h_1 => ?_)
  obtain ⟨b_v_1, x_v_1⟩ := h_1
  (try dsimp only at b_v_1 x_v_1)
  refine ok_jn ?_
  refine ok_ite (fun c_2 => ?_) (fun c_2 => ?_)
  · rw [fa_eq] at c_2
    exact ok_ret (by (try dsimp only); omega)
  · rw [fa_eq] at c_2
    refine ok_calp (s_X11_isBlock (x1 := x2) (σ := σ) hB) (fun v_4 h_3 => ?_)
    obtain ⟨b_v_4, x_v_4⟩ := h_3
    (try dsimp only at b_v_4 x_v_4)
    refine ok_ite (fun c_4 => ?_) (fun c_4 => ?_)
    · rw [fa_eq] at c_4
      exact ok_ret (by (try dsimp only); omega)
    · rw [fa_eq] at c_4
      refine ok_calp (s_X0_way (x1 := x1) (x2 := x2) (σ := σ) hB) (fun v_6 h_5 => ?_)
      have b_v_6 := h_5
      (try dsimp only at b_v_6)
      exact ok_ret (by (try dsimp only); omega)

set_option maxHeartbeats 4000000 in
theorem s_X8_mostLoops {σ : Sto} (hB : BX σ) : OK (f_X8_mostLoops σ) (fun v => (0 ≤ v.toInt)) := by
  unfold f_X8_mostLoops
  have hF : FR [] [] σ σ := FR.rf
  have k_0 : (0 : Int32).toInt = 0 := by decide +kernel
  have k_1 : (1 : Int32).toInt = 1 := by decide +kernel
  refine ok_itr2 (fun (n : Nat) (x1_1 : Int32) (x2_1 : Int32) => n = (41 - x2_1.toInt).toNat ∧ (0 ≤ x1_1.toInt) ∧ (0 ≤ x2_1.toInt ∧ x2_1.toInt ≤ 40)) ?_ (n := _) ⟨rfl, (by omega), (by omega)⟩ (show _ < 10000000 by omega)
  intro a_4 n x1_1 x2_1 hI ih_a_4
  obtain ⟨hn_a_4, b_x1_1, b_x2_1⟩ := hI
  have g_2 := gX_20 hB 0
  refine ok_ite (fun c_1 => ?_) (fun c_1 => ?_)
  · rw [fa_le] at c_1
    exact ok_ret (by (try dsimp only); omega)
  · rw [fa_le] at c_1
    refine ok_calp (s_X8_loopsRound (x1 := x2_1) (σ := σ) hB) (fun v_3 h_3 => ?_)
    have b_v_3 := h_3
    (try dsimp only at b_v_3)
    obtain ⟨t_4, ht_4, g_4⟩ : ∃ t : Int, (if x1_1 < v_3 then v_3 else x1_1).toInt = t ∧ -2147483648 ≤ t ∧ t ≤ 2147483647 := ⟨_, rfl, tI_rng _⟩
    refine ok_lt fun v_4 e_v_4 => ?_
    have b_v_4 := mx_spec e_v_4
    obtain ⟨t_5, ht_5, g_5⟩ : ∃ t : Int, (x2_1 + 1).toInt = t ∧ t = x2_1.toInt + (1 : Int32).toInt := ⟨_, rfl, by have h9 := fb_addI (x := x2_1) (y := (1 : Int32)) (by omega) (by omega); exact h9⟩
    refine ok_lt fun x2_5 e_x2_5 => ?_
    have q_x2_5 : x2_5.toInt = t_5 := by rw [e_x2_5]; exact ht_5
    exact ih_a_4 _ v_4 x2_5 (by rw [hn_a_4]; omega) ⟨rfl, (by omega), (by omega)⟩

set_option maxHeartbeats 4000000 in
theorem s_X2_deepest {σ : Sto} (hB : BX σ) : OK (f_X2_deepest σ) (fun v => (0 ≤ v.toInt)) := by
  unfold f_X2_deepest
  have hF : FR [] [] σ σ := FR.rf
  have k_0 : (0 : Int32).toInt = 0 := by decide +kernel
  have k_1 : (1 : Int32).toInt = 1 := by decide +kernel
  refine ok_itr2 (fun (n : Nat) (x1_1 : Int32) (x2_1 : Int32) => n = (801 - x2_1.toInt).toNat ∧ (0 ≤ x1_1.toInt) ∧ (0 ≤ x2_1.toInt ∧ x2_1.toInt ≤ 800)) ?_ (n := _) ⟨rfl, (by omega), (by omega)⟩ (show _ < 10000000 by omega)
  intro a_4 n x1_1 x2_1 hI ih_a_4
  obtain ⟨hn_a_4, b_x1_1, b_x2_1⟩ := hI
  have g_2 := gX_68 hB 0
  refine ok_ite (fun c_1 => ?_) (fun c_1 => ?_)
  · rw [fa_le] at c_1
    exact ok_ret (by (try dsimp only); omega)
  · rw [fa_le] at c_1
    refine ok_ix ⟨by omega, by omega⟩ ?_
    refine ok_lt fun v_3 e_v_3 => ?_
    obtain ⟨t_3, ht_3, g_3⟩ : ∃ t : Int, (if x1_1 < v_3 then v_3 else x1_1).toInt = t ∧ -2147483648 ≤ t ∧ t ≤ 2147483647 := ⟨_, rfl, tI_rng _⟩
    refine ok_lt fun v_4 e_v_4 => ?_
    have b_v_4 := mx_spec e_v_4
    obtain ⟨t_4, ht_4, g_4⟩ : ∃ t : Int, (x2_1 + 1).toInt = t ∧ t = x2_1.toInt + (1 : Int32).toInt := ⟨_, rfl, by have h9 := fb_addI (x := x2_1) (y := (1 : Int32)) (by omega) (by omega); exact h9⟩
    refine ok_lt fun x2_5 e_x2_5 => ?_
    have q_x2_5 : x2_5.toInt = t_4 := by rw [e_x2_5]; exact ht_4
    exact ih_a_4 _ v_4 x2_5 (by rw [hn_a_4]; omega) ⟨rfl, (by omega), (by omega)⟩

set_option maxHeartbeats 4000000 in
theorem s_X2_ofKind {x1 : Int32} {σ : Sto} (hB : BX σ) (p_x1 : 6 ≤ x1.toInt ∧ x1.toInt ≤ 7) : OK (f_X2_ofKind x1 σ) (fun v => True) := by
  unfold f_X2_ofKind
  have hF : FR [] [] σ σ := FR.rf
  have k_0 : (0 : Int32).toInt = 0 := by decide +kernel
  have k_1 : (1 : Int32).toInt = 1 := by decide +kernel
  refine ok_itr2 (fun (n : Nat) (x2_1 : Int32) (x3_1 : Int32) => n = (801 - x3_1.toInt).toNat ∧ (0 ≤ x3_1.toInt ∧ x3_1.toInt ≤ 800)) ?_ (n := _) ⟨rfl, (by omega)⟩ (show _ < 10000000 by omega)
  intro a_4 n x2_1 x3_1 hI ih_a_4
  obtain ⟨hn_a_4, b_x3_1⟩ := hI
  have g_2 := gX_68 hB 0
  refine ok_ite (fun c_1 => ?_) (fun c_1 => ?_)
  · rw [fa_le] at c_1
    exact ok_ret trivial
  · rw [fa_le] at c_1
    refine ok_ix ⟨by omega, by omega⟩ ?_
    have g_3 := gX_69 hB (x3_1.toNatClampNeg)
    refine ok_lt fun v_3 e_v_3 => ?_
    have b_v_3 : 0 ≤ v_3.toInt ∧ v_3.toInt ≤ 12 := by rw [e_v_3]; exact gX_69 hB _
    refine ok_jn ?_
    refine ok_ite (fun c_4 => ?_) (fun c_4 => ?_)
    · rw [fa_eq] at c_4
      obtain ⟨t_5, ht_5, g_5⟩ : ∃ t : Int, (x2_1 + 1).toInt = t ∧ -2147483648 ≤ t ∧ t ≤ 2147483647 := ⟨_, rfl, tI_rng _⟩
      refine ok_lt fun x2_7 e_x2_7 => ?_
      have q_x2_7 : x2_7.toInt = t_5 := by rw [e_x2_7]; exact ht_5
      obtain ⟨t_6, ht_6, g_6⟩ : ∃ t : Int, (x3_1 + 1).toInt = t ∧ t = x3_1.toInt + (1 : Int32).toInt := ⟨_, rfl, by have h9 := fb_addI (x := x3_1) (y := (1 : Int32)) (by omega) (by omega); exact h9⟩
      refine ok_lt fun x3_5 e_x3_5 => ?_
      have q_x3_5 : x3_5.toInt = t_6 := by rw [e_x3_5]; exact ht_6
      exact ih_a_4 _ x2_7 x3_5 (by rw [hn_a_4]; omega) ⟨rfl, (by omega)⟩
    · rw [fa_eq] at c_4
      obtain ⟨t_7, ht_7, g_7⟩ : ∃ t : Int, (x3_1 + 1).toInt = t ∧ t = x3_1.toInt + (1 : Int32).toInt := ⟨_, rfl, by have h9 := fb_addI (x := x3_1) (y := (1 : Int32)) (by omega) (by omega); exact h9⟩
      refine ok_lt fun x3_5 e_x3_5 => ?_
      have q_x3_5 : x3_5.toInt = t_7 := by rw [e_x3_5]; exact ht_7
      exact ih_a_4 _ x2_1 x3_5 (by rw [hn_a_4]; omega) ⟨rfl, (by omega)⟩

set_option maxHeartbeats 4000000 in
theorem s_X1_mostParts {σ : Sto} (hB : BX σ) : OK (f_X1_mostParts σ) (fun v => (0 ≤ v.toInt)) := by
  unfold f_X1_mostParts
  have hF : FR [] [] σ σ := FR.rf
  have k_m1 : ((-1) : Int32).toInt = -1 := by decide +kernel
  have k_0 : (0 : Int32).toInt = 0 := by decide +kernel
  have k_1 : (1 : Int32).toInt = 1 := by decide +kernel
  refine ok_itr2 (fun (n : Nat) (x1_1 : Int32) (x2_1 : Int32) => n = (321 - x2_1.toInt).toNat ∧ (0 ≤ x1_1.toInt) ∧ (0 ≤ x2_1.toInt ∧ x2_1.toInt ≤ 320)) ?_ (n := _) ⟨rfl, (by omega), (by omega)⟩ (show _ < 10000000 by omega)
  intro a_4 n x1_1 x2_1 hI ih_a_4
  obtain ⟨hn_a_4, b_x1_1, b_x2_1⟩ := hI
  have g_2 := gX_52 hB 0
  refine ok_ite (fun c_1 => ?_) (fun c_1 => ?_)
  · rw [fa_le] at c_1
    exact ok_ret (by (try dsimp only); omega)
  · rw [fa_le] at c_1
    refine ok_ix ⟨by omega, by omega⟩ ?_
    have g_3 := gX_55 hB (x2_1.toNatClampNeg)
    refine ok_lt fun v_3 e_v_3 => ?_
    have b_v_3 : (-1) ≤ v_3.toInt ∧ v_3.toInt ≤ 511 := by rw [e_v_3]; exact gX_55 hB _
    have q_v_3 : v_3.toInt = (σ.1 55 x2_1.toNatClampNeg).toInt := by rw [e_v_3]
    refine ok_jn ?_
    refine ok_ite (fun c_4 => ?_) (fun c_4 => ?_)
    · rw [fa_eq] at c_4
      obtain ⟨t_5, ht_5, g_5⟩ : ∃ t : Int, (x2_1 + 1).toInt = t ∧ t = x2_1.toInt + (1 : Int32).toInt := ⟨_, rfl, by have h9 := fb_addI (x := x2_1) (y := (1 : Int32)) (by omega) (by omega); exact h9⟩
      refine ok_lt fun x2_5 e_x2_5 => ?_
      have q_x2_5 : x2_5.toInt = t_5 := by rw [e_x2_5]; exact ht_5
      exact ih_a_4 _ x1_1 x2_5 (by rw [hn_a_4]; omega) ⟨rfl, (by omega), (by omega)⟩
    · rw [fa_eq] at c_4
      refine ok_ix ⟨by omega, by omega⟩ ?_
      refine ok_lt fun v_7 e_v_7 => ?_
      have b_v_7 : (-1) ≤ v_7.toInt ∧ v_7.toInt ≤ 511 := by rw [e_v_7]; exact gX_55 hB _
      have q_v_7 : v_7.toInt = (σ.1 55 x2_1.toNatClampNeg).toInt := by rw [e_v_7]
      refine ok_ix ⟨by omega, by omega⟩ ?_
      refine ok_lt fun v_8 e_v_8 => ?_
      obtain ⟨t_6, ht_6, g_6⟩ : ∃ t : Int, (if x1_1 < v_8 then v_8 else x1_1).toInt = t ∧ -2147483648 ≤ t ∧ t ≤ 2147483647 := ⟨_, rfl, tI_rng _⟩
      refine ok_lt fun v_9 e_v_9 => ?_
      have b_v_9 := mx_spec e_v_9
      obtain ⟨t_7, ht_7, g_7⟩ : ∃ t : Int, (x2_1 + 1).toInt = t ∧ t = x2_1.toInt + (1 : Int32).toInt := ⟨_, rfl, by have h9 := fb_addI (x := x2_1) (y := (1 : Int32)) (by omega) (by omega); exact h9⟩
      refine ok_lt fun x2_5 e_x2_5 => ?_
      have q_x2_5 : x2_5.toInt = t_7 := by rw [e_x2_5]; exact ht_7
      exact ih_a_4 _ v_9 x2_5 (by rw [hn_a_4]; omega) ⟨rfl, (by omega), (by omega)⟩

set_option maxHeartbeats 4000000 in
theorem s_X3_highest {σ : Sto} (hB : BX σ) : OK (f_X3_highest σ) (fun v => (0 ≤ v.toInt ∧ v.toInt ≤ 8)) := by
  unfold f_X3_highest
  have hF : FR [] [] σ σ := FR.rf
  have k_m1 : ((-1) : Int32).toInt = -1 := by decide +kernel
  have k_0 : (0 : Int32).toInt = 0 := by decide +kernel
  have k_1 : (1 : Int32).toInt = 1 := by decide +kernel
  refine ok_itr2 (fun (n : Nat) (x1_1 : Int32) (x2_1 : Int32) => n = (41 - x2_1.toInt).toNat ∧ (0 ≤ x1_1.toInt ∧ x1_1.toInt ≤ 8) ∧ (0 ≤ x2_1.toInt ∧ x2_1.toInt ≤ 40)) ?_ (n := _) ⟨rfl, (by omega), (by omega)⟩ (show _ < 10000000 by omega)
  intro a_4 n x1_1 x2_1 hI ih_a_4
  obtain ⟨hn_a_4, b_x1_1, b_x2_1⟩ := hI
  have g_2 := gX_4 hB 0
  refine ok_ite (fun c_1 => ?_) (fun c_1 => ?_)
  · rw [fa_le] at c_1
    exact ok_ret (by (try dsimp only); omega)
  · rw [fa_le] at c_1
    refine ok_ix ⟨by omega, by omega⟩ ?_
    have g_3 := gX_8 hB (x2_1.toNatClampNeg)
    refine ok_lt fun v_3 e_v_3 => ?_
    have b_v_3 : (-1) ≤ v_3.toInt ∧ v_3.toInt ≤ 6 := by rw [e_v_3]; exact gX_8 hB _
    have q_v_3 : v_3.toInt = (σ.1 8 x2_1.toNatClampNeg).toInt := by rw [e_v_3]
    refine ok_jn ?_
    refine ok_ite (fun c_4 => ?_) (fun c_4 => ?_)
    · rw [fa_eq] at c_4
      obtain ⟨t_5, ht_5, g_5⟩ : ∃ t : Int, (x2_1 + 1).toInt = t ∧ t = x2_1.toInt + (1 : Int32).toInt := ⟨_, rfl, by have h9 := fb_addI (x := x2_1) (y := (1 : Int32)) (by omega) (by omega); exact h9⟩
      refine ok_lt fun x2_5 e_x2_5 => ?_
      have q_x2_5 : x2_5.toInt = t_5 := by rw [e_x2_5]; exact ht_5
      exact ih_a_4 _ x1_1 x2_5 (by rw [hn_a_4]; omega) ⟨rfl, (by omega), (by omega)⟩
    · rw [fa_eq] at c_4
      refine ok_ix ⟨by omega, by omega⟩ ?_
      refine ok_lt fun v_7 e_v_7 => ?_
      have b_v_7 : (-1) ≤ v_7.toInt ∧ v_7.toInt ≤ 6 := by rw [e_v_7]; exact gX_8 hB _
      have q_v_7 : v_7.toInt = (σ.1 8 x2_1.toNatClampNeg).toInt := by rw [e_v_7]
      refine ok_calp (s_X3_depthBehind (x1 := x2_1) (σ := σ) hB (by omega)) (fun v_8 h_6 => ?_)
      obtain ⟨b_v_8, x_v_8⟩ := h_6
      (try dsimp only at b_v_8 x_v_8)
      obtain ⟨t_7, ht_7, g_7⟩ : ∃ t : Int, (if v_7 < v_8 then v_8 else v_7).toInt = t ∧ -2147483648 ≤ t ∧ t ≤ 2147483647 := ⟨_, rfl, tI_rng _⟩
      refine ok_lt fun v_9 e_v_9 => ?_
      have b_v_9 := mx_spec e_v_9
      obtain ⟨t_8, ht_8, g_8⟩ : ∃ t : Int, (if x1_1 < v_9 then v_9 else x1_1).toInt = t ∧ -2147483648 ≤ t ∧ t ≤ 2147483647 := ⟨_, rfl, tI_rng _⟩
      refine ok_lt fun v_10 e_v_10 => ?_
      have b_v_10 := mx_spec e_v_10
      obtain ⟨t_9, ht_9, g_9⟩ : ∃ t : Int, (x2_1 + 1).toInt = t ∧ t = x2_1.toInt + (1 : Int32).toInt := ⟨_, rfl, by have h9 := fb_addI (x := x2_1) (y := (1 : Int32)) (by omega) (by omega); exact h9⟩
      refine ok_lt fun x2_5 e_x2_5 => ?_
      have q_x2_5 : x2_5.toInt = t_9 := by rw [e_x2_5]; exact ht_9
      exact ih_a_4 _ v_10 x2_5 (by rw [hn_a_4]; omega) ⟨rfl, (by omega), (by omega)⟩

set_option maxHeartbeats 4000000 in
theorem s_X1_fullest {σ : Sto} (hB : BX σ) : OK (f_X1_fullest σ) (fun v => (0 ≤ v.toInt ∧ v.toInt ≤ 39)) := by
  unfold f_X1_fullest
  have hF : FR [] [] σ σ := FR.rf
  have k_0 : (0 : Int32).toInt = 0 := by decide +kernel
  have k_1 : (1 : Int32).toInt = 1 := by decide +kernel
  refine ok_itr2 (fun (n : Nat) (x1_1 : Int32) (x2_1 : Int32) => n = (41 - x2_1.toInt).toNat ∧ (0 ≤ x1_1.toInt ∧ x1_1.toInt ≤ 39) ∧ (1 ≤ x2_1.toInt ∧ x2_1.toInt ≤ 40)) ?_ (n := _) ⟨rfl, (by omega), (by omega)⟩ (show _ < 10000000 by omega)
  intro a_4 n x1_1 x2_1 hI ih_a_4
  obtain ⟨hn_a_4, b_x1_1, b_x2_1⟩ := hI
  have g_2 := gX_20 hB 0
  refine ok_ite (fun c_1 => ?_) (fun c_1 => ?_)
  · rw [fa_le] at c_1
    exact ok_ret (by (try dsimp only); omega)
  · rw [fa_le] at c_1
    obtain ⟨t_3, ht_3, g_3⟩ : ∃ t : Int, (x2_1 + 1).toInt = t ∧ t = x2_1.toInt + (1 : Int32).toInt := ⟨_, rfl, by have h9 := fb_addI (x := x2_1) (y := (1 : Int32)) (by omega) (by omega); exact h9⟩
    refine ok_ix ⟨by rw [ht_3]; omega, by rw [ht_3]; omega⟩ ?_
    have g_4 := gX_56 hB ((x2_1 + 1).toNatClampNeg)
    refine ok_lt fun v_3 e_v_3 => ?_
    have b_v_3 : 0 ≤ v_3.toInt ∧ v_3.toInt ≤ 320 := by rw [e_v_3]; exact gX_56 hB _
    refine ok_ix ⟨by omega, by omega⟩ ?_
    have g_5 := gX_56 hB (x2_1.toNatClampNeg)
    refine ok_lt fun v_4 e_v_4 => ?_
    have b_v_4 : 0 ≤ v_4.toInt ∧ v_4.toInt ≤ 320 := by rw [e_v_4]; exact gX_56 hB _
    obtain ⟨t_6, ht_6, g_6⟩ : ∃ t : Int, (x1_1 + 1).toInt = t ∧ t = x1_1.toInt + (1 : Int32).toInt := ⟨_, rfl, by have h9 := fb_addI (x := x1_1) (y := (1 : Int32)) (by omega) (by omega); exact h9⟩
    refine ok_ix ⟨by rw [ht_6]; omega, by rw [ht_6]; omega⟩ ?_
    have g_7 := gX_56 hB ((x1_1 + 1).toNatClampNeg)
    refine ok_lt fun v_5 e_v_5 => ?_
    have b_v_5 : 0 ≤ v_5.toInt ∧ v_5.toInt ≤ 320 := by rw [e_v_5]; exact gX_56 hB _
    refine ok_ix ⟨by omega, by omega⟩ ?_
    have g_8 := gX_56 hB (x1_1.toNatClampNeg)
    refine ok_lt fun v_6 e_v_6 => ?_
    have b_v_6 : 0 ≤ v_6.toInt ∧ v_6.toInt ≤ 320 := by rw [e_v_6]; exact gX_56 hB _
    refine ok_jn ?_
    obtain ⟨t_10, ht_10, g_10⟩ : ∃ t : Int, (v_3 - v_4).toInt = t ∧ t = v_3.toInt - v_4.toInt := ⟨_, rfl, by have h9 := fb_subI (x := v_3) (y := v_4) (by omega) (by omega); exact h9⟩
    obtain ⟨t_11, ht_11, g_11⟩ : ∃ t : Int, (v_5 - v_6).toInt = t ∧ t = v_5.toInt - v_6.toInt := ⟨_, rfl, by have h9 := fb_subI (x := v_5) (y := v_6) (by omega) (by omega); exact h9⟩
    refine ok_ite (fun c_9 => ?_) (fun c_9 => ?_)
    · rw [fa_le, ht_10, ht_11] at c_9
      refine ok_lt fun x2_8 e_x2_8 => ?_
      have q_x2_8 : x2_8.toInt = t_3 := by rw [e_x2_8]; exact ht_3
      exact ih_a_4 _ x1_1 x2_8 (by rw [hn_a_4]; omega) ⟨rfl, (by omega), (by omega)⟩
    · rw [fa_le, ht_10, ht_11] at c_9
      refine ok_lt fun x2_8 e_x2_8 => ?_
      have q_x2_8 : x2_8.toInt = t_3 := by rw [e_x2_8]; exact ht_3
      exact ih_a_4 _ x2_1 x2_8 (by rw [hn_a_4]; omega) ⟨rfl, (by omega), (by omega)⟩

set_option maxHeartbeats 4000000 in
theorem s_X10_howMany {σ : Sto} (hB : BX σ) : OK (f_X10_howMany σ) (fun v => True) := by
  unfold f_X10_howMany
  have hF : FR [] [] σ σ := FR.rf
  have k_0 : (0 : Int32).toInt = 0 := by decide +kernel
  have k_1 : (1 : Int32).toInt = 1 := by decide +kernel
  have k_6 : (6 : Int32).toInt = 6 := by decide +kernel
  have g9 := gX_32 hB 0
  refine ok_itr2 (fun (n : Nat) (x1_1 : Int32) (x2_1 : Int32) => n = (7 - x2_1.toInt).toNat ∧ (0 ≤ x2_1.toInt ∧ x2_1.toInt ≤ 6)) ?_ (n := _) ⟨rfl, (by omega)⟩ (show _ < 10000000 by omega)
  intro a_4 n x1_1 x2_1 hI ih_a_4
  obtain ⟨hn_a_4, b_x2_1⟩ := hI
  refine ok_ite (fun c_1 => ?_) (fun c_1 => ?_)
  · rw [fa_le] at c_1
    refine ok_itr2 (fun (n : Nat) (x1_3 : Int32) (x2_3 : Int32) => n = (7 - x2_3.toInt).toNat ∧ (0 ≤ x2_3.toInt ∧ x2_3.toInt ≤ 6)) ?_ (n := _) ⟨rfl, (by omega)⟩ (show _ < 10000000 by omega)
    intro a_30 n x1_3 x2_3 hI ih_a_30
    obtain ⟨hn_a_30, b_x2_3⟩ := hI
    have g_3 := gX_32 hB 0
    refine ok_ite (fun c_2 => ?_) (fun c_2 => ?_)
    · rw [fa_le] at c_2
      refine ok_itr2 (fun (n : Nat) (x1_5 : Int32) (x2_5 : Int32) => n = (161 - x2_5.toInt).toNat ∧ (0 ≤ x2_5.toInt ∧ x2_5.toInt ≤ 160)) ?_ (n := _) ⟨rfl, (by omega)⟩ (show _ < 10000000 by omega)
      intro a_61 n x1_5 x2_5 hI ih_a_61
      obtain ⟨hn_a_61, b_x2_5⟩ := hI
      have g_5 := gX_58 hB 0
      refine ok_ite (fun c_4 => ?_) (fun c_4 => ?_)
      · rw [fa_le] at c_4
        exact ok_ret trivial
      · rw [fa_le] at c_4
        refine ok_ix ⟨by omega, by omega⟩ ?_
        have g_6 := gX_65 hB (x2_5.toNatClampNeg)
        refine ok_lt fun v_7 e_v_7 => ?_
        have b_v_7 : 0 ≤ v_7.toInt ∧ v_7.toInt ≤ 1 := by rw [e_v_7]; exact gX_65 hB _
        refine ok_calp (s_X11_oneIf (x1 := v_7) (by omega)) (fun v_8 h_7 => ?_)
        have b_v_8 := h_7
        (try dsimp only at b_v_8)
        obtain ⟨t_8, ht_8, g_8⟩ : ∃ t : Int, (x1_5 + v_8).toInt = t ∧ -2147483648 ≤ t ∧ t ≤ 2147483647 := ⟨_, rfl, tI_rng _⟩
        refine ok_lt fun x1_9 e_x1_9 => ?_
        have q_x1_9 : x1_9.toInt = t_8 := by rw [e_x1_9]; exact ht_8
        obtain ⟨t_9, ht_9, g_9⟩ : ∃ t : Int, (x2_5 + 1).toInt = t ∧ t = x2_5.toInt + (1 : Int32).toInt := ⟨_, rfl, by have h9 := fb_addI (x := x2_5) (y := (1 : Int32)) (by omega) (by omega); exact h9⟩
        refine ok_lt fun x2_10 e_x2_10 => ?_
        have q_x2_10 : x2_10.toInt = t_9 := by rw [e_x2_10]; exact ht_9
        exact ih_a_61 _ x1_9 x2_10 (by rw [hn_a_61]; omega) ⟨rfl, (by omega)⟩
    · rw [fa_le] at c_2
      refine ok_ix ⟨by omega, by omega⟩ ?_
      have g_10 := gX_64 hB (x2_3.toNatClampNeg)
      refine ok_lt fun v_11 e_v_11 => ?_
      have b_v_11 : 0 ≤ v_11.toInt ∧ v_11.toInt ≤ 1 := by rw [e_v_11]; exact gX_64 hB _
      refine ok_calp (s_X11_oneIf (x1 := v_11) (by omega)) (fun v_12 h_11 => ?_)
      have b_v_12 := h_11
      (try dsimp only at b_v_12)
      obtain ⟨t_12, ht_12, g_12⟩ : ∃ t : Int, (x1_3 + v_12).toInt = t ∧ -2147483648 ≤ t ∧ t ≤ 2147483647 := ⟨_, rfl, tI_rng _⟩
      refine ok_lt fun x1_13 e_x1_13 => ?_
      have q_x1_13 : x1_13.toInt = t_12 := by rw [e_x1_13]; exact ht_12
      obtain ⟨t_13, ht_13, g_13⟩ : ∃ t : Int, (x2_3 + 1).toInt = t ∧ t = x2_3.toInt + (1 : Int32).toInt := ⟨_, rfl, by have h9 := fb_addI (x := x2_3) (y := (1 : Int32)) (by omega) (by omega); exact h9⟩
      refine ok_lt fun x2_14 e_x2_14 => ?_
      have q_x2_14 : x2_14.toInt = t_13 := by rw [e_x2_14]; exact ht_13
      exact ih_a_30 _ x1_13 x2_14 (by rw [hn_a_30]; omega) ⟨rfl, (by omega)⟩
  · rw [fa_le] at c_1
    refine ok_ix ⟨by omega, by omega⟩ ?_
    have g_14 := gX_63 hB (x2_1.toNatClampNeg)
    refine ok_lt fun v_15 e_v_15 => ?_
    have b_v_15 : 0 ≤ v_15.toInt ∧ v_15.toInt ≤ 1 := by rw [e_v_15]; exact gX_63 hB _
    refine ok_calp (s_X11_oneIf (x1 := v_15) (by omega)) (fun v_16 h_15 => ?_)
    have b_v_16 := h_15
    (try dsimp only at b_v_16)
    obtain ⟨t_16, ht_16, g_16⟩ : ∃ t : Int, (x1_1 + v_16).toInt = t ∧ -2147483648 ≤ t ∧ t ≤ 2147483647 := ⟨_, rfl, tI_rng _⟩
    refine ok_lt fun x1_17 e_x1_17 => ?_
    have q_x1_17 : x1_17.toInt = t_16 := by rw [e_x1_17]; exact ht_16
    obtain ⟨t_17, ht_17, g_17⟩ : ∃ t : Int, (x2_1 + 1).toInt = t ∧ t = x2_1.toInt + (1 : Int32).toInt := ⟨_, rfl, by have h9 := fb_addI (x := x2_1) (y := (1 : Int32)) (by omega) (by omega); exact h9⟩
    refine ok_lt fun x2_18 e_x2_18 => ?_
    have q_x2_18 : x2_18.toInt = t_17 := by rw [e_x2_18]; exact ht_17
    exact ih_a_4 _ x1_17 x2_18 (by rw [hn_a_4]; omega) ⟨rfl, (by omega)⟩

set_option maxHeartbeats 4000000 in
theorem s_X11_most {x1 : Int32} {σ : Sto} (hB : BX σ) : OK (f_X11_most x1 σ) (fun v => True) := by
  unfold f_X11_most
  have hF : FR [] [] σ σ := FR.rf
  have k_m1000000 : ((-1000000) : Int32).toInt = -1000000 := by decide +kernel
  have k_m1 : ((-1) : Int32).toInt = -1 := by decide +kernel
  have k_0 : (0 : Int32).toInt = 0 := by decide +kernel
  have k_1 : (1 : Int32).toInt = 1 := by decide +kernel
  have k_2 : (2 : Int32).toInt = 2 := by decide +kernel
  have k_3 : (3 : Int32).toInt = 3 := by decide +kernel
  have k_4 : (4 : Int32).toInt = 4 := by decide +kernel
  have k_5 : (5 : Int32).toInt = 5 := by decide +kernel
  have k_6 : (6 : Int32).toInt = 6 := by decide +kernel
  have k_7 : (7 : Int32).toInt = 7 := by decide +kernel
  have g_2 := gX_0 hB 0
  refine ok_ite (fun c_1 => ?_) (fun c_1 => ?_)
  · rw [fa_eq] at c_1
    exact ok_ret trivial
  · rw [fa_eq] at c_1
    refine ok_ite (fun c_3 => ?_) (fun c_3 => ?_)
    · have c_3 := c_3
      refine ok_calp (s_X8_mostLoops  (σ := σ) hB) (fun v_3 h_4 => ?_)
      have b_v_3 := h_4
      (try dsimp only at b_v_3)
      exact ok_ret trivial
    · have c_3 := c_3
      refine ok_ite (fun c_5 => ?_) (fun c_5 => ?_)
      · have c_5 := c_5
        have g_7 := gX_34 hB 0
        refine ok_ite (fun c_6 => ?_) (fun c_6 => ?_)
        · rw [fa_eq] at c_6
          refine ok_calp (s_X2_deepest  (σ := σ) hB) (fun v_5 h_8 => ?_)
          have b_v_5 := h_8
          (try dsimp only at b_v_5)
          exact ok_ret trivial
        · rw [fa_eq] at c_6
          exact ok_ret trivial
      · have c_5 := c_5
        refine ok_ite (fun c_9 => ?_) (fun c_9 => ?_)
        · have c_9 := c_9
          have g_11 := gX_34 hB 0
          refine ok_ite (fun c_10 => ?_) (fun c_10 => ?_)
          · rw [fa_eq] at c_10
            refine ok_calp (s_X2_ofKind (x1 := (6 : Int32)) (σ := σ) hB (by omega)) (fun v_7 h_12 => ?_)
            have b_v_7 := h_12
            (try dsimp only at b_v_7)
            exact ok_ret trivial
          · rw [fa_eq] at c_10
            exact ok_ret trivial
        · have c_9 := c_9
          refine ok_ite (fun c_13 => ?_) (fun c_13 => ?_)
          · have c_13 := c_13
            have g_15 := gX_34 hB 0
            refine ok_ite (fun c_14 => ?_) (fun c_14 => ?_)
            · rw [fa_eq] at c_14
              refine ok_calp (s_X2_ofKind (x1 := (7 : Int32)) (σ := σ) hB (by omega)) (fun v_9 h_16 => ?_)
              have b_v_9 := h_16
              (try dsimp only at b_v_9)
              exact ok_ret trivial
            · rw [fa_eq] at c_14
              exact ok_ret trivial
          · have c_13 := c_13
            refine ok_ite (fun c_17 => ?_) (fun c_17 => ?_)
            · have c_17 := c_17
              refine ok_calp (s_X1_mostParts  (σ := σ) hB) (fun v_10 h_18 => ?_)
              have b_v_10 := h_18
              (try dsimp only at b_v_10)
              exact ok_ret trivial
            · have c_17 := c_17
              refine ok_ite (fun c_19 => ?_) (fun c_19 => ?_)
              · have c_19 := c_19
                refine ok_calp (s_X3_highest  (σ := σ) hB) (fun v_11 h_20 => ?_)
                have b_v_11 := h_20
                (try dsimp only at b_v_11)
                exact ok_ret trivial
              · have c_19 := c_19
                refine ok_ite (fun c_21 => ?_) (fun c_21 => ?_)
                · have c_21 := c_21
                  refine ok_calp (s_X1_fullest  (σ := σ) hB) (fun v_12 h_22 => ?_)
                  have b_v_12 := h_22
                  (try dsimp only at b_v_12)
                  exact ok_ret trivial
                · have c_21 := c_21
                  refine ok_ite (fun c_23 => ?_) (fun c_23 => ?_)
                  · have c_23 := c_23
                    refine ok_calp (s_X10_howMany  (σ := σ) hB) (fun v_13 h_24 => ?_)
                    have b_v_13 := h_24
                    (try dsimp only at b_v_13)
                    exact ok_ret trivial
                  · have c_23 := c_23
                    exact ok_ret trivial

