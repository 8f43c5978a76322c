def loX (k : Nat) : Int := ([0, -128, 0, 0, 0, 0, 0, 0, -1, 0, 0, 0, 0, 0, 0, 0, -1, 0, 0, 0, 0, 0, 0, -1, -1, -1, -1, 0, 0, 0, 0, 0, 0, 0, 0, 0, 0, 0, 0, 0, 0, -1, 0, 0, 0, 0, 0, 0, 0, 0, -2147483648, -2147483648, 0, 0, -1, -1, 0, -1, 0, 0, 0, 0, 0, 0, 0, 0, -2147483648, -2147483648, 0, 0, 0, -2147483648, -1, 0, 0, 0, 0, -2147483648, -2147483648, -2147483648, -2147483648, 0, -2147483648, -2147483648, 0, -2147483648, 0, -2147483648, -2147483648, -2147483648, -2147483648, -2147483648, -2147483648, 0, 0] : List Int).getD k (-2147483648)
def hiX (k : Nat) : Int := ([1, 127, 240, 240, 40, 3, 255, 999, 6, 40, 40, 40, 40, 3, 255, 999, 6, 40, 40, 40, 40, 39, 39, 39, 39, 39, 39, 120, 120, 39, 39, 1, 6, 1, 1, 1, 2, 1, 1, 39, 39, 39, 39, 120, 119, 120, 512, 255, 999, 511, 2147483647, 2147483647, 320, 6, 160, 511, 320, 511, 160, 512, 511, 8, 1, 1, 1, 1, 2147483647, 2147483647, 800, 12, 39, 2147483647, 799, 799, 799, 799, 799, 2147483647, 2147483647, 2147483647, 2147483647, 8, 2147483647, 2147483647, 1, 2147483647, 2, 2147483647, 2147483647, 2147483647, 2147483647, 2147483647, 2147483647, 1399, 10000] : List Int).getD k 2147483647
abbrev BX (σ : Sto) : Prop := BD loX hiX σ
theorem gX_0 {σ : Sto} (h : BX σ) (i : Nat) : 0 ≤ (σ.1 0 i).toInt ∧ (σ.1 0 i).toInt ≤ 1 := h 0 i
theorem pX_0 {σ : Sto} (h : BX σ) {i : Nat} {v : Int32} (hv : 0 ≤ v.toInt ∧ v.toInt ≤ 1) : BX (sti σ 0 i v) := BD.st h hv
theorem gX_1 {σ : Sto} (h : BX σ) (i : Nat) : (-128) ≤ (σ.1 1 i).toInt ∧ (σ.1 1 i).toInt ≤ 127 := h 1 i
theorem pX_1 {σ : Sto} (h : BX σ) {i : Nat} {v : Int32} (hv : (-128) ≤ v.toInt ∧ v.toInt ≤ 127) : BX (sti σ 1 i v) := BD.st h hv
theorem gX_2 {σ : Sto} (h : BX σ) (i : Nat) : 0 ≤ (σ.1 2 i).toInt ∧ (σ.1 2 i).toInt ≤ 240 := h 2 i
theorem pX_2 {σ : Sto} (h : BX σ) {i : Nat} {v : Int32} (hv : 0 ≤ v.toInt ∧ v.toInt ≤ 240) : BX (sti σ 2 i v) := BD.st h hv
theorem gX_3 {σ : Sto} (h : BX σ) (i : Nat) : 0 ≤ (σ.1 3 i).toInt ∧ (σ.1 3 i).toInt ≤ 240 := h 3 i
theorem pX_3 {σ : Sto} (h : BX σ) {i : Nat} {v : Int32} (hv : 0 ≤ v.toInt ∧ v.toInt ≤ 240) : BX (sti σ 3 i v) := BD.st h hv
theorem gX_4 {σ : Sto} (h : BX σ) (i : Nat) : 0 ≤ (σ.1 4 i).toInt ∧ (σ.1 4 i).toInt ≤ 40 := h 4 i
theorem pX_4 {σ : Sto} (h : BX σ) {i : Nat} {v : Int32} (hv : 0 ≤ v.toInt ∧ v.toInt ≤ 40) : BX (sti σ 4 i v) := BD.st h hv
theorem gX_5 {σ : Sto} (h : BX σ) (i : Nat) : 0 ≤ (σ.1 5 i).toInt ∧ (σ.1 5 i).toInt ≤ 3 := h 5 i
theorem pX_5 {σ : Sto} (h : BX σ) {i : Nat} {v : Int32} (hv : 0 ≤ v.toInt ∧ v.toInt ≤ 3) : BX (sti σ 5 i v) := BD.st h hv
theorem gX_6 {σ : Sto} (h : BX σ) (i : Nat) : 0 ≤ (σ.1 6 i).toInt ∧ (σ.1 6 i).toInt ≤ 255 := h 6 i
theorem pX_6 {σ : Sto} (h : BX σ) {i : Nat} {v : Int32} (hv : 0 ≤ v.toInt ∧ v.toInt ≤ 255) : BX (sti σ 6 i v) := BD.st h hv
theorem gX_7 {σ : Sto} (h : BX σ) (i : Nat) : 0 ≤ (σ.1 7 i).toInt ∧ (σ.1 7 i).toInt ≤ 999 := h 7 i
theorem pX_7 {σ : Sto} (h : BX σ) {i : Nat} {v : Int32} (hv : 0 ≤ v.toInt ∧ v.toInt ≤ 999) : BX (sti σ 7 i v) := BD.st h hv
theorem gX_8 {σ : Sto} (h : BX σ) (i : Nat) : (-1) ≤ (σ.1 8 i).toInt ∧ (σ.1 8 i).toInt ≤ 6 := h 8 i
theorem pX_8 {σ : Sto} (h : BX σ) {i : Nat} {v : Int32} (hv : (-1) ≤ v.toInt ∧ v.toInt ≤ 6) : BX (sti σ 8 i v) := BD.st h hv
theorem gX_9 {σ : Sto} (h : BX σ) (i : Nat) : 0 ≤ (σ.1 9 i).toInt ∧ (σ.1 9 i).toInt ≤ 40 := h 9 i
theorem pX_9 {σ : Sto} (h : BX σ) {i : Nat} {v : Int32} (hv : 0 ≤ v.toInt ∧ v.toInt ≤ 40) : BX (sti σ 9 i v) := BD.st h hv
theorem gX_10 {σ : Sto} (h : BX σ) (i : Nat) : 0 ≤ (σ.1 10 i).toInt ∧ (σ.1 10 i).toInt ≤ 40 := h 10 i
theorem pX_10 {σ : Sto} (h : BX σ) {i : Nat} {v : Int32} (hv : 0 ≤ v.toInt ∧ v.toInt ≤ 40) : BX (sti σ 10 i v) := BD.st h hv
theorem gX_11 {σ : Sto} (h : BX σ) (i : Nat) : 0 ≤ (σ.1 11 i).toInt ∧ (σ.1 11 i).toInt ≤ 40 := h 11 i
theorem pX_11 {σ : Sto} (h : BX σ) {i : Nat} {v : Int32} (hv : 0 ≤ v.toInt ∧ v.toInt ≤ 40) : BX (sti σ 11 i v) := BD.st h hv
theorem gX_12 {σ : Sto} (h : BX σ) (i : Nat) : 0 ≤ (σ.1 12 i).toInt ∧ (σ.1 12 i).toInt ≤ 40 := h 12 i
theorem pX_12 {σ : Sto} (h : BX σ) {i : Nat} {v : Int32} (hv : 0 ≤ v.toInt ∧ v.toInt ≤ 40) : BX (sti σ 12 i v) := BD.st h hv
theorem gX_13 {σ : Sto} (h : BX σ) (i : Nat) : 0 ≤ (σ.1 13 i).toInt ∧ (σ.1 13 i).toInt ≤ 3 := h 13 i
theorem pX_13 {σ : Sto} (h : BX σ) {i : Nat} {v : Int32} (hv : 0 ≤ v.toInt ∧ v.toInt ≤ 3) : BX (sti σ 13 i v) := BD.st h hv
theorem gX_14 {σ : Sto} (h : BX σ) (i : Nat) : 0 ≤ (σ.1 14 i).toInt ∧ (σ.1 14 i).toInt ≤ 255 := h 14 i
theorem pX_14 {σ : Sto} (h : BX σ) {i : Nat} {v : Int32} (hv : 0 ≤ v.toInt ∧ v.toInt ≤ 255) : BX (sti σ 14 i v) := BD.st h hv
theorem gX_15 {σ : Sto} (h : BX σ) (i : Nat) : 0 ≤ (σ.1 15 i).toInt ∧ (σ.1 15 i).toInt ≤ 999 := h 15 i
theorem pX_15 {σ : Sto} (h : BX σ) {i : Nat} {v : Int32} (hv : 0 ≤ v.toInt ∧ v.toInt ≤ 999) : BX (sti σ 15 i v) := BD.st h hv
theorem gX_16 {σ : Sto} (h : BX σ) (i : Nat) : (-1) ≤ (σ.1 16 i).toInt ∧ (σ.1 16 i).toInt ≤ 6 := h 16 i
theorem pX_16 {σ : Sto} (h : BX σ) {i : Nat} {v : Int32} (hv : (-1) ≤ v.toInt ∧ v.toInt ≤ 6) : BX (sti σ 16 i v) := BD.st h hv
theorem gX_17 {σ : Sto} (h : BX σ) (i : Nat) : 0 ≤ (σ.1 17 i).toInt ∧ (σ.1 17 i).toInt ≤ 40 := h 17 i
theorem pX_17 {σ : Sto} (h : BX σ) {i : Nat} {v : Int32} (hv : 0 ≤ v.toInt ∧ v.toInt ≤ 40) : BX (sti σ 17 i v) := BD.st h hv
theorem gX_18 {σ : Sto} (h : BX σ) (i : Nat) : 0 ≤ (σ.1 18 i).toInt ∧ (σ.1 18 i).toInt ≤ 40 := h 18 i
theorem pX_18 {σ : Sto} (h : BX σ) {i : Nat} {v : Int32} (hv : 0 ≤ v.toInt ∧ v.toInt ≤ 40) : BX (sti σ 18 i v) := BD.st h hv
theorem gX_19 {σ : Sto} (h : BX σ) (i : Nat) : 0 ≤ (σ.1 19 i).toInt ∧ (σ.1 19 i).toInt ≤ 40 := h 19 i
theorem pX_19 {σ : Sto} (h : BX σ) {i : Nat} {v : Int32} (hv : 0 ≤ v.toInt ∧ v.toInt ≤ 40) : BX (sti σ 19 i v) := BD.st h hv
theorem gX_20 {σ : Sto} (h : BX σ) (i : Nat) : 0 ≤ (σ.1 20 i).toInt ∧ (σ.1 20 i).toInt ≤ 40 := h 20 i
theorem pX_20 {σ : Sto} (h : BX σ) {i : Nat} {v : Int32} (hv : 0 ≤ v.toInt ∧ v.toInt ≤ 40) : BX (sti σ 20 i v) := BD.st h hv
theorem gX_21 {σ : Sto} (h : BX σ) (i : Nat) : 0 ≤ (σ.1 21 i).toInt ∧ (σ.1 21 i).toInt ≤ 39 := h 21 i
theorem pX_21 {σ : Sto} (h : BX σ) {i : Nat} {v : Int32} (hv : 0 ≤ v.toInt ∧ v.toInt ≤ 39) : BX (sti σ 21 i v) := BD.st h hv
theorem gX_22 {σ : Sto} (h : BX σ) (i : Nat) : 0 ≤ (σ.1 22 i).toInt ∧ (σ.1 22 i).toInt ≤ 39 := h 22 i
theorem pX_22 {σ : Sto} (h : BX σ) {i : Nat} {v : Int32} (hv : 0 ≤ v.toInt ∧ v.toInt ≤ 39) : BX (sti σ 22 i v) := BD.st h hv
theorem gX_23 {σ : Sto} (h : BX σ) (i : Nat) : (-1) ≤ (σ.1 23 i).toInt ∧ (σ.1 23 i).toInt ≤ 39 := h 23 i
theorem pX_23 {σ : Sto} (h : BX σ) {i : Nat} {v : Int32} (hv : (-1) ≤ v.toInt ∧ v.toInt ≤ 39) : BX (sti σ 23 i v) := BD.st h hv
theorem gX_24 {σ : Sto} (h : BX σ) (i : Nat) : (-1) ≤ (σ.1 24 i).toInt ∧ (σ.1 24 i).toInt ≤ 39 := h 24 i
theorem pX_24 {σ : Sto} (h : BX σ) {i : Nat} {v : Int32} (hv : (-1) ≤ v.toInt ∧ v.toInt ≤ 39) : BX (sti σ 24 i v) := BD.st h hv
theorem gX_25 {σ : Sto} (h : BX σ) (i : Nat) : (-1) ≤ (σ.1 25 i).toInt ∧ (σ.1 25 i).toInt ≤ 39 := h 25 i
theorem pX_25 {σ : Sto} (h : BX σ) {i : Nat} {v : Int32} (hv : (-1) ≤ v.toInt ∧ v.toInt ≤ 39) : BX (sti σ 25 i v) := BD.st h hv
theorem gX_26 {σ : Sto} (h : BX σ) (i : Nat) : (-1) ≤ (σ.1 26 i).toInt ∧ (σ.1 26 i).toInt ≤ 39 := h 26 i
theorem pX_26 {σ : Sto} (h : BX σ) {i : Nat} {v : Int32} (hv : (-1) ≤ v.toInt ∧ v.toInt ≤ 39) : BX (sti σ 26 i v) := BD.st h hv
theorem gX_27 {σ : Sto} (h : BX σ) (i : Nat) : 0 ≤ (σ.1 27 i).toInt ∧ (σ.1 27 i).toInt ≤ 120 := h 27 i
theorem pX_27 {σ : Sto} (h : BX σ) {i : Nat} {v : Int32} (hv : 0 ≤ v.toInt ∧ v.toInt ≤ 120) : BX (sti σ 27 i v) := BD.st h hv
theorem gX_28 {σ : Sto} (h : BX σ) (i : Nat) : 0 ≤ (σ.1 28 i).toInt ∧ (σ.1 28 i).toInt ≤ 120 := h 28 i
theorem pX_28 {σ : Sto} (h : BX σ) {i : Nat} {v : Int32} (hv : 0 ≤ v.toInt ∧ v.toInt ≤ 120) : BX (sti σ 28 i v) := BD.st h hv
theorem gX_29 {σ : Sto} (h : BX σ) (i : Nat) : 0 ≤ (σ.1 29 i).toInt ∧ (σ.1 29 i).toInt ≤ 39 := h 29 i
theorem pX_29 {σ : Sto} (h : BX σ) {i : Nat} {v : Int32} (hv : 0 ≤ v.toInt ∧ v.toInt ≤ 39) : BX (sti σ 29 i v) := BD.st h hv
theorem gX_30 {σ : Sto} (h : BX σ) (i : Nat) : 0 ≤ (σ.1 30 i).toInt ∧ (σ.1 30 i).toInt ≤ 39 := h 30 i
theorem pX_30 {σ : Sto} (h : BX σ) {i : Nat} {v : Int32} (hv : 0 ≤ v.toInt ∧ v.toInt ≤ 39) : BX (sti σ 30 i v) := BD.st h hv
theorem gX_31 {σ : Sto} (h : BX σ) (i : Nat) : 0 ≤ (σ.1 31 i).toInt ∧ (σ.1 31 i).toInt ≤ 1 := h 31 i
theorem pX_31 {σ : Sto} (h : BX σ) {i : Nat} {v : Int32} (hv : 0 ≤ v.toInt ∧ v.toInt ≤ 1) : BX (sti σ 31 i v) := BD.st h hv
theorem gX_32 {σ : Sto} (h : BX σ) (i : Nat) : 0 ≤ (σ.1 32 i).toInt ∧ (σ.1 32 i).toInt ≤ 6 := h 32 i
theorem pX_32 {σ : Sto} (h : BX σ) {i : Nat} {v : Int32} (hv : 0 ≤ v.toInt ∧ v.toInt ≤ 6) : BX (sti σ 32 i v) := BD.st h hv
theorem gX_33 {σ : Sto} (h : BX σ) (i : Nat) : 0 ≤ (σ.1 33 i).toInt ∧ (σ.1 33 i).toInt ≤ 1 := h 33 i
theorem pX_33 {σ : Sto} (h : BX σ) {i : Nat} {v : Int32} (hv : 0 ≤ v.toInt ∧ v.toInt ≤ 1) : BX (sti σ 33 i v) := BD.st h hv
theorem gX_34 {σ : Sto} (h : BX σ) (i : Nat) : 0 ≤ (σ.1 34 i).toInt ∧ (σ.1 34 i).toInt ≤ 1 := h 34 i
theorem pX_34 {σ : Sto} (h : BX σ) {i : Nat} {v : Int32} (hv : 0 ≤ v.toInt ∧ v.toInt ≤ 1) : BX (sti σ 34 i v) := BD.st h hv
theorem gX_35 {σ : Sto} (h : BX σ) (i : Nat) : 0 ≤ (σ.1 35 i).toInt ∧ (σ.1 35 i).toInt ≤ 1 := h 35 i
theorem pX_35 {σ : Sto} (h : BX σ) {i : Nat} {v : Int32} (hv : 0 ≤ v.toInt ∧ v.toInt ≤ 1) : BX (sti σ 35 i v) := BD.st h hv
theorem gX_36 {σ : Sto} (h : BX σ) (i : Nat) : 0 ≤ (σ.1 36 i).toInt ∧ (σ.1 36 i).toInt ≤ 2 := h 36 i
theorem pX_36 {σ : Sto} (h : BX σ) {i : Nat} {v : Int32} (hv : 0 ≤ v.toInt ∧ v.toInt ≤ 2) : BX (sti σ 36 i v) := BD.st h hv
theorem gX_37 {σ : Sto} (h : BX σ) (i : Nat) : 0 ≤ (σ.1 37 i).toInt ∧ (σ.1 37 i).toInt ≤ 1 := h 37 i
theorem pX_37 {σ : Sto} (h : BX σ) {i : Nat} {v : Int32} (hv : 0 ≤ v.toInt ∧ v.toInt ≤ 1) : BX (sti σ 37 i v) := BD.st h hv
theorem gX_38 {σ : Sto} (h : BX σ) (i : Nat) : 0 ≤ (σ.1 38 i).toInt ∧ (σ.1 38 i).toInt ≤ 1 := h 38 i
theorem pX_38 {σ : Sto} (h : BX σ) {i : Nat} {v : Int32} (hv : 0 ≤ v.toInt ∧ v.toInt ≤ 1) : BX (sti σ 38 i v) := BD.st h hv
theorem gX_39 {σ : Sto} (h : BX σ) (i : Nat) : 0 ≤ (σ.1 39 i).toInt ∧ (σ.1 39 i).toInt ≤ 39 := h 39 i
theorem pX_39 {σ : Sto} (h : BX σ) {i : Nat} {v : Int32} (hv : 0 ≤ v.toInt ∧ v.toInt ≤ 39) : BX (sti σ 39 i v) := BD.st h hv
theorem gX_40 {σ : Sto} (h : BX σ) (i : Nat) : 0 ≤ (σ.1 40 i).toInt ∧ (σ.1 40 i).toInt ≤ 39 := h 40 i
theorem pX_40 {σ : Sto} (h : BX σ) {i : Nat} {v : Int32} (hv : 0 ≤ v.toInt ∧ v.toInt ≤ 39) : BX (sti σ 40 i v) := BD.st h hv
theorem gX_41 {σ : Sto} (h : BX σ) (i : Nat) : (-1) ≤ (σ.1 41 i).toInt ∧ (σ.1 41 i).toInt ≤ 39 := h 41 i
theorem pX_41 {σ : Sto} (h : BX σ) {i : Nat} {v : Int32} (hv : (-1) ≤ v.toInt ∧ v.toInt ≤ 39) : BX (sti σ 41 i v) := BD.st h hv
theorem gX_42 {σ : Sto} (h : BX σ) (i : Nat) : 0 ≤ (σ.1 42 i).toInt ∧ (σ.1 42 i).toInt ≤ 39 := h 42 i
theorem pX_42 {σ : Sto} (h : BX σ) {i : Nat} {v : Int32} (hv : 0 ≤ v.toInt ∧ v.toInt ≤ 39) : BX (sti σ 42 i v) := BD.st h hv
theorem gX_43 {σ : Sto} (h : BX σ) (i : Nat) : 0 ≤ (σ.1 43 i).toInt ∧ (σ.1 43 i).toInt ≤ 120 := h 43 i
theorem pX_43 {σ : Sto} (h : BX σ) {i : Nat} {v : Int32} (hv : 0 ≤ v.toInt ∧ v.toInt ≤ 120) : BX (sti σ 43 i v) := BD.st h hv
theorem gX_44 {σ : Sto} (h : BX σ) (i : Nat) : 0 ≤ (σ.1 44 i).toInt ∧ (σ.1 44 i).toInt ≤ 119 := h 44 i
theorem pX_44 {σ : Sto} (h : BX σ) {i : Nat} {v : Int32} (hv : 0 ≤ v.toInt ∧ v.toInt ≤ 119) : BX (sti σ 44 i v) := BD.st h hv
theorem gX_45 {σ : Sto} (h : BX σ) (i : Nat) : 0 ≤ (σ.1 45 i).toInt ∧ (σ.1 45 i).toInt ≤ 120 := h 45 i
theorem pX_45 {σ : Sto} (h : BX σ) {i : Nat} {v : Int32} (hv : 0 ≤ v.toInt ∧ v.toInt ≤ 120) : BX (sti σ 45 i v) := BD.st h hv
theorem gX_46 {σ : Sto} (h : BX σ) (i : Nat) : 0 ≤ (σ.1 46 i).toInt ∧ (σ.1 46 i).toInt ≤ 512 := h 46 i
theorem pX_46 {σ : Sto} (h : BX σ) {i : Nat} {v : Int32} (hv : 0 ≤ v.toInt ∧ v.toInt ≤ 512) : BX (sti σ 46 i v) := BD.st h hv
theorem gX_47 {σ : Sto} (h : BX σ) (i : Nat) : 0 ≤ (σ.1 47 i).toInt ∧ (σ.1 47 i).toInt ≤ 255 := h 47 i
theorem pX_47 {σ : Sto} (h : BX σ) {i : Nat} {v : Int32} (hv : 0 ≤ v.toInt ∧ v.toInt ≤ 255) : BX (sti σ 47 i v) := BD.st h hv
theorem gX_48 {σ : Sto} (h : BX σ) (i : Nat) : 0 ≤ (σ.1 48 i).toInt ∧ (σ.1 48 i).toInt ≤ 999 := h 48 i
theorem pX_48 {σ : Sto} (h : BX σ) {i : Nat} {v : Int32} (hv : 0 ≤ v.toInt ∧ v.toInt ≤ 999) : BX (sti σ 48 i v) := BD.st h hv
theorem gX_49 {σ : Sto} (h : BX σ) (i : Nat) : 0 ≤ (σ.1 49 i).toInt ∧ (σ.1 49 i).toInt ≤ 511 := h 49 i
theorem pX_49 {σ : Sto} (h : BX σ) {i : Nat} {v : Int32} (hv : 0 ≤ v.toInt ∧ v.toInt ≤ 511) : BX (sti σ 49 i v) := BD.st h hv
theorem gX_50 {σ : Sto} (h : BX σ) (i : Nat) : (-2147483648) ≤ (σ.1 50 i).toInt ∧ (σ.1 50 i).toInt ≤ 2147483647 := h 50 i
theorem pX_50 {σ : Sto} (h : BX σ) {i : Nat} {v : Int32} (hv : (-2147483648) ≤ v.toInt ∧ v.toInt ≤ 2147483647) : BX (sti σ 50 i v) := BD.st h hv
theorem gX_51 {σ : Sto} (h : BX σ) (i : Nat) : (-2147483648) ≤ (σ.1 51 i).toInt ∧ (σ.1 51 i).toInt ≤ 2147483647 := h 51 i
theorem pX_51 {σ : Sto} (h : BX σ) {i : Nat} {v : Int32} (hv : (-2147483648) ≤ v.toInt ∧ v.toInt ≤ 2147483647) : BX (sti σ 51 i v) := BD.st h hv
theorem gX_52 {σ : Sto} (h : BX σ) (i : Nat) : 0 ≤ (σ.1 52 i).toInt ∧ (σ.1 52 i).toInt ≤ 320 := h 52 i
theorem pX_52 {σ : Sto} (h : BX σ) {i : Nat} {v : Int32} (hv : 0 ≤ v.toInt ∧ v.toInt ≤ 320) : BX (sti σ 52 i v) := BD.st h hv
theorem gX_53 {σ : Sto} (h : BX σ) (i : Nat) : 0 ≤ (σ.1 53 i).toInt ∧ (σ.1 53 i).toInt ≤ 6 := h 53 i
theorem pX_53 {σ : Sto} (h : BX σ) {i : Nat} {v : Int32} (hv : 0 ≤ v.toInt ∧ v.toInt ≤ 6) : BX (sti σ 53 i v) := BD.st h hv
theorem gX_54 {σ : Sto} (h : BX σ) (i : Nat) : (-1) ≤ (σ.1 54 i).toInt ∧ (σ.1 54 i).toInt ≤ 160 := h 54 i
theorem pX_54 {σ : Sto} (h : BX σ) {i : Nat} {v : Int32} (hv : (-1) ≤ v.toInt ∧ v.toInt ≤ 160) : BX (sti σ 54 i v) := BD.st h hv
theorem gX_55 {σ : Sto} (h : BX σ) (i : Nat) : (-1) ≤ (σ.1 55 i).toInt ∧ (σ.1 55 i).toInt ≤ 511 := h 55 i
theorem pX_55 {σ : Sto} (h : BX σ) {i : Nat} {v : Int32} (hv : (-1) ≤ v.toInt ∧ v.toInt ≤ 511) : BX (sti σ 55 i v) := BD.st h hv
theorem gX_56 {σ : Sto} (h : BX σ) (i : Nat) : 0 ≤ (σ.1 56 i).toInt ∧ (σ.1 56 i).toInt ≤ 320 := h 56 i
theorem pX_56 {σ : Sto} (h : BX σ) {i : Nat} {v : Int32} (hv : 0 ≤ v.toInt ∧ v.toInt ≤ 320) : BX (sti σ 56 i v) := BD.st h hv
theorem gX_57 {σ : Sto} (h : BX σ) (i : Nat) : (-1) ≤ (σ.1 57 i).toInt ∧ (σ.1 57 i).toInt ≤ 511 := h 57 i
theorem pX_57 {σ : Sto} (h : BX σ) {i : Nat} {v : Int32} (hv : (-1) ≤ v.toInt ∧ v.toInt ≤ 511) : BX (sti σ 57 i v) := BD.st h hv
theorem gX_58 {σ : Sto} (h : BX σ) (i : Nat) : 0 ≤ (σ.1 58 i).toInt ∧ (σ.1 58 i).toInt ≤ 160 := h 58 i
theorem pX_58 {σ : Sto} (h : BX σ) {i : Nat} {v : Int32} (hv : 0 ≤ v.toInt ∧ v.toInt ≤ 160) : BX (sti σ 58 i v) := BD.st h hv
theorem gX_59 {σ : Sto} (h : BX σ) (i : Nat) : 0 ≤ (σ.1 59 i).toInt ∧ (σ.1 59 i).toInt ≤ 512 := h 59 i
theorem pX_59 {σ : Sto} (h : BX σ) {i : Nat} {v : Int32} (hv : 0 ≤ v.toInt ∧ v.toInt ≤ 512) : BX (sti σ 59 i v) := BD.st h hv
theorem gX_60 {σ : Sto} (h : BX σ) (i : Nat) : 0 ≤ (σ.1 60 i).toInt ∧ (σ.1 60 i).toInt ≤ 511 := h 60 i
theorem pX_60 {σ : Sto} (h : BX σ) {i : Nat} {v : Int32} (hv : 0 ≤ v.toInt ∧ v.toInt ≤ 511) : BX (sti σ 60 i v) := BD.st h hv
theorem gX_61 {σ : Sto} (h : BX σ) (i : Nat) : 0 ≤ (σ.1 61 i).toInt ∧ (σ.1 61 i).toInt ≤ 8 := h 61 i
theorem pX_61 {σ : Sto} (h : BX σ) {i : Nat} {v : Int32} (hv : 0 ≤ v.toInt ∧ v.toInt ≤ 8) : BX (sti σ 61 i v) := BD.st h hv
theorem gX_62 {σ : Sto} (h : BX σ) (i : Nat) : 0 ≤ (σ.1 62 i).toInt ∧ (σ.1 62 i).toInt ≤ 1 := h 62 i
theorem pX_62 {σ : Sto} (h : BX σ) {i : Nat} {v : Int32} (hv : 0 ≤ v.toInt ∧ v.toInt ≤ 1) : BX (sti σ 62 i v) := BD.st h hv
theorem gX_63 {σ : Sto} (h : BX σ) (i : Nat) : 0 ≤ (σ.1 63 i).toInt ∧ (σ.1 63 i).toInt ≤ 1 := h 63 i
theorem pX_63 {σ : Sto} (h : BX σ) {i : Nat} {v : Int32} (hv : 0 ≤ v.toInt ∧ v.toInt ≤ 1) : BX (sti σ 63 i v) := BD.st h hv
theorem gX_64 {σ : Sto} (h : BX σ) (i : Nat) : 0 ≤ (σ.1 64 i).toInt ∧ (σ.1 64 i).toInt ≤ 1 := h 64 i
theorem pX_64 {σ : Sto} (h : BX σ) {i : Nat} {v : Int32} (hv : 0 ≤ v.toInt ∧ v.toInt ≤ 1) : BX (sti σ 64 i v) := BD.st h hv
theorem gX_65 {σ : Sto} (h : BX σ) (i : Nat) : 0 ≤ (σ.1 65 i).toInt ∧ (σ.1 65 i).toInt ≤ 1 := h 65 i
theorem pX_65 {σ : Sto} (h : BX σ) {i : Nat} {v : Int32} (hv : 0 ≤ v.toInt ∧ v.toInt ≤ 1) : BX (sti σ 65 i v) := BD.st h hv
theorem gX_66 {σ : Sto} (h : BX σ) (i : Nat) : (-2147483648) ≤ (σ.1 66 i).toInt ∧ (σ.1 66 i).toInt ≤ 2147483647 := h 66 i
theorem pX_66 {σ : Sto} (h : BX σ) {i : Nat} {v : Int32} (hv : (-2147483648) ≤ v.toInt ∧ v.toInt ≤ 2147483647) : BX (sti σ 66 i v) := BD.st h hv
theorem gX_67 {σ : Sto} (h : BX σ) (i : Nat) : (-2147483648) ≤ (σ.1 67 i).toInt ∧ (σ.1 67 i).toInt ≤ 2147483647 := h 67 i
theorem pX_67 {σ : Sto} (h : BX σ) {i : Nat} {v : Int32} (hv : (-2147483648) ≤ v.toInt ∧ v.toInt ≤ 2147483647) : BX (sti σ 67 i v) := BD.st h hv
theorem gX_68 {σ : Sto} (h : BX σ) (i : Nat) : 0 ≤ (σ.1 68 i).toInt ∧ (σ.1 68 i).toInt ≤ 800 := h 68 i
theorem pX_68 {σ : Sto} (h : BX σ) {i : Nat} {v : Int32} (hv : 0 ≤ v.toInt ∧ v.toInt ≤ 800) : BX (sti σ 68 i v) := BD.st h hv
theorem gX_69 {σ : Sto} (h : BX σ) (i : Nat) : 0 ≤ (σ.1 69 i).toInt ∧ (σ.1 69 i).toInt ≤ 12 := h 69 i
theorem pX_69 {σ : Sto} (h : BX σ) {i : Nat} {v : Int32} (hv : 0 ≤ v.toInt ∧ v.toInt ≤ 12) : BX (sti σ 69 i v) := BD.st h hv
theorem gX_70 {σ : Sto} (h : BX σ) (i : Nat) : 0 ≤ (σ.1 70 i).toInt ∧ (σ.1 70 i).toInt ≤ 39 := h 70 i
theorem pX_70 {σ : Sto} (h : BX σ) {i : Nat} {v : Int32} (hv : 0 ≤ v.toInt ∧ v.toInt ≤ 39) : BX (sti σ 70 i v) := BD.st h hv
theorem gX_71 {σ : Sto} (h : BX σ) (i : Nat) : (-2147483648) ≤ (σ.1 71 i).toInt ∧ (σ.1 71 i).toInt ≤ 2147483647 := h 71 i
theorem pX_71 {σ : Sto} (h : BX σ) {i : Nat} {v : Int32} (hv : (-2147483648) ≤ v.toInt ∧ v.toInt ≤ 2147483647) : BX (sti σ 71 i v) := BD.st h hv
theorem gX_72 {σ : Sto} (h : BX σ) (i : Nat) : (-1) ≤ (σ.1 72 i).toInt ∧ (σ.1 72 i).toInt ≤ 799 := h 72 i
theorem pX_72 {σ : Sto} (h : BX σ) {i : Nat} {v : Int32} (hv : (-1) ≤ v.toInt ∧ v.toInt ≤ 799) : BX (sti σ 72 i v) := BD.st h hv
theorem gX_73 {σ : Sto} (h : BX σ) (i : Nat) : 0 ≤ (σ.1 73 i).toInt ∧ (σ.1 73 i).toInt ≤ 799 := h 73 i
theorem pX_73 {σ : Sto} (h : BX σ) {i : Nat} {v : Int32} (hv : 0 ≤ v.toInt ∧ v.toInt ≤ 799) : BX (sti σ 73 i v) := BD.st h hv
theorem gX_74 {σ : Sto} (h : BX σ) (i : Nat) : 0 ≤ (σ.1 74 i).toInt ∧ (σ.1 74 i).toInt ≤ 799 := h 74 i
theorem pX_74 {σ : Sto} (h : BX σ) {i : Nat} {v : Int32} (hv : 0 ≤ v.toInt ∧ v.toInt ≤ 799) : BX (sti σ 74 i v) := BD.st h hv
theorem gX_75 {σ : Sto} (h : BX σ) (i : Nat) : 0 ≤ (σ.1 75 i).toInt ∧ (σ.1 75 i).toInt ≤ 799 := h 75 i
theorem pX_75 {σ : Sto} (h : BX σ) {i : Nat} {v : Int32} (hv : 0 ≤ v.toInt ∧ v.toInt ≤ 799) : BX (sti σ 75 i v) := BD.st h hv
theorem gX_76 {σ : Sto} (h : BX σ) (i : Nat) : 0 ≤ (σ.1 76 i).toInt ∧ (σ.1 76 i).toInt ≤ 799 := h 76 i
theorem pX_76 {σ : Sto} (h : BX σ) {i : Nat} {v : Int32} (hv : 0 ≤ v.toInt ∧ v.toInt ≤ 799) : BX (sti σ 76 i v) := BD.st h hv
theorem gX_77 {σ : Sto} (h : BX σ) (i : Nat) : (-2147483648) ≤ (σ.1 77 i).toInt ∧ (σ.1 77 i).toInt ≤ 2147483647 := h 77 i
theorem pX_77 {σ : Sto} (h : BX σ) {i : Nat} {v : Int32} (hv : (-2147483648) ≤ v.toInt ∧ v.toInt ≤ 2147483647) : BX (sti σ 77 i v) := BD.st h hv
theorem gX_78 {σ : Sto} (h : BX σ) (i : Nat) : (-2147483648) ≤ (σ.1 78 i).toInt ∧ (σ.1 78 i).toInt ≤ 2147483647 := h 78 i
theorem pX_78 {σ : Sto} (h : BX σ) {i : Nat} {v : Int32} (hv : (-2147483648) ≤ v.toInt ∧ v.toInt ≤ 2147483647) : BX (sti σ 78 i v) := BD.st h hv
theorem gX_79 {σ : Sto} (h : BX σ) (i : Nat) : (-2147483648) ≤ (σ.1 79 i).toInt ∧ (σ.1 79 i).toInt ≤ 2147483647 := h 79 i
theorem pX_79 {σ : Sto} (h : BX σ) {i : Nat} {v : Int32} (hv : (-2147483648) ≤ v.toInt ∧ v.toInt ≤ 2147483647) : BX (sti σ 79 i v) := BD.st h hv
theorem gX_80 {σ : Sto} (h : BX σ) (i : Nat) : (-2147483648) ≤ (σ.1 80 i).toInt ∧ (σ.1 80 i).toInt ≤ 2147483647 := h 80 i
theorem pX_80 {σ : Sto} (h : BX σ) {i : Nat} {v : Int32} (hv : (-2147483648) ≤ v.toInt ∧ v.toInt ≤ 2147483647) : BX (sti σ 80 i v) := BD.st h hv
theorem gX_81 {σ : Sto} (h : BX σ) (i : Nat) : 0 ≤ (σ.1 81 i).toInt ∧ (σ.1 81 i).toInt ≤ 8 := h 81 i
theorem pX_81 {σ : Sto} (h : BX σ) {i : Nat} {v : Int32} (hv : 0 ≤ v.toInt ∧ v.toInt ≤ 8) : BX (sti σ 81 i v) := BD.st h hv
theorem gX_82 {σ : Sto} (h : BX σ) (i : Nat) : (-2147483648) ≤ (σ.1 82 i).toInt ∧ (σ.1 82 i).toInt ≤ 2147483647 := h 82 i
theorem pX_82 {σ : Sto} (h : BX σ) {i : Nat} {v : Int32} (hv : (-2147483648) ≤ v.toInt ∧ v.toInt ≤ 2147483647) : BX (sti σ 82 i v) := BD.st h hv
theorem gX_83 {σ : Sto} (h : BX σ) (i : Nat) : (-2147483648) ≤ (σ.1 83 i).toInt ∧ (σ.1 83 i).toInt ≤ 2147483647 := h 83 i
theorem pX_83 {σ : Sto} (h : BX σ) {i : Nat} {v : Int32} (hv : (-2147483648) ≤ v.toInt ∧ v.toInt ≤ 2147483647) : BX (sti σ 83 i v) := BD.st h hv
theorem gX_84 {σ : Sto} (h : BX σ) (i : Nat) : 0 ≤ (σ.1 84 i).toInt ∧ (σ.1 84 i).toInt ≤ 1 := h 84 i
theorem pX_84 {σ : Sto} (h : BX σ) {i : Nat} {v : Int32} (hv : 0 ≤ v.toInt ∧ v.toInt ≤ 1) : BX (sti σ 84 i v) := BD.st h hv
theorem gX_85 {σ : Sto} (h : BX σ) (i : Nat) : (-2147483648) ≤ (σ.1 85 i).toInt ∧ (σ.1 85 i).toInt ≤ 2147483647 := h 85 i
theorem pX_85 {σ : Sto} (h : BX σ) {i : Nat} {v : Int32} (hv : (-2147483648) ≤ v.toInt ∧ v.toInt ≤ 2147483647) : BX (sti σ 85 i v) := BD.st h hv
theorem gX_86 {σ : Sto} (h : BX σ) (i : Nat) : 0 ≤ (σ.1 86 i).toInt ∧ (σ.1 86 i).toInt ≤ 2 := h 86 i
theorem pX_86 {σ : Sto} (h : BX σ) {i : Nat} {v : Int32} (hv : 0 ≤ v.toInt ∧ v.toInt ≤ 2) : BX (sti σ 86 i v) := BD.st h hv
theorem gX_87 {σ : Sto} (h : BX σ) (i : Nat) : (-2147483648) ≤ (σ.1 87 i).toInt ∧ (σ.1 87 i).toInt ≤ 2147483647 := h 87 i
theorem pX_87 {σ : Sto} (h : BX σ) {i : Nat} {v : Int32} (hv : (-2147483648) ≤ v.toInt ∧ v.toInt ≤ 2147483647) : BX (sti σ 87 i v) := BD.st h hv
theorem gX_88 {σ : Sto} (h : BX σ) (i : Nat) : (-2147483648) ≤ (σ.1 88 i).toInt ∧ (σ.1 88 i).toInt ≤ 2147483647 := h 88 i
theorem pX_88 {σ : Sto} (h : BX σ) {i : Nat} {v : Int32} (hv : (-2147483648) ≤ v.toInt ∧ v.toInt ≤ 2147483647) : BX (sti σ 88 i v) := BD.st h hv
theorem gX_89 {σ : Sto} (h : BX σ) (i : Nat) : (-2147483648) ≤ (σ.1 89 i).toInt ∧ (σ.1 89 i).toInt ≤ 2147483647 := h 89 i
theorem pX_89 {σ : Sto} (h : BX σ) {i : Nat} {v : Int32} (hv : (-2147483648) ≤ v.toInt ∧ v.toInt ≤ 2147483647) : BX (sti σ 89 i v) := BD.st h hv
theorem gX_90 {σ : Sto} (h : BX σ) (i : Nat) : (-2147483648) ≤ (σ.1 90 i).toInt ∧ (σ.1 90 i).toInt ≤ 2147483647 := h 90 i
theorem pX_90 {σ : Sto} (h : BX σ) {i : Nat} {v : Int32} (hv : (-2147483648) ≤ v.toInt ∧ v.toInt ≤ 2147483647) : BX (sti σ 90 i v) := BD.st h hv
theorem gX_91 {σ : Sto} (h : BX σ) (i : Nat) : (-2147483648) ≤ (σ.1 91 i).toInt ∧ (σ.1 91 i).toInt ≤ 2147483647 := h 91 i
theorem pX_91 {σ : Sto} (h : BX σ) {i : Nat} {v : Int32} (hv : (-2147483648) ≤ v.toInt ∧ v.toInt ≤ 2147483647) : BX (sti σ 91 i v) := BD.st h hv
theorem gX_92 {σ : Sto} (h : BX σ) (i : Nat) : (-2147483648) ≤ (σ.1 92 i).toInt ∧ (σ.1 92 i).toInt ≤ 2147483647 := h 92 i
theorem pX_92 {σ : Sto} (h : BX σ) {i : Nat} {v : Int32} (hv : (-2147483648) ≤ v.toInt ∧ v.toInt ≤ 2147483647) : BX (sti σ 92 i v) := BD.st h hv
theorem gX_93 {σ : Sto} (h : BX σ) (i : Nat) : 0 ≤ (σ.1 93 i).toInt ∧ (σ.1 93 i).toInt ≤ 1399 := h 93 i
theorem pX_93 {σ : Sto} (h : BX σ) {i : Nat} {v : Int32} (hv : 0 ≤ v.toInt ∧ v.toInt ≤ 1399) : BX (sti σ 93 i v) := BD.st h hv
theorem gX_94 {σ : Sto} (h : BX σ) (i : Nat) : 0 ≤ (σ.1 94 i).toInt ∧ (σ.1 94 i).toInt ≤ 10000 := h 94 i
theorem pX_94 {σ : Sto} (h : BX σ) {i : Nat} {v : Int32} (hv : 0 ≤ v.toInt ∧ v.toInt ≤ 10000) : BX (sti σ 94 i v) := BD.st h hv
def opU (g : Int32) : Prop := g.toInt = 33 ∨ g.toInt = 110
def opB (g : Int32) : Prop := g.toInt = 43 ∨ g.toInt = 45 ∨ g.toInt = 42 ∨ g.toInt = 47 ∨ g.toInt = 37 ∨ g.toInt = 60 ∨ g.toInt = 61
def T1 (e : Int) (g l r : Int32) : Prop := (g.toInt ≠ 107 → l.toInt ≤ 511) ∧ (g.toInt = 108 → l.toInt ≤ 5) ∧ (g.toInt = 84 → l.toInt ≤ 5) ∧ (g.toInt = 88 → l.toInt ≤ 160) ∧ (opU g ∨ opB g → l.toInt < e) ∧ (opB g → r.toInt < e)
theorem t1_num {e : Int} {g l r : Int32} (h : g.toInt = 107) : T1 e g l r := ⟨fun q => absurd h q, fun q => by omega, fun q => by omega, fun q => by omega, fun q => by unfold opU opB at q; omega, fun q => by unfold opB at q; omega⟩
theorem t1_var {e : Int} {g l r : Int32} (h : g.toInt = 108) (hl : l.toInt ≤ 5) : T1 e g l r := ⟨fun q => by omega, fun q => by omega, fun q => by omega, fun q => by omega, fun q => by unfold opU opB at q; omega, fun q => by unfold opB at q; omega⟩
theorem t1_T {e : Int} {g l r : Int32} (h : g.toInt = 84) (hl : l.toInt ≤ 5) : T1 e g l r := ⟨fun q => by omega, fun q => by omega, fun q => by omega, fun q => by omega, fun q => by unfold opU opB at q; omega, fun q => by unfold opB at q; omega⟩
theorem t1_X {e : Int} {g l r : Int32} (h : g.toInt = 88) (hl : l.toInt ≤ 160) : T1 e g l r := ⟨fun q => by omega, fun q => by omega, fun q => by omega, fun q => by omega, fun q => by unfold opU opB at q; omega, fun q => by unfold opB at q; omega⟩
theorem t1_in {e : Int} {g l r : Int32} (h : g.toInt = 105) (hl : l.toInt ≤ 511) : T1 e g l r := ⟨fun q => by omega, fun q => by omega, fun q => by omega, fun q => by omega, fun q => by unfold opU opB at q; omega, fun q => by unfold opB at q; omega⟩
theorem t1_op {e : Int} {g l r : Int32} (h : opU g ∨ opB g) (hl : l.toInt < e) (he : e ≤ 512) (hr : opB g → r.toInt < e) : T1 e g l r := ⟨fun q => by omega, fun q => by unfold opU opB at h; omega, fun q => by unfold opU opB at h; omega, fun q => by unfold opU opB at h; omega, fun _ => hl, hr⟩
def PIr (r47 : Nat → Int32) (r48 : Nat → Int32) (r49 : Nat → Int32)  : Prop := ∀ e : Nat, T1 e (r47 e) (r48 e) (r49 e)
def PI (σ : Sto) : Prop := PIr (σ.1 47) (σ.1 48) (σ.1 49)
theorem PI.st1 {σ : Sto} {k i : Nat} {v : Int32} (hk : k ∉ ([47, 48, 49] : List Nat)) (h : PI σ) : PI (sti σ k i v) := by
  unfold PI at h ⊢
  have e47 : (sti σ k i v).1 47 = σ.1 47 := if_neg (fun e => hk (by rw [← e]; decide))
  have e48 : (sti σ k i v).1 48 = σ.1 48 := if_neg (fun e => hk (by rw [← e]; decide))
  have e49 : (sti σ k i v).1 49 = σ.1 49 := if_neg (fun e => hk (by rw [← e]; decide))
  rw [e47, e48, e49]
  exact h
theorem PI.st3 {σ : Sto} {k : Nat} {f : Nat → Int32} (hk : k ∉ ([47, 48, 49] : List Nat)) (h : PI σ) : PI (stc σ k f) := by
  unfold PI at h ⊢
  have e47 : (stc σ k f).1 47 = σ.1 47 := if_neg (fun e => hk (by rw [← e]; decide))
  have e48 : (stc σ k f).1 48 = σ.1 48 := if_neg (fun e => hk (by rw [← e]; decide))
  have e49 : (stc σ k f).1 49 = σ.1 49 := if_neg (fun e => hk (by rw [← e]; decide))
  rw [e47, e48, e49]
  exact h
theorem PI.st2 {σ : Sto} {k i : Nat} {v : Int64} (hk : k ∉ ([] : List Nat)) (h : PI σ) : PI (stl σ k i v) := by
  unfold PI at h ⊢
  exact h
theorem PI.fr {ms ml : List Nat} {σ s : Sto} (hG : FR ms ml σ s) (hd : ([47, 48, 49] : List Nat).all (fun k => !ms.contains k) && ([] : List Nat).all (fun k => !ml.contains k) = true) (h : PI σ) : PI s := by
  unfold PI at h ⊢
  simp only [Bool.and_eq_true, List.all_eq_true, decide_eq_true_eq] at hd
  have e47 : s.1 47 = σ.1 47 := hG.1 47 (fun z => by have := hd.1 47 (by decide); simp [z] at this)
  have e48 : s.1 48 = σ.1 48 := hG.1 48 (fun z => by have := hd.1 48 (by decide); simp [z] at this)
  have e49 : s.1 49 = σ.1 49 := hG.1 49 (fun z => by have := hd.1 49 (by decide); simp [z] at this)
  rw [e47, e48, e49]
  exact h
theorem PI.three {σ s t u : Sto} {n m o : Nat} {g l r : Int32} (h : PI σ) (e1 : s = sti σ 47 n g) (e2 : t = sti s 48 m l) (e3 : u = sti t 49 o r) (e4 : m = n) (e5 : o = n) (hT : T1 n g l r) : PI u := by
  subst e1; subst e2; subst e3; subst e4; subst e5
  intro e
  have a : (sti (sti (sti σ 47 o g) 48 o l) 49 o r).1 47 = (sti σ 47 o g).1 47 := (sti_o (by decide)).trans (sti_o (by decide))
  have b : (sti (sti (sti σ 47 o g) 48 o l) 49 o r).1 48 = (sti (sti σ 47 o g) 48 o l).1 48 := sti_o (by decide)
  have b2 : (sti σ 47 o g).1 48 = σ.1 48 := sti_o (by decide)
  have c2 : (sti (sti σ 47 o g) 48 o l).1 49 = σ.1 49 := (sti_o (by decide)).trans (sti_o (by decide))
  rw [a, b, sti_if, sti_if, sti_if, b2, c2]
  by_cases q : e = o
  · rw [if_pos q, if_pos q, if_pos q, q]; exact hT
  · rw [if_neg q, if_neg q, if_neg q]; exact h e

def T2 (k w x : Int32) : Prop := (k.toInt = 0 → 0 ≤ w.toInt ∧ w.toInt ≤ 5) ∧ (k.toInt = 1 → 0 ≤ w.toInt ∧ w.toInt ≤ 5) ∧ (k.toInt = 2 → 0 ≤ w.toInt) ∧ (k.toInt ≤ 2 → 0 ≤ x.toInt)
def SIr (r53 : Nat → Int32) (r54 : Nat → Int32) (r55 : Nat → Int32)  : Prop := ∀ e : Nat, T2 (r53 e) (r54 e) (r55 e)
def SI (σ : Sto) : Prop := SIr (σ.1 53) (σ.1 54) (σ.1 55)
theorem SI.st1 {σ : Sto} {k i : Nat} {v : Int32} (hk : k ∉ ([53, 54, 55] : List Nat)) (h : SI σ) : SI (sti σ k i v) := by
  unfold SI at h ⊢
  have e53 : (sti σ k i v).1 53 = σ.1 53 := if_neg (fun e => hk (by rw [← e]; decide))
  have e54 : (sti σ k i v).1 54 = σ.1 54 := if_neg (fun e => hk (by rw [← e]; decide))
  have e55 : (sti σ k i v).1 55 = σ.1 55 := if_neg (fun e => hk (by rw [← e]; decide))
  rw [e53, e54, e55]
  exact h
theorem SI.st3 {σ : Sto} {k : Nat} {f : Nat → Int32} (hk : k ∉ ([53, 54, 55] : List Nat)) (h : SI σ) : SI (stc σ k f) := by
  unfold SI at h ⊢
  have e53 : (stc σ k f).1 53 = σ.1 53 := if_neg (fun e => hk (by rw [← e]; decide))
  have e54 : (stc σ k f).1 54 = σ.1 54 := if_neg (fun e => hk (by rw [← e]; decide))
  have e55 : (stc σ k f).1 55 = σ.1 55 := if_neg (fun e => hk (by rw [← e]; decide))
  rw [e53, e54, e55]
  exact h
theorem SI.st2 {σ : Sto} {k i : Nat} {v : Int64} (hk : k ∉ ([] : List Nat)) (h : SI σ) : SI (stl σ k i v) := by
  unfold SI at h ⊢
  exact h
theorem SI.fr {ms ml : List Nat} {σ s : Sto} (hG : FR ms ml σ s) (hd : ([53, 54, 55] : List Nat).all (fun k => !ms.contains k) && ([] : List Nat).all (fun k => !ml.contains k) = true) (h : SI σ) : SI s := by
  unfold SI at h ⊢
  simp only [Bool.and_eq_true, List.all_eq_true, decide_eq_true_eq] at hd
  have e53 : s.1 53 = σ.1 53 := hG.1 53 (fun z => by have := hd.1 53 (by decide); simp [z] at this)
  have e54 : s.1 54 = σ.1 54 := hG.1 54 (fun z => by have := hd.1 54 (by decide); simp [z] at this)
  have e55 : s.1 55 = σ.1 55 := hG.1 55 (fun z => by have := hd.1 55 (by decide); simp [z] at this)
  rw [e53, e54, e55]
  exact h
theorem SI.three {σ s t u : Sto} {n m o : Nat} {g l r : Int32} (h : SI σ) (e1 : s = sti σ 53 n g) (e2 : t = sti s 54 m l) (e3 : u = sti t 55 o r) (e4 : m = n) (e5 : o = n) (hT : T2 g l r) : SI u := by
  subst e1; subst e2; subst e3; subst e4; subst e5
  intro e
  have a : (sti (sti (sti σ 53 o g) 54 o l) 55 o r).1 53 = (sti σ 53 o g).1 53 := (sti_o (by decide)).trans (sti_o (by decide))
  have b : (sti (sti (sti σ 53 o g) 54 o l) 55 o r).1 54 = (sti (sti σ 53 o g) 54 o l).1 54 := sti_o (by decide)
  have b2 : (sti σ 53 o g).1 54 = σ.1 54 := sti_o (by decide)
  have c2 : (sti (sti σ 53 o g) 54 o l).1 55 = σ.1 55 := (sti_o (by decide)).trans (sti_o (by decide))
  rw [a, b, sti_if, sti_if, sti_if, b2, c2]
  by_cases q : e = o
  · rw [if_pos q, if_pos q, if_pos q]; exact hT
  · rw [if_neg q, if_neg q, if_neg q]; exact h e

def T3 (k l : Int32) : Prop := k.toInt = 0 → 0 ≤ l.toInt ∧ l.toInt ≤ 319
def LIr (r69 : Nat → Int32) (r72 : Nat → Int32)  : Prop := ∀ e : Nat, T3 (r69 e) (r72 e)
def LI (σ : Sto) : Prop := LIr (σ.1 69) (σ.1 72)
theorem LI.st1 {σ : Sto} {k i : Nat} {v : Int32} (hk : k ∉ ([69, 72] : List Nat)) (h : LI σ) : LI (sti σ k i v) := by
  unfold LI at h ⊢
  have e69 : (sti σ k i v).1 69 = σ.1 69 := if_neg (fun e => hk (by rw [← e]; decide))
  have e72 : (sti σ k i v).1 72 = σ.1 72 := if_neg (fun e => hk (by rw [← e]; decide))
  rw [e69, e72]
  exact h
theorem LI.st3 {σ : Sto} {k : Nat} {f : Nat → Int32} (hk : k ∉ ([69, 72] : List Nat)) (h : LI σ) : LI (stc σ k f) := by
  unfold LI at h ⊢
  have e69 : (stc σ k f).1 69 = σ.1 69 := if_neg (fun e => hk (by rw [← e]; decide))
  have e72 : (stc σ k f).1 72 = σ.1 72 := if_neg (fun e => hk (by rw [← e]; decide))
  rw [e69, e72]
  exact h
theorem LI.st2 {σ : Sto} {k i : Nat} {v : Int64} (hk : k ∉ ([] : List Nat)) (h : LI σ) : LI (stl σ k i v) := by
  unfold LI at h ⊢
  exact h
theorem LI.fr {ms ml : List Nat} {σ s : Sto} (hG : FR ms ml σ s) (hd : ([69, 72] : List Nat).all (fun k => !ms.contains k) && ([] : List Nat).all (fun k => !ml.contains k) = true) (h : LI σ) : LI s := by
  unfold LI at h ⊢
  simp only [Bool.and_eq_true, List.all_eq_true, decide_eq_true_eq] at hd
  have e69 : s.1 69 = σ.1 69 := hG.1 69 (fun z => by have := hd.1 69 (by decide); simp [z] at this)
  have e72 : s.1 72 = σ.1 72 := hG.1 72 (fun z => by have := hd.1 72 (by decide); simp [z] at this)
  rw [e69, e72]
  exact h
theorem LI.two {σ s t u : Sto} {n m : Nat} {k l : Int32} (h : LI σ) (e1 : s = sti σ 69 n k) (e2 : t.1 69 = s.1 69) (e3 : t.1 72 = σ.1 72) (e4 : u = sti t 72 m l) (e5 : m = n) (hT : T3 k l) : LI u := by
  subst e1; subst e4; subst e5
  intro e
  have a : (sti t 72 m l).1 69 = t.1 69 := sti_o (by decide)
  rw [a, e2, sti_if, sti_if, e3]
  by_cases q : e = m
  · rw [if_pos q, if_pos q]; exact hT
  · rw [if_neg q, if_neg q]; exact h e

def KIr (r46 : Nat → Int32) (r60 : Nat → Int32) (r61 : Nat → Int32)  : Prop := ∀ k : Nat, (k : Int) < (r61 0).toInt → (r60 k).toInt < (r46 0).toInt
def KI (σ : Sto) : Prop := KIr (σ.1 46) (σ.1 60) (σ.1 61)
theorem KI.st1 {σ : Sto} {k i : Nat} {v : Int32} (hk : k ∉ ([46, 60, 61] : List Nat)) (h : KI σ) : KI (sti σ k i v) := by
  unfold KI at h ⊢
  have e46 : (sti σ k i v).1 46 = σ.1 46 := if_neg (fun e => hk (by rw [← e]; decide))
  have e60 : (sti σ k i v).1 60 = σ.1 60 := if_neg (fun e => hk (by rw [← e]; decide))
  have e61 : (sti σ k i v).1 61 = σ.1 61 := if_neg (fun e => hk (by rw [← e]; decide))
  rw [e46, e60, e61]
  exact h
theorem KI.st3 {σ : Sto} {k : Nat} {f : Nat → Int32} (hk : k ∉ ([46, 60, 61] : List Nat)) (h : KI σ) : KI (stc σ k f) := by
  unfold KI at h ⊢
  have e46 : (stc σ k f).1 46 = σ.1 46 := if_neg (fun e => hk (by rw [← e]; decide))
  have e60 : (stc σ k f).1 60 = σ.1 60 := if_neg (fun e => hk (by rw [← e]; decide))
  have e61 : (stc σ k f).1 61 = σ.1 61 := if_neg (fun e => hk (by rw [← e]; decide))
  rw [e46, e60, e61]
  exact h
theorem KI.st2 {σ : Sto} {k i : Nat} {v : Int64} (hk : k ∉ ([] : List Nat)) (h : KI σ) : KI (stl σ k i v) := by
  unfold KI at h ⊢
  exact h
theorem KI.fr {ms ml : List Nat} {σ s : Sto} (hG : FR ms ml σ s) (hd : ([46, 60, 61] : List Nat).all (fun k => !ms.contains k) && ([] : List Nat).all (fun k => !ml.contains k) = true) (h : KI σ) : KI s := by
  unfold KI at h ⊢
  simp only [Bool.and_eq_true, List.all_eq_true, decide_eq_true_eq] at hd
  have e46 : s.1 46 = σ.1 46 := hG.1 46 (fun z => by have := hd.1 46 (by decide); simp [z] at this)
  have e60 : s.1 60 = σ.1 60 := hG.1 60 (fun z => by have := hd.1 60 (by decide); simp [z] at this)
  have e61 : s.1 61 = σ.1 61 := hG.1 61 (fun z => by have := hd.1 61 (by decide); simp [z] at this)
  rw [e46, e60, e61]
  exact h
theorem KI.up {σ s : Sto} (h : KI σ) (h60 : s.1 60 = σ.1 60) (h61 : s.1 61 = σ.1 61) (hm : (σ.1 46 0).toInt ≤ (s.1 46 0).toInt) : KI s := by
  intro k hk
  rw [h61] at hk
  rw [h60]
  have := h k hk
  omega
theorem KI.low {σ s : Sto} {v : Int32} (h : KI σ) (e : s = sti σ 61 0 v) (hv : (s.1 61 0).toInt ≤ (σ.1 61 0).toInt) : KI s := by
  subst e
  intro k hk
  have a : (sti σ 61 0 v).1 60 = σ.1 60 := sti_o (by decide)
  have b : (sti σ 61 0 v).1 46 = σ.1 46 := sti_o (by decide)
  rw [a, b]
  exact h k (by omega)
theorem KI.put {σ s : Sto} {n : Nat} {v : Int32} (h : KI σ) (e : s = sti σ 60 n v) (hv : v.toInt < (σ.1 46 0).toInt) : KI s := by
  subst e
  intro k hk
  have a : (sti σ 60 n v).1 61 = σ.1 61 := sti_o (by decide)
  have b : (sti σ 60 n v).1 46 = σ.1 46 := sti_o (by decide)
  rw [a] at hk
  rw [b, sti_if]
  by_cases q : k = n
  · rw [if_pos q]; exact hv
  · rw [if_neg q]; exact h k hk
theorem KI.push {σ s t : Sto} {n : Nat} {v w : Int32} (h : KI σ) (e1 : s = sti σ 60 n v) (e2 : t = sti s 61 0 w) (hn : (n : Int) = (σ.1 61 0).toInt) (hw : (t.1 61 0).toInt = (σ.1 61 0).toInt + 1) (hv : v.toInt < (σ.1 46 0).toInt) : KI t := by
  subst e1
  intro k hk
  rw [hw] at hk
  have a : t.1 60 = (sti σ 60 n v).1 60 := by rw [e2]; exact sti_o (by decide)
  have b : t.1 46 = σ.1 46 := by rw [e2]; exact (sti_o (by decide)).trans (sti_o (by decide))
  rw [a, b, sti_if]
  by_cases q : k = n
  · rw [if_pos q]; exact hv
  · rw [if_neg q]; exact h k (by omega)
theorem t2_X {k w x : Int32} (hk : k.toInt = 2) (hw : 0 ≤ w.toInt) (hx : 0 ≤ x.toInt) : T2 k w x := ⟨fun h => by omega, fun h => by omega, fun _ => hw, fun _ => hx⟩
theorem t2_T {k w x : Int32} (hk : k.toInt ≤ 1) (hk0 : 0 ≤ k.toInt) (hw : 0 ≤ w.toInt ∧ w.toInt ≤ 5) (hx : 0 ≤ x.toInt) : T2 k w x := ⟨fun _ => hw, fun _ => hw, fun h => by omega, fun _ => hx⟩
theorem t2_o {k w x : Int32} (hk : 3 ≤ k.toInt) : T2 k w x := ⟨fun h => by omega, fun h => by omega, fun h => by omega, fun h => by omega⟩

def VS (g n : Int32) : Prop := (g.toInt = 108 ∨ g.toInt = 115 → n.toInt ≤ 5) ∧ (g.toInt = 105 → n.toInt = 0) ∧ (g.toInt = 103 ∨ g.toInt = 122 → n.toInt ≤ 39) ∧ (g.toInt = 100 ∨ g.toInt = 103 ∨ g.toInt = 105 ∨ g.toInt = 107 ∨ g.toInt = 108 ∨ g.toInt = 111 ∨ g.toInt = 112 ∨ g.toInt = 114 ∨ g.toInt = 115 ∨ g.toInt = 116 ∨ g.toInt = 119 ∨ g.toInt = 122 ∨ opU g ∨ opB g)
theorem vs_T1 {g n : Int32} {e : Int} (h : VS g n) (q : g.toInt = 105 ∨ g.toInt = 107 ∨ g.toInt = 108) : T1 e g n 0 := by
  obtain ⟨a, b, _, _⟩ := h
  rcases q with q | q | q
  · exact t1_in q (by have := b q; omega)
  · exact t1_num q
  · exact t1_var q (a (Or.inl q))
theorem vs_op {g n : Int32} (h : VS g n) (q : ¬ g.toInt = 100 ∧ ¬ g.toInt = 103 ∧ ¬ (g.toInt = 105 ∨ g.toInt = 107 ∨ g.toInt = 108) ∧ ¬ g.toInt = 111 ∧ ¬ g.toInt = 112 ∧ ¬ g.toInt = 114 ∧ ¬ g.toInt = 115 ∧ ¬ g.toInt = 116 ∧ ¬ g.toInt = 119 ∧ ¬ g.toInt = 122) : opU g ∨ opB g := by
  obtain ⟨_, _, _, d⟩ := h
  rcases d with d | d | d | d | d | d | d | d | d | d | d | d | d | d
  any_goals omega
  · exact Or.inl d
  · exact Or.inr d
def ND (g h : Int) : Prop := ndI g ≤ h ∧ h - ndI g + gvI g ≤ 6
def HD (g h k : Int) : Prop := k = h - ndI g + gvI g
theorem nd_1 {g h : Int} (a : ND g h) (q : g = 111 ∨ g = 112 ∨ g = 115 ∨ g = 116 ∨ g = 122) : 1 ≤ h := by
  unfold ND at a; rcases q with q | q | q | q | q <;> (subst q; have := a.1; simp [ndI] at this; omega)
theorem nd_100 {g h : Int} (a : ND g h) (q : g = 100) : 1 ≤ h ∧ h ≤ 5 := by
  unfold ND at a; subst q; simp [ndI, gvI] at a; omega
theorem nd_119 {g h : Int} (a : ND g h) (q : g = 119) : 2 ≤ h ∧ h ≤ 6 := by
  unfold ND at a; subst q; simp [ndI, gvI] at a; omega
theorem nd_in {g h : Int} (a : ND g h) (q : g = 105 ∨ g = 107 ∨ g = 108) : h ≤ 5 := by
  unfold ND at a; rcases q with q | q | q <;> (subst q; simp [ndI, gvI] at a; omega)
theorem nd_B {g : Int32} {h : Int} (a : ND g.toInt h) (q : opB g) : 2 ≤ h := by
  unfold ND at a; unfold opB at q
  generalize g.toInt = x at a q
  rcases q with q | q | q | q | q | q | q <;> (subst q; simp [ndI, gvI] at a; omega)
theorem nd_o {g : Int32} {h : Int} (a : ND g.toInt h) (q : opU g ∨ opB g) : 1 ≤ h := by
  rcases q with q | q
  · unfold ND at a; unfold opU at q
    generalize g.toInt = x at a q
    rcases q with q | q <;> (subst q; simp [ndI, gvI] at a; omega)
  · have := nd_B a q; omega
theorem hd_1 {g h k : Int} (q : ((g = 100 ∨ g = 105 ∨ g = 107 ∨ g = 108) ∧ k = h + 1) ∨ ((g = 103 ∨ g = 114 ∨ g = 119) ∧ k = h) ∨ ((g = 111 ∨ g = 112 ∨ g = 115 ∨ g = 116 ∨ g = 122) ∧ k = h - 1)) : HD g h k := by
  unfold HD
  rcases q with ⟨q, r⟩ | ⟨q, r⟩ | ⟨q, r⟩
  · rcases q with q | q | q | q <;> (subst q; simp [ndI, gvI]; omega)
  · rcases q with q | q | q <;> (subst q; simp [ndI, gvI]; omega)
  · rcases q with q | q | q | q | q <;> (subst q; simp [ndI, gvI]; omega)
theorem hd_o {g : Int32} {h k : Int} (q : opU g ∨ opB g) (a : opB g → k = h - 1) (b : ¬ opB g → k = h) : HD g.toInt h k := by
  unfold HD
  rcases q with q | q
  · have r : k = h := b (fun z => by unfold opU at q; unfold opB at z; omega)
    unfold opU at q
    generalize g.toInt = x at q
    rcases q with q | q <;> (subst q; simp [ndI, gvI]; omega)
  · have r := a q
    unfold opB at q
    generalize g.toInt = x at q
    rcases q with q | q | q | q | q | q | q <;> (subst q; simp [ndI, gvI]; omega)

def GB1 (sg nm dp : Nat → Int32) (f l : Int32) : Prop := 0 ≤ f.toInt ∧ f.toInt ≤ l.toInt ∧ l.toInt ≤ 39 ∧ 0 ≤ (dp f.toNatClampNeg).toInt ∧ (dp f.toNatClampNeg).toInt ≤ 6 ∧ ∀ i : Nat, f.toInt ≤ i → i ≤ l.toInt → VS (sg i) (nm i) ∧ ND (sg i).toInt (dp i).toInt ∧ ((i : Int) < l.toInt → HD (sg i).toInt (dp i).toInt (dp (i + 1)).toInt)
theorem hd_fun {g h k m : Int} (a : HD g h k) (b : HD g h m) : k = m := a.trans b.symm
theorem nd_6 {g h k : Int} (a : ND g h) (b : HD g h k) : k ≤ 6 := by unfold ND at a; unfold HD at b; omega
def GBr (r6 : Nat → Int32) (r7 : Nat → Int32) (r8 : Nat → Int32) (r20 : Nat → Int32) (r21 : Nat → Int32) (r22 : Nat → Int32)  : Prop := ∀ b : Nat, (b : Int) < (r20 0).toInt → GB1 r6 r7 r8 (r21 b) (r22 b)
def GB (σ : Sto) : Prop := GBr (σ.1 6) (σ.1 7) (σ.1 8) (σ.1 20) (σ.1 21) (σ.1 22)
theorem GB.st1 {σ : Sto} {k i : Nat} {v : Int32} (hk : k ∉ ([6, 7, 8, 20, 21, 22] : List Nat)) (h : GB σ) : GB (sti σ k i v) := by
  unfold GB at h ⊢
  have e6 : (sti σ k i v).1 6 = σ.1 6 := if_neg (fun e => hk (by rw [← e]; decide))
  have e7 : (sti σ k i v).1 7 = σ.1 7 := if_neg (fun e => hk (by rw [← e]; decide))
  have e8 : (sti σ k i v).1 8 = σ.1 8 := if_neg (fun e => hk (by rw [← e]; decide))
  have e20 : (sti σ k i v).1 20 = σ.1 20 := if_neg (fun e => hk (by rw [← e]; decide))
  have e21 : (sti σ k i v).1 21 = σ.1 21 := if_neg (fun e => hk (by rw [← e]; decide))
  have e22 : (sti σ k i v).1 22 = σ.1 22 := if_neg (fun e => hk (by rw [← e]; decide))
  rw [e6, e7, e8, e20, e21, e22]
  exact h
theorem GB.st3 {σ : Sto} {k : Nat} {f : Nat → Int32} (hk : k ∉ ([6, 7, 8, 20, 21, 22] : List Nat)) (h : GB σ) : GB (stc σ k f) := by
  unfold GB at h ⊢
  have e6 : (stc σ k f).1 6 = σ.1 6 := if_neg (fun e => hk (by rw [← e]; decide))
  have e7 : (stc σ k f).1 7 = σ.1 7 := if_neg (fun e => hk (by rw [← e]; decide))
  have e8 : (stc σ k f).1 8 = σ.1 8 := if_neg (fun e => hk (by rw [← e]; decide))
  have e20 : (stc σ k f).1 20 = σ.1 20 := if_neg (fun e => hk (by rw [← e]; decide))
  have e21 : (stc σ k f).1 21 = σ.1 21 := if_neg (fun e => hk (by rw [← e]; decide))
  have e22 : (stc σ k f).1 22 = σ.1 22 := if_neg (fun e => hk (by rw [← e]; decide))
  rw [e6, e7, e8, e20, e21, e22]
  exact h
theorem GB.st2 {σ : Sto} {k i : Nat} {v : Int64} (hk : k ∉ ([] : List Nat)) (h : GB σ) : GB (stl σ k i v) := by
  unfold GB at h ⊢
  exact h
theorem GB.fr {ms ml : List Nat} {σ s : Sto} (hG : FR ms ml σ s) (hd : ([6, 7, 8, 20, 21, 22] : List Nat).all (fun k => !ms.contains k) && ([] : List Nat).all (fun k => !ml.contains k) = true) (h : GB σ) : GB s := by
  unfold GB at h ⊢
  simp only [Bool.and_eq_true, List.all_eq_true, decide_eq_true_eq] at hd
  have e6 : s.1 6 = σ.1 6 := hG.1 6 (fun z => by have := hd.1 6 (by decide); simp [z] at this)
  have e7 : s.1 7 = σ.1 7 := hG.1 7 (fun z => by have := hd.1 7 (by decide); simp [z] at this)
  have e8 : s.1 8 = σ.1 8 := hG.1 8 (fun z => by have := hd.1 8 (by decide); simp [z] at this)
  have e20 : s.1 20 = σ.1 20 := hG.1 20 (fun z => by have := hd.1 20 (by decide); simp [z] at this)
  have e21 : s.1 21 = σ.1 21 := hG.1 21 (fun z => by have := hd.1 21 (by decide); simp [z] at this)
  have e22 : s.1 22 = σ.1 22 := hG.1 22 (fun z => by have := hd.1 22 (by decide); simp [z] at this)
  rw [e6, e7, e8, e20, e21, e22]
  exact h

def BR (g : Int32) : Prop := (g.toInt = 33 ∨ g.toInt = 100 ∨ g.toInt = 105 ∨ g.toInt = 110 ∨ g.toInt = 111 ∨ g.toInt = 112 ∨ g.toInt = 114 ∨ g.toInt = 116 ∨ g.toInt = 119) ∨ opB g
def VI (g n : Int32) : Prop := VS g n ∧ 0 ≤ g.toInt ∧ g.toInt ≤ 255 ∧ 0 ≤ n.toInt ∧ n.toInt ≤ 999
theorem vi_j {g n : Int32} (q : g.toInt = 103 ∨ g.toInt = 122) (a : 0 ≤ n.toInt) (b : n.toInt < 40) : VI g n := by
  refine ⟨⟨fun z => by omega, fun z => by omega, fun z => by omega, ?_⟩, by omega, by omega, by omega, by omega⟩
  rcases q with q | q
  · exact Or.inr (Or.inl q)
  · exact Or.inr (Or.inr (Or.inr (Or.inr (Or.inr (Or.inr (Or.inr (Or.inr (Or.inr (Or.inr (Or.inr (Or.inl q)))))))))))
theorem vi_k {g n : Int32} (q : g.toInt = 107) (a : 0 ≤ n.toInt) (b : n.toInt ≤ 999) : VI g n :=
  ⟨⟨fun z => by omega, fun z => by omega, fun z => by omega, Or.inr (Or.inr (Or.inr (Or.inl q)))⟩, by omega, by omega, by omega, by omega⟩
theorem vi_v {g n : Int32} (q : g.toInt = 108 ∨ g.toInt = 115) (a : 0 ≤ n.toInt) (b : n.toInt < 6) : VI g n := by
  refine ⟨⟨fun z => by omega, fun z => by omega, fun z => by omega, ?_⟩, by omega, by omega, by omega, by omega⟩
  rcases q with q | q
  · exact Or.inr (Or.inr (Or.inr (Or.inr (Or.inl q))))
  · exact Or.inr (Or.inr (Or.inr (Or.inr (Or.inr (Or.inr (Or.inr (Or.inr (Or.inl q))))))))
theorem vi_b {g n : Int32} (q : BR g) (a : n.toInt = 0) : VI g n := by
  have r : 0 ≤ g.toInt ∧ g.toInt ≤ 255 ∧ g.toInt ≠ 103 ∧ g.toInt ≠ 122 := by unfold BR opB at q; omega
  refine ⟨⟨fun z => by omega, fun z => by omega, fun z => by omega, ?_⟩, by omega, by omega, by omega, by omega⟩
  unfold BR at q
  rcases q with (q | q | q | q | q | q | q | q | q) | q
  · exact Or.inr (Or.inr (Or.inr (Or.inr (Or.inr (Or.inr (Or.inr (Or.inr (Or.inr (Or.inr (Or.inr (Or.inr (Or.inl (Or.inl q)))))))))))))
  · exact Or.inl q
  · exact Or.inr (Or.inr (Or.inl q))
  · exact Or.inr (Or.inr (Or.inr (Or.inr (Or.inr (Or.inr (Or.inr (Or.inr (Or.inr (Or.inr (Or.inr (Or.inr (Or.inl (Or.inr q)))))))))))))
  · exact Or.inr (Or.inr (Or.inr (Or.inr (Or.inr (Or.inl q)))))
  · exact Or.inr (Or.inr (Or.inr (Or.inr (Or.inr (Or.inr (Or.inl q))))))
  · exact Or.inr (Or.inr (Or.inr (Or.inr (Or.inr (Or.inr (Or.inr (Or.inl q)))))))
  · exact Or.inr (Or.inr (Or.inr (Or.inr (Or.inr (Or.inr (Or.inr (Or.inr (Or.inr (Or.inl q)))))))))
  · exact Or.inr (Or.inr (Or.inr (Or.inr (Or.inr (Or.inr (Or.inr (Or.inr (Or.inr (Or.inr (Or.inl q))))))))))
  · exact Or.inr (Or.inr (Or.inr (Or.inr (Or.inr (Or.inr (Or.inr (Or.inr (Or.inr (Or.inr (Or.inr (Or.inr (Or.inr q))))))))))))

def gOn (g : Int32) : Prop := g.toInt ≠ 103 ∧ g.toInt ≠ 116 ∧ g.toInt ≠ 114
def gEl (g : Int32) : Prop := g.toInt = 103 ∨ g.toInt = 122
def JR (sz hs : Int) (sg nm dp fr up go : Nat → Int32) : Prop := (∀ i : Nat, (i : Int) < sz → VS (sg i) (nm i) ∧ (gEl (sg i) → (nm i).toInt < sz) ∧ ((dp i).toInt ≠ -1 → ND (sg i).toInt (dp i).toInt ∧ (gOn (sg i) → (i : Int) + 1 < sz ∧ HD (sg i).toInt (dp i).toInt (dp (i + 1)).toInt) ∧ (gEl (sg i) → (nm i).toInt < sz ∧ HD (sg i).toInt (dp i).toInt (dp (nm i).toNatClampNeg).toInt))) ∧ (∀ h : Nat, (h : Int) < hs → (fr h).toInt < (up h).toInt ∧ (up h).toInt ≤ sz ∧ (go h).toInt < sz)
def LVr (r4 : Nat → Int32) (r5 : Nat → Int32) (r6 : Nat → Int32) (r7 : Nat → Int32) (r8 : Nat → Int32) (r9 : Nat → Int32) (r10 : Nat → Int32) (r11 : Nat → Int32)  : Prop := JR (r4 0).toInt (r5 0).toInt r6 r7 r8 r9 r10 r11
def LV (σ : Sto) : Prop := LVr (σ.1 4) (σ.1 5) (σ.1 6) (σ.1 7) (σ.1 8) (σ.1 9) (σ.1 10) (σ.1 11)
theorem LV.st1 {σ : Sto} {k i : Nat} {v : Int32} (hk : k ∉ ([4, 5, 6, 7, 8, 9, 10, 11] : List Nat)) (h : LV σ) : LV (sti σ k i v) := by
  unfold LV at h ⊢
  have e4 : (sti σ k i v).1 4 = σ.1 4 := if_neg (fun e => hk (by rw [← e]; decide))
  have e5 : (sti σ k i v).1 5 = σ.1 5 := if_neg (fun e => hk (by rw [← e]; decide))
  have e6 : (sti σ k i v).1 6 = σ.1 6 := if_neg (fun e => hk (by rw [← e]; decide))
  have e7 : (sti σ k i v).1 7 = σ.1 7 := if_neg (fun e => hk (by rw [← e]; decide))
  have e8 : (sti σ k i v).1 8 = σ.1 8 := if_neg (fun e => hk (by rw [← e]; decide))
  have e9 : (sti σ k i v).1 9 = σ.1 9 := if_neg (fun e => hk (by rw [← e]; decide))
  have e10 : (sti σ k i v).1 10 = σ.1 10 := if_neg (fun e => hk (by rw [← e]; decide))
  have e11 : (sti σ k i v).1 11 = σ.1 11 := if_neg (fun e => hk (by rw [← e]; decide))
  rw [e4, e5, e6, e7, e8, e9, e10, e11]
  exact h
theorem LV.st3 {σ : Sto} {k : Nat} {f : Nat → Int32} (hk : k ∉ ([4, 5, 6, 7, 8, 9, 10, 11] : List Nat)) (h : LV σ) : LV (stc σ k f) := by
  unfold LV at h ⊢
  have e4 : (stc σ k f).1 4 = σ.1 4 := if_neg (fun e => hk (by rw [← e]; decide))
  have e5 : (stc σ k f).1 5 = σ.1 5 := if_neg (fun e => hk (by rw [← e]; decide))
  have e6 : (stc σ k f).1 6 = σ.1 6 := if_neg (fun e => hk (by rw [← e]; decide))
  have e7 : (stc σ k f).1 7 = σ.1 7 := if_neg (fun e => hk (by rw [← e]; decide))
  have e8 : (stc σ k f).1 8 = σ.1 8 := if_neg (fun e => hk (by rw [← e]; decide))
  have e9 : (stc σ k f).1 9 = σ.1 9 := if_neg (fun e => hk (by rw [← e]; decide))
  have e10 : (stc σ k f).1 10 = σ.1 10 := if_neg (fun e => hk (by rw [← e]; decide))
  have e11 : (stc σ k f).1 11 = σ.1 11 := if_neg (fun e => hk (by rw [← e]; decide))
  rw [e4, e5, e6, e7, e8, e9, e10, e11]
  exact h
theorem LV.st2 {σ : Sto} {k i : Nat} {v : Int64} (hk : k ∉ ([] : List Nat)) (h : LV σ) : LV (stl σ k i v) := by
  unfold LV at h ⊢
  exact h
theorem LV.fr {ms ml : List Nat} {σ s : Sto} (hG : FR ms ml σ s) (hd : ([4, 5, 6, 7, 8, 9, 10, 11] : List Nat).all (fun k => !ms.contains k) && ([] : List Nat).all (fun k => !ml.contains k) = true) (h : LV σ) : LV s := by
  unfold LV at h ⊢
  simp only [Bool.and_eq_true, List.all_eq_true, decide_eq_true_eq] at hd
  have e4 : s.1 4 = σ.1 4 := hG.1 4 (fun z => by have := hd.1 4 (by decide); simp [z] at this)
  have e5 : s.1 5 = σ.1 5 := hG.1 5 (fun z => by have := hd.1 5 (by decide); simp [z] at this)
  have e6 : s.1 6 = σ.1 6 := hG.1 6 (fun z => by have := hd.1 6 (by decide); simp [z] at this)
  have e7 : s.1 7 = σ.1 7 := hG.1 7 (fun z => by have := hd.1 7 (by decide); simp [z] at this)
  have e8 : s.1 8 = σ.1 8 := hG.1 8 (fun z => by have := hd.1 8 (by decide); simp [z] at this)
  have e9 : s.1 9 = σ.1 9 := hG.1 9 (fun z => by have := hd.1 9 (by decide); simp [z] at this)
  have e10 : s.1 10 = σ.1 10 := hG.1 10 (fun z => by have := hd.1 10 (by decide); simp [z] at this)
  have e11 : s.1 11 = σ.1 11 := hG.1 11 (fun z => by have := hd.1 11 (by decide); simp [z] at this)
  rw [e4, e5, e6, e7, e8, e9, e10, e11]
  exact h

def QVr (r0 : Nat → Int32) (r4 : Nat → Int32) (r5 : Nat → Int32) (r6 : Nat → Int32) (r7 : Nat → Int32) (r8 : Nat → Int32) (r9 : Nat → Int32) (r10 : Nat → Int32) (r11 : Nat → Int32)  : Prop := (r0 0).toInt ≠ 0 → 1 ≤ (r4 0).toInt ∧ JR (r4 0).toInt (r5 0).toInt r6 r7 r8 r9 r10 r11
def QV (σ : Sto) : Prop := QVr (σ.1 0) (σ.1 4) (σ.1 5) (σ.1 6) (σ.1 7) (σ.1 8) (σ.1 9) (σ.1 10) (σ.1 11)
theorem QV.st1 {σ : Sto} {k i : Nat} {v : Int32} (hk : k ∉ ([0, 4, 5, 6, 7, 8, 9, 10, 11] : List Nat)) (h : QV σ) : QV (sti σ k i v) := by
  unfold QV at h ⊢
  have e0 : (sti σ k i v).1 0 = σ.1 0 := if_neg (fun e => hk (by rw [← e]; decide))
  have e4 : (sti σ k i v).1 4 = σ.1 4 := if_neg (fun e => hk (by rw [← e]; decide))
  have e5 : (sti σ k i v).1 5 = σ.1 5 := if_neg (fun e => hk (by rw [← e]; decide))
  have e6 : (sti σ k i v).1 6 = σ.1 6 := if_neg (fun e => hk (by rw [← e]; decide))
  have e7 : (sti σ k i v).1 7 = σ.1 7 := if_neg (fun e => hk (by rw [← e]; decide))
  have e8 : (sti σ k i v).1 8 = σ.1 8 := if_neg (fun e => hk (by rw [← e]; decide))
  have e9 : (sti σ k i v).1 9 = σ.1 9 := if_neg (fun e => hk (by rw [← e]; decide))
  have e10 : (sti σ k i v).1 10 = σ.1 10 := if_neg (fun e => hk (by rw [← e]; decide))
  have e11 : (sti σ k i v).1 11 = σ.1 11 := if_neg (fun e => hk (by rw [← e]; decide))
  rw [e0, e4, e5, e6, e7, e8, e9, e10, e11]
  exact h
theorem QV.st3 {σ : Sto} {k : Nat} {f : Nat → Int32} (hk : k ∉ ([0, 4, 5, 6, 7, 8, 9, 10, 11] : List Nat)) (h : QV σ) : QV (stc σ k f) := by
  unfold QV at h ⊢
  have e0 : (stc σ k f).1 0 = σ.1 0 := if_neg (fun e => hk (by rw [← e]; decide))
  have e4 : (stc σ k f).1 4 = σ.1 4 := if_neg (fun e => hk (by rw [← e]; decide))
  have e5 : (stc σ k f).1 5 = σ.1 5 := if_neg (fun e => hk (by rw [← e]; decide))
  have e6 : (stc σ k f).1 6 = σ.1 6 := if_neg (fun e => hk (by rw [← e]; decide))
  have e7 : (stc σ k f).1 7 = σ.1 7 := if_neg (fun e => hk (by rw [← e]; decide))
  have e8 : (stc σ k f).1 8 = σ.1 8 := if_neg (fun e => hk (by rw [← e]; decide))
  have e9 : (stc σ k f).1 9 = σ.1 9 := if_neg (fun e => hk (by rw [← e]; decide))
  have e10 : (stc σ k f).1 10 = σ.1 10 := if_neg (fun e => hk (by rw [← e]; decide))
  have e11 : (stc σ k f).1 11 = σ.1 11 := if_neg (fun e => hk (by rw [← e]; decide))
  rw [e0, e4, e5, e6, e7, e8, e9, e10, e11]
  exact h
theorem QV.st2 {σ : Sto} {k i : Nat} {v : Int64} (hk : k ∉ ([] : List Nat)) (h : QV σ) : QV (stl σ k i v) := by
  unfold QV at h ⊢
  exact h
theorem QV.fr {ms ml : List Nat} {σ s : Sto} (hG : FR ms ml σ s) (hd : ([0, 4, 5, 6, 7, 8, 9, 10, 11] : List Nat).all (fun k => !ms.contains k) && ([] : List Nat).all (fun k => !ml.contains k) = true) (h : QV σ) : QV s := by
  unfold QV at h ⊢
  simp only [Bool.and_eq_true, List.all_eq_true, decide_eq_true_eq] at hd
  have e0 : s.1 0 = σ.1 0 := hG.1 0 (fun z => by have := hd.1 0 (by decide); simp [z] at this)
  have e4 : s.1 4 = σ.1 4 := hG.1 4 (fun z => by have := hd.1 4 (by decide); simp [z] at this)
  have e5 : s.1 5 = σ.1 5 := hG.1 5 (fun z => by have := hd.1 5 (by decide); simp [z] at this)
  have e6 : s.1 6 = σ.1 6 := hG.1 6 (fun z => by have := hd.1 6 (by decide); simp [z] at this)
  have e7 : s.1 7 = σ.1 7 := hG.1 7 (fun z => by have := hd.1 7 (by decide); simp [z] at this)
  have e8 : s.1 8 = σ.1 8 := hG.1 8 (fun z => by have := hd.1 8 (by decide); simp [z] at this)
  have e9 : s.1 9 = σ.1 9 := hG.1 9 (fun z => by have := hd.1 9 (by decide); simp [z] at this)
  have e10 : s.1 10 = σ.1 10 := hG.1 10 (fun z => by have := hd.1 10 (by decide); simp [z] at this)
  have e11 : s.1 11 = σ.1 11 := hG.1 11 (fun z => by have := hd.1 11 (by decide); simp [z] at this)
  rw [e0, e4, e5, e6, e7, e8, e9, e10, e11]
  exact h

def LD1 (n sz : Int) (sg nm : Nat → Int32) : Prop := ∀ i : Nat, (i : Int) < n → gEl (sg i) → (nm i).toInt < sz
def LD2 (n sz : Int) (fr up go : Nat → Int32) : Prop := ∀ h : Nat, (h : Int) < n → (fr h).toInt < (up h).toInt ∧ (up h).toInt ≤ sz ∧ (go h).toInt < sz
theorem LD1.s {n m sz : Int} {sg nm : Nat → Int32} (h : LD1 n sz sg nm) (k : Nat) (hk : (k : Int) = n) (hm : m = n + 1) (hg : gEl (sg k) → (nm k).toInt < sz) : LD1 m sz sg nm := fun i hi g => by
  by_cases q : i = k
  · subst q; exact hg g
  · exact h i (by omega) g
theorem LD2.s {n m sz : Int} {fr up go : Nat → Int32} (h : LD2 n sz fr up go) (k : Nat) (hk : (k : Int) = n) (hm : m = n + 1) (hg : (fr k).toInt < (up k).toInt ∧ (up k).toInt ≤ sz ∧ (go k).toInt < sz) : LD2 m sz fr up go := fun i hi => by
  by_cases q : i = k
  · subst q; exact hg
  · exact h i (by omega)

def cur (σ : Sto) : Int32 := if (σ.1 2 0).toInt ≤ (σ.1 3 0).toInt then 0 else (σ.1 1 (σ.1 3 0).toNatClampNeg) &&& 255

def DVr (r12 : Nat → Int32) (r13 : Nat → Int32) (r14 : Nat → Int32) (r15 : Nat → Int32) (r16 : Nat → Int32) (r17 : Nat → Int32) (r18 : Nat → Int32) (r19 : Nat → Int32)  : Prop := 1 ≤ (r12 0).toInt ∧ (∀ i : Nat, (i : Int) < (r12 0).toInt → VS (r14 i) (r15 i)) ∧ LDP (r12 0).toInt.toNat (r13 0).toInt.toNat (ri r14) (ri r15) (ri r17) (ri r18) (ri r19) ∧ RIG (r12 0).toInt.toNat (r13 0).toInt.toNat (ri r14) (ri r15) (ri r17) (ri r18) (ri r19) (mk (r12 0).toInt.toNat r16)
def DV (σ : Sto) : Prop := DVr (σ.1 12) (σ.1 13) (σ.1 14) (σ.1 15) (σ.1 16) (σ.1 17) (σ.1 18) (σ.1 19)
theorem DV.st1 {σ : Sto} {k i : Nat} {v : Int32} (hk : k ∉ ([12, 13, 14, 15, 16, 17, 18, 19] : List Nat)) (h : DV σ) : DV (sti σ k i v) := by
  unfold DV at h ⊢
  have e12 : (sti σ k i v).1 12 = σ.1 12 := if_neg (fun e => hk (by rw [← e]; decide))
  have e13 : (sti σ k i v).1 13 = σ.1 13 := if_neg (fun e => hk (by rw [← e]; decide))
  have e14 : (sti σ k i v).1 14 = σ.1 14 := if_neg (fun e => hk (by rw [← e]; decide))
  have e15 : (sti σ k i v).1 15 = σ.1 15 := if_neg (fun e => hk (by rw [← e]; decide))
  have e16 : (sti σ k i v).1 16 = σ.1 16 := if_neg (fun e => hk (by rw [← e]; decide))
  have e17 : (sti σ k i v).1 17 = σ.1 17 := if_neg (fun e => hk (by rw [← e]; decide))
  have e18 : (sti σ k i v).1 18 = σ.1 18 := if_neg (fun e => hk (by rw [← e]; decide))
  have e19 : (sti σ k i v).1 19 = σ.1 19 := if_neg (fun e => hk (by rw [← e]; decide))
  rw [e12, e13, e14, e15, e16, e17, e18, e19]
  exact h
theorem DV.st3 {σ : Sto} {k : Nat} {f : Nat → Int32} (hk : k ∉ ([12, 13, 14, 15, 16, 17, 18, 19] : List Nat)) (h : DV σ) : DV (stc σ k f) := by
  unfold DV at h ⊢
  have e12 : (stc σ k f).1 12 = σ.1 12 := if_neg (fun e => hk (by rw [← e]; decide))
  have e13 : (stc σ k f).1 13 = σ.1 13 := if_neg (fun e => hk (by rw [← e]; decide))
  have e14 : (stc σ k f).1 14 = σ.1 14 := if_neg (fun e => hk (by rw [← e]; decide))
  have e15 : (stc σ k f).1 15 = σ.1 15 := if_neg (fun e => hk (by rw [← e]; decide))
  have e16 : (stc σ k f).1 16 = σ.1 16 := if_neg (fun e => hk (by rw [← e]; decide))
  have e17 : (stc σ k f).1 17 = σ.1 17 := if_neg (fun e => hk (by rw [← e]; decide))
  have e18 : (stc σ k f).1 18 = σ.1 18 := if_neg (fun e => hk (by rw [← e]; decide))
  have e19 : (stc σ k f).1 19 = σ.1 19 := if_neg (fun e => hk (by rw [← e]; decide))
  rw [e12, e13, e14, e15, e16, e17, e18, e19]
  exact h
theorem DV.st2 {σ : Sto} {k i : Nat} {v : Int64} (hk : k ∉ ([] : List Nat)) (h : DV σ) : DV (stl σ k i v) := by
  unfold DV at h ⊢
  exact h
theorem DV.fr {ms ml : List Nat} {σ s : Sto} (hG : FR ms ml σ s) (hd : ([12, 13, 14, 15, 16, 17, 18, 19] : List Nat).all (fun k => !ms.contains k) && ([] : List Nat).all (fun k => !ml.contains k) = true) (h : DV σ) : DV s := by
  unfold DV at h ⊢
  simp only [Bool.and_eq_true, List.all_eq_true, decide_eq_true_eq] at hd
  have e12 : s.1 12 = σ.1 12 := hG.1 12 (fun z => by have := hd.1 12 (by decide); simp [z] at this)
  have e13 : s.1 13 = σ.1 13 := hG.1 13 (fun z => by have := hd.1 13 (by decide); simp [z] at this)
  have e14 : s.1 14 = σ.1 14 := hG.1 14 (fun z => by have := hd.1 14 (by decide); simp [z] at this)
  have e15 : s.1 15 = σ.1 15 := hG.1 15 (fun z => by have := hd.1 15 (by decide); simp [z] at this)
  have e16 : s.1 16 = σ.1 16 := hG.1 16 (fun z => by have := hd.1 16 (by decide); simp [z] at this)
  have e17 : s.1 17 = σ.1 17 := hG.1 17 (fun z => by have := hd.1 17 (by decide); simp [z] at this)
  have e18 : s.1 18 = σ.1 18 := hG.1 18 (fun z => by have := hd.1 18 (by decide); simp [z] at this)
  have e19 : s.1 19 = σ.1 19 := hG.1 19 (fun z => by have := hd.1 19 (by decide); simp [z] at this)
  rw [e12, e13, e14, e15, e16, e17, e18, e19]
  exact h
def LWr (r4 : Nat → Int32) (r5 : Nat → Int32) (r6 : Nat → Int32) (r7 : Nat → Int32) (r8 : Nat → Int32) (r9 : Nat → Int32) (r10 : Nat → Int32) (r11 : Nat → Int32)  : Prop := 1 ≤ (r4 0).toInt ∧ (∀ i : Nat, (i : Int) < (r4 0).toInt → VS (r6 i) (r7 i)) ∧ LDP (r4 0).toInt.toNat (r5 0).toInt.toNat (ri r6) (ri r7) (ri r9) (ri r10) (ri r11) ∧ RIG (r4 0).toInt.toNat (r5 0).toInt.toNat (ri r6) (ri r7) (ri r9) (ri r10) (ri r11) (mk (r4 0).toInt.toNat r8)
def LW (σ : Sto) : Prop := LWr (σ.1 4) (σ.1 5) (σ.1 6) (σ.1 7) (σ.1 8) (σ.1 9) (σ.1 10) (σ.1 11)
theorem LW.st1 {σ : Sto} {k i : Nat} {v : Int32} (hk : k ∉ ([4, 5, 6, 7, 8, 9, 10, 11] : List Nat)) (h : LW σ) : LW (sti σ k i v) := by
  unfold LW at h ⊢
  have e4 : (sti σ k i v).1 4 = σ.1 4 := if_neg (fun e => hk (by rw [← e]; decide))
  have e5 : (sti σ k i v).1 5 = σ.1 5 := if_neg (fun e => hk (by rw [← e]; decide))
  have e6 : (sti σ k i v).1 6 = σ.1 6 := if_neg (fun e => hk (by rw [← e]; decide))
  have e7 : (sti σ k i v).1 7 = σ.1 7 := if_neg (fun e => hk (by rw [← e]; decide))
  have e8 : (sti σ k i v).1 8 = σ.1 8 := if_neg (fun e => hk (by rw [← e]; decide))
  have e9 : (sti σ k i v).1 9 = σ.1 9 := if_neg (fun e => hk (by rw [← e]; decide))
  have e10 : (sti σ k i v).1 10 = σ.1 10 := if_neg (fun e => hk (by rw [← e]; decide))
  have e11 : (sti σ k i v).1 11 = σ.1 11 := if_neg (fun e => hk (by rw [← e]; decide))
  rw [e4, e5, e6, e7, e8, e9, e10, e11]
  exact h
theorem LW.st3 {σ : Sto} {k : Nat} {f : Nat → Int32} (hk : k ∉ ([4, 5, 6, 7, 8, 9, 10, 11] : List Nat)) (h : LW σ) : LW (stc σ k f) := by
  unfold LW at h ⊢
  have e4 : (stc σ k f).1 4 = σ.1 4 := if_neg (fun e => hk (by rw [← e]; decide))
  have e5 : (stc σ k f).1 5 = σ.1 5 := if_neg (fun e => hk (by rw [← e]; decide))
  have e6 : (stc σ k f).1 6 = σ.1 6 := if_neg (fun e => hk (by rw [← e]; decide))
  have e7 : (stc σ k f).1 7 = σ.1 7 := if_neg (fun e => hk (by rw [← e]; decide))
  have e8 : (stc σ k f).1 8 = σ.1 8 := if_neg (fun e => hk (by rw [← e]; decide))
  have e9 : (stc σ k f).1 9 = σ.1 9 := if_neg (fun e => hk (by rw [← e]; decide))
  have e10 : (stc σ k f).1 10 = σ.1 10 := if_neg (fun e => hk (by rw [← e]; decide))
  have e11 : (stc σ k f).1 11 = σ.1 11 := if_neg (fun e => hk (by rw [← e]; decide))
  rw [e4, e5, e6, e7, e8, e9, e10, e11]
  exact h
theorem LW.st2 {σ : Sto} {k i : Nat} {v : Int64} (hk : k ∉ ([] : List Nat)) (h : LW σ) : LW (stl σ k i v) := by
  unfold LW at h ⊢
  exact h
theorem LW.fr {ms ml : List Nat} {σ s : Sto} (hG : FR ms ml σ s) (hd : ([4, 5, 6, 7, 8, 9, 10, 11] : List Nat).all (fun k => !ms.contains k) && ([] : List Nat).all (fun k => !ml.contains k) = true) (h : LW σ) : LW s := by
  unfold LW at h ⊢
  simp only [Bool.and_eq_true, List.all_eq_true, decide_eq_true_eq] at hd
  have e4 : s.1 4 = σ.1 4 := hG.1 4 (fun z => by have := hd.1 4 (by decide); simp [z] at this)
  have e5 : s.1 5 = σ.1 5 := hG.1 5 (fun z => by have := hd.1 5 (by decide); simp [z] at this)
  have e6 : s.1 6 = σ.1 6 := hG.1 6 (fun z => by have := hd.1 6 (by decide); simp [z] at this)
  have e7 : s.1 7 = σ.1 7 := hG.1 7 (fun z => by have := hd.1 7 (by decide); simp [z] at this)
  have e8 : s.1 8 = σ.1 8 := hG.1 8 (fun z => by have := hd.1 8 (by decide); simp [z] at this)
  have e9 : s.1 9 = σ.1 9 := hG.1 9 (fun z => by have := hd.1 9 (by decide); simp [z] at this)
  have e10 : s.1 10 = σ.1 10 := hG.1 10 (fun z => by have := hd.1 10 (by decide); simp [z] at this)
  have e11 : s.1 11 = σ.1 11 := hG.1 11 (fun z => by have := hd.1 11 (by decide); simp [z] at this)
  rw [e4, e5, e6, e7, e8, e9, e10, e11]
  exact h
def DSr (r12 : Nat → Int32) (r14 : Nat → Int32) (r15 : Nat → Int32)  : Prop := ∀ i : Nat, (i : Int) < (r12 0).toInt → VS (r14 i) (r15 i)
def DS (σ : Sto) : Prop := DSr (σ.1 12) (σ.1 14) (σ.1 15)
theorem DS.st1 {σ : Sto} {k i : Nat} {v : Int32} (hk : k ∉ ([12, 14, 15] : List Nat)) (h : DS σ) : DS (sti σ k i v) := by
  unfold DS at h ⊢
  have e12 : (sti σ k i v).1 12 = σ.1 12 := if_neg (fun e => hk (by rw [← e]; decide))
  have e14 : (sti σ k i v).1 14 = σ.1 14 := if_neg (fun e => hk (by rw [← e]; decide))
  have e15 : (sti σ k i v).1 15 = σ.1 15 := if_neg (fun e => hk (by rw [← e]; decide))
  rw [e12, e14, e15]
  exact h
theorem DS.st3 {σ : Sto} {k : Nat} {f : Nat → Int32} (hk : k ∉ ([12, 14, 15] : List Nat)) (h : DS σ) : DS (stc σ k f) := by
  unfold DS at h ⊢
  have e12 : (stc σ k f).1 12 = σ.1 12 := if_neg (fun e => hk (by rw [← e]; decide))
  have e14 : (stc σ k f).1 14 = σ.1 14 := if_neg (fun e => hk (by rw [← e]; decide))
  have e15 : (stc σ k f).1 15 = σ.1 15 := if_neg (fun e => hk (by rw [← e]; decide))
  rw [e12, e14, e15]
  exact h
theorem DS.st2 {σ : Sto} {k i : Nat} {v : Int64} (hk : k ∉ ([] : List Nat)) (h : DS σ) : DS (stl σ k i v) := by
  unfold DS at h ⊢
  exact h
theorem DS.fr {ms ml : List Nat} {σ s : Sto} (hG : FR ms ml σ s) (hd : ([12, 14, 15] : List Nat).all (fun k => !ms.contains k) && ([] : List Nat).all (fun k => !ml.contains k) = true) (h : DS σ) : DS s := by
  unfold DS at h ⊢
  simp only [Bool.and_eq_true, List.all_eq_true, decide_eq_true_eq] at hd
  have e12 : s.1 12 = σ.1 12 := hG.1 12 (fun z => by have := hd.1 12 (by decide); simp [z] at this)
  have e14 : s.1 14 = σ.1 14 := hG.1 14 (fun z => by have := hd.1 14 (by decide); simp [z] at this)
  have e15 : s.1 15 = σ.1 15 := hG.1 15 (fun z => by have := hd.1 15 (by decide); simp [z] at this)
  rw [e12, e14, e15]
  exact h
theorem LW.cp {σ s : Sto} (h : DV σ) (b12 : 0 ≤ (σ.1 12 0).toInt ∧ (σ.1 12 0).toInt ≤ 40) (b13 : 0 ≤ (σ.1 13 0).toInt ∧ (σ.1 13 0).toInt ≤ 3) (c : (s.1 4 0).toInt = (σ.1 12 0).toInt ∧ (s.1 5 0).toInt = (σ.1 13 0).toInt ∧ (∀ i, i < 40 → s.1 6 i = σ.1 14 i ∧ s.1 7 i = σ.1 15 i ∧ s.1 8 i = σ.1 16 i) ∧ (∀ h, h < 3 → s.1 9 h = σ.1 17 h ∧ s.1 10 h = σ.1 18 h ∧ s.1 11 h = σ.1 19 h)) : LW s := by
  obtain ⟨c1, c2, c3, c4⟩ := c
  obtain ⟨h1, h2, h3, h4⟩ := h
  have a : ∀ i, i < (σ.1 12 0).toInt.toNat → ri (s.1 6) i = ri (σ.1 14) i ∧ ri (s.1 7) i = ri (σ.1 15) i := fun i hi => by unfold ri; rw [(c3 i (by omega)).1, (c3 i (by omega)).2.1]; exact ⟨rfl, rfl⟩
  have b : ∀ h, h < (σ.1 13 0).toInt.toNat → ri (s.1 9) h = ri (σ.1 17) h ∧ ri (s.1 10) h = ri (σ.1 18) h ∧ ri (s.1 11) h = ri (σ.1 19) h := fun i hi => by unfold ri; rw [(c4 i (by omega)).1, (c4 i (by omega)).2.1, (c4 i (by omega)).2.2]; exact ⟨rfl, rfl, rfl⟩
  unfold LW LWr
  rw [c1, c2]
  refine ⟨h1, fun i hi => ?_, h3.cp a b, ?_⟩
  · rw [(c3 i (by omega)).1, (c3 i (by omega)).2.1]; exact h2 i hi
  · rw [mk_cp (r := σ.1 16) (fun i hi => (c3 i (by omega)).2.2)]; exact h4.cp a b
theorem LW.lv {s : Sto} (h : LW s) (b : BX s) : LV s := by
  obtain ⟨h1, h2, h3, h4⟩ := h
  have b4 := gX_4 b 0
  have b5 := gX_5 b 0
  refine ⟨fun i hi => ⟨h2 i hi, fun hg => ?_, fun hd => ?_⟩, fun h hh => ?_⟩
  · have := h3.1 i (by omega) hg; unfold ri at this; omega
  · have e : mk (s.1 4 0).toInt.toNat (s.1 8) i = (s.1 8 i).toInt := mk_lt (by omega)
    obtain ⟨o1, o2, o3, o4, o5⟩ := h4.1 i (by omega) (by rw [e]; exact hd)
    rw [e] at o1 o2 o3 o4
    refine ⟨⟨o1, o2⟩, fun hg => ?_, fun hg => ?_⟩
    · have o := o3 hg
      rw [mk_lt o.1] at o
      exact ⟨by omega, o.2⟩
    · have l := h3.1 i (by omega) hg
      have g7 := gX_7 b i
      have e7 := clamp_I (x := s.1 7 i) (by omega)
      have o := o4 hg
      have e9 : (ri (s.1 7) i).toNat = (s.1 7 i).toNatClampNeg := by unfold ri; omega
      rw [e9] at o
      have l2 : ri (s.1 7) i = (s.1 7 i).toInt := rfl
      rw [mk_lt (by omega)] at o
      exact ⟨by omega, o⟩
  · have := h3.2 h (by omega); unfold ri at this; omega

def TGr (r20 : Nat → Int32) (r27 : Nat → Int32) (r30 : Nat → Int32)  : Prop := ∀ e : Nat, (e : Int) < (r27 0).toInt → (r30 e).toInt < (r20 0).toInt
def TG (σ : Sto) : Prop := TGr (σ.1 20) (σ.1 27) (σ.1 30)
theorem TG.st1 {σ : Sto} {k i : Nat} {v : Int32} (hk : k ∉ ([20, 27, 30] : List Nat)) (h : TG σ) : TG (sti σ k i v) := by
  unfold TG at h ⊢
  have e20 : (sti σ k i v).1 20 = σ.1 20 := if_neg (fun e => hk (by rw [← e]; decide))
  have e27 : (sti σ k i v).1 27 = σ.1 27 := if_neg (fun e => hk (by rw [← e]; decide))
  have e30 : (sti σ k i v).1 30 = σ.1 30 := if_neg (fun e => hk (by rw [← e]; decide))
  rw [e20, e27, e30]
  exact h
theorem TG.st3 {σ : Sto} {k : Nat} {f : Nat → Int32} (hk : k ∉ ([20, 27, 30] : List Nat)) (h : TG σ) : TG (stc σ k f) := by
  unfold TG at h ⊢
  have e20 : (stc σ k f).1 20 = σ.1 20 := if_neg (fun e => hk (by rw [← e]; decide))
  have e27 : (stc σ k f).1 27 = σ.1 27 := if_neg (fun e => hk (by rw [← e]; decide))
  have e30 : (stc σ k f).1 30 = σ.1 30 := if_neg (fun e => hk (by rw [← e]; decide))
  rw [e20, e27, e30]
  exact h
theorem TG.st2 {σ : Sto} {k i : Nat} {v : Int64} (hk : k ∉ ([] : List Nat)) (h : TG σ) : TG (stl σ k i v) := by
  unfold TG at h ⊢
  exact h
theorem TG.fr {ms ml : List Nat} {σ s : Sto} (hG : FR ms ml σ s) (hd : ([20, 27, 30] : List Nat).all (fun k => !ms.contains k) && ([] : List Nat).all (fun k => !ml.contains k) = true) (h : TG σ) : TG s := by
  unfold TG at h ⊢
  simp only [Bool.and_eq_true, List.all_eq_true, decide_eq_true_eq] at hd
  have e20 : s.1 20 = σ.1 20 := hG.1 20 (fun z => by have := hd.1 20 (by decide); simp [z] at this)
  have e27 : s.1 27 = σ.1 27 := hG.1 27 (fun z => by have := hd.1 27 (by decide); simp [z] at this)
  have e30 : s.1 30 = σ.1 30 := hG.1 30 (fun z => by have := hd.1 30 (by decide); simp [z] at this)
  rw [e20, e27, e30]
  exact h
def OFr (r4 : Nat → Int32) (r20 : Nat → Int32) (r23 : Nat → Int32)  : Prop := ∀ i : Nat, (i : Int) < (r4 0).toInt → (r23 i).toInt < (r20 0).toInt
def OF (σ : Sto) : Prop := OFr (σ.1 4) (σ.1 20) (σ.1 23)
theorem OF.st1 {σ : Sto} {k i : Nat} {v : Int32} (hk : k ∉ ([4, 20, 23] : List Nat)) (h : OF σ) : OF (sti σ k i v) := by
  unfold OF at h ⊢
  have e4 : (sti σ k i v).1 4 = σ.1 4 := if_neg (fun e => hk (by rw [← e]; decide))
  have e20 : (sti σ k i v).1 20 = σ.1 20 := if_neg (fun e => hk (by rw [← e]; decide))
  have e23 : (sti σ k i v).1 23 = σ.1 23 := if_neg (fun e => hk (by rw [← e]; decide))
  rw [e4, e20, e23]
  exact h
theorem OF.st3 {σ : Sto} {k : Nat} {f : Nat → Int32} (hk : k ∉ ([4, 20, 23] : List Nat)) (h : OF σ) : OF (stc σ k f) := by
  unfold OF at h ⊢
  have e4 : (stc σ k f).1 4 = σ.1 4 := if_neg (fun e => hk (by rw [← e]; decide))
  have e20 : (stc σ k f).1 20 = σ.1 20 := if_neg (fun e => hk (by rw [← e]; decide))
  have e23 : (stc σ k f).1 23 = σ.1 23 := if_neg (fun e => hk (by rw [← e]; decide))
  rw [e4, e20, e23]
  exact h
theorem OF.st2 {σ : Sto} {k i : Nat} {v : Int64} (hk : k ∉ ([] : List Nat)) (h : OF σ) : OF (stl σ k i v) := by
  unfold OF at h ⊢
  exact h
theorem OF.fr {ms ml : List Nat} {σ s : Sto} (hG : FR ms ml σ s) (hd : ([4, 20, 23] : List Nat).all (fun k => !ms.contains k) && ([] : List Nat).all (fun k => !ml.contains k) = true) (h : OF σ) : OF s := by
  unfold OF at h ⊢
  simp only [Bool.and_eq_true, List.all_eq_true, decide_eq_true_eq] at hd
  have e4 : s.1 4 = σ.1 4 := hG.1 4 (fun z => by have := hd.1 4 (by decide); simp [z] at this)
  have e20 : s.1 20 = σ.1 20 := hG.1 20 (fun z => by have := hd.1 20 (by decide); simp [z] at this)
  have e23 : s.1 23 = σ.1 23 := hG.1 23 (fun z => by have := hd.1 23 (by decide); simp [z] at this)
  rw [e4, e20, e23]
  exact h
def FEr (r28 : Nat → Int32)  : Prop := ∀ b : Nat, b < 40 → (r28 b).toInt ≤ 119
def FE (σ : Sto) : Prop := FEr (σ.1 28)
theorem FE.st1 {σ : Sto} {k i : Nat} {v : Int32} (hk : k ∉ ([28] : List Nat)) (h : FE σ) : FE (sti σ k i v) := by
  unfold FE at h ⊢
  have e28 : (sti σ k i v).1 28 = σ.1 28 := if_neg (fun e => hk (by rw [← e]; decide))
  rw [e28]
  exact h
theorem FE.st3 {σ : Sto} {k : Nat} {f : Nat → Int32} (hk : k ∉ ([28] : List Nat)) (h : FE σ) : FE (stc σ k f) := by
  unfold FE at h ⊢
  have e28 : (stc σ k f).1 28 = σ.1 28 := if_neg (fun e => hk (by rw [← e]; decide))
  rw [e28]
  exact h
theorem FE.st2 {σ : Sto} {k i : Nat} {v : Int64} (hk : k ∉ ([] : List Nat)) (h : FE σ) : FE (stl σ k i v) := by
  unfold FE at h ⊢
  exact h
theorem FE.fr {ms ml : List Nat} {σ s : Sto} (hG : FR ms ml σ s) (hd : ([28] : List Nat).all (fun k => !ms.contains k) && ([] : List Nat).all (fun k => !ml.contains k) = true) (h : FE σ) : FE s := by
  unfold FE at h ⊢
  simp only [Bool.and_eq_true, List.all_eq_true, decide_eq_true_eq] at hd
  have e28 : s.1 28 = σ.1 28 := hG.1 28 (fun z => by have := hd.1 28 (by decide); simp [z] at this)
  rw [e28]
  exact h
def EBr (r20 : Nat → Int32) (r27 : Nat → Int32) (r28 : Nat → Int32) (r30 : Nat → Int32)  : Prop := 1 ≤ (r20 0).toInt ∧ (∀ p q : Nat, p ≤ q → (q : Int) ≤ (r20 0).toInt → (r28 p).toInt ≤ (r28 q).toInt) ∧ (∀ b : Nat, (b : Int) = (r20 0).toInt → (r28 b).toInt = (r27 0).toInt) ∧ ∀ e : Nat, (e : Int) < (r27 0).toInt → (r30 e).toInt < (r20 0).toInt
def EB (σ : Sto) : Prop := EBr (σ.1 20) (σ.1 27) (σ.1 28) (σ.1 30)
theorem EB.st1 {σ : Sto} {k i : Nat} {v : Int32} (hk : k ∉ ([20, 27, 28, 30] : List Nat)) (h : EB σ) : EB (sti σ k i v) := by
  unfold EB at h ⊢
  have e20 : (sti σ k i v).1 20 = σ.1 20 := if_neg (fun e => hk (by rw [← e]; decide))
  have e27 : (sti σ k i v).1 27 = σ.1 27 := if_neg (fun e => hk (by rw [← e]; decide))
  have e28 : (sti σ k i v).1 28 = σ.1 28 := if_neg (fun e => hk (by rw [← e]; decide))
  have e30 : (sti σ k i v).1 30 = σ.1 30 := if_neg (fun e => hk (by rw [← e]; decide))
  rw [e20, e27, e28, e30]
  exact h
theorem EB.st3 {σ : Sto} {k : Nat} {f : Nat → Int32} (hk : k ∉ ([20, 27, 28, 30] : List Nat)) (h : EB σ) : EB (stc σ k f) := by
  unfold EB at h ⊢
  have e20 : (stc σ k f).1 20 = σ.1 20 := if_neg (fun e => hk (by rw [← e]; decide))
  have e27 : (stc σ k f).1 27 = σ.1 27 := if_neg (fun e => hk (by rw [← e]; decide))
  have e28 : (stc σ k f).1 28 = σ.1 28 := if_neg (fun e => hk (by rw [← e]; decide))
  have e30 : (stc σ k f).1 30 = σ.1 30 := if_neg (fun e => hk (by rw [← e]; decide))
  rw [e20, e27, e28, e30]
  exact h
theorem EB.st2 {σ : Sto} {k i : Nat} {v : Int64} (hk : k ∉ ([] : List Nat)) (h : EB σ) : EB (stl σ k i v) := by
  unfold EB at h ⊢
  exact h
theorem EB.fr {ms ml : List Nat} {σ s : Sto} (hG : FR ms ml σ s) (hd : ([20, 27, 28, 30] : List Nat).all (fun k => !ms.contains k) && ([] : List Nat).all (fun k => !ml.contains k) = true) (h : EB σ) : EB s := by
  unfold EB at h ⊢
  simp only [Bool.and_eq_true, List.all_eq_true, decide_eq_true_eq] at hd
  have e20 : s.1 20 = σ.1 20 := hG.1 20 (fun z => by have := hd.1 20 (by decide); simp [z] at this)
  have e27 : s.1 27 = σ.1 27 := hG.1 27 (fun z => by have := hd.1 27 (by decide); simp [z] at this)
  have e28 : s.1 28 = σ.1 28 := hG.1 28 (fun z => by have := hd.1 28 (by decide); simp [z] at this)
  have e30 : s.1 30 = σ.1 30 := hG.1 30 (fun z => by have := hd.1 30 (by decide); simp [z] at this)
  rw [e20, e27, e28, e30]
  exact h
theorem TG.add {σ s7 s11 : Sto} {n : Nat} {v : Int32} (h : TG σ) (a30 : s11.1 30 = (sti s7 30 n v).1 30) (a7 : s7.1 30 = σ.1 30) (a20 : (s11.1 20 0).toInt = (σ.1 20 0).toInt) (a27 : (s11.1 27 0).toInt = (σ.1 27 0).toInt + 1) (hn : (n : Int) = (σ.1 27 0).toInt) (hv : v.toInt < (σ.1 20 0).toInt) : TG s11 := by
  intro e he
  rw [a20, a30, sti_if]
  by_cases q : e = n
  · rw [if_pos q]; exact hv
  · rw [if_neg q, a7]; exact h e (by omega)
theorem BKI.st_bg {dd : Nat → Int} {ct : Nat → Prop} {s4 s19 s28 s29 s25 s26 : Sto} {x v w : Int32} {i : Nat} (h : BKI dd ct i (ri (s4.1 21)) (ri (s4.1 22)) (ri (s4.1 23)) (s4.1 20 0).toInt.toNat) (hb : bgP dd ct i = true)
    (hi : x.toNatClampNeg = i) (hx : 0 ≤ x.toInt) (e19 : s19 = sti s4 23 x.toNatClampNeg v) (e28 : s28 = sti s19 21 (s19.1 20 0).toNatClampNeg x) (e29 : s29 = sti s28 20 0 ((s28.1 20 0) + 1)) (e25 : s25 = sti s29 23 x.toNatClampNeg w) (hw : w.toInt = (s4.1 20 0).toInt) (e26 : s26 = sti s25 22 ((s25.1 20 0) - 1).toNatClampNeg x) (h0 : 0 ≤ (s4.1 20 0).toInt) (h1 : (s4.1 20 0).toInt ≤ 100) :
    BKI dd ct (i + 1) (ri (s26.1 21)) (ri (s26.1 22)) (ri (s26.1 23)) (s26.1 20 0).toInt.toNat := by
  have k1 : (1 : Int32).toInt = 1 := by decide
  have z19 : s19.1 20 = s4.1 20 := by rw [e19]; rfl
  have z28 : s28.1 20 = s4.1 20 := by rw [e28]; exact z19
  have z25 : s25.1 20 0 = s4.1 20 0 + 1 := by rw [e25, e29]; show (sti s28 20 0 ((s28.1 20 0) + 1)).1 20 0 = _; rw [sti_s, z28]
  have z26 : s26.1 20 0 = s4.1 20 0 + 1 := by rw [e26]; exact z25
  have t1 : (s4.1 20 0 + 1).toInt = (s4.1 20 0).toInt + 1 := by have := fb_addI (x := s4.1 20 0) (y := 1) (by rw [k1]; omega) (by rw [k1]; omega); rw [k1] at this; exact this
  have t2 : ((s4.1 20 0 + 1) - 1).toInt = (s4.1 20 0).toInt := by have := fb_subI (x := s4.1 20 0 + 1) (y := 1) (by rw [k1]; omega) (by rw [k1]; omega); rw [k1] at this; omega
  have c1 := clamp_I (x := s4.1 20 0) h0
  have c2 := clamp_I (x := (s4.1 20 0 + 1) - 1) (by omega)
  have c3 := clamp_I hx
  rw [z26, show (s4.1 20 0 + 1).toInt.toNat = (s4.1 20 0).toInt.toNat + 1 by omega]
  refine h.bg hb ?_ ?_ ?_
  · have a : s26.1 21 = s28.1 21 := by rw [e26, e25, e29]; rfl
    have b : s19.1 21 = s4.1 21 := by rw [e19]; rfl
    rw [a, e28, ri_upd, b, z19, show (s4.1 20 0).toNatClampNeg = (s4.1 20 0).toInt.toNat by omega, show x.toInt = (i : Int) by omega]
  · have a : s26.1 23 = s25.1 23 := by rw [e26]; rfl
    have b : s29.1 23 = s19.1 23 := by rw [e29, e28]; rfl
    rw [a, e25, ri_upd, b, e19, ri_upd, hi, hw]
    funext k; unfold upI; split
    · omega
    · rfl
  · have b : s25.1 22 = s4.1 22 := by rw [e25, e29, e28, e19]; rfl
    rw [e26, ri_upd, b, z25, show ((s4.1 20 0 + 1) - 1).toNatClampNeg = (s4.1 20 0).toInt.toNat by omega, show x.toInt = (i : Int) by omega]
theorem BKI.st_on {dd : Nat → Int} {ct : Nat → Prop} {s4 s19 s25 s26 : Sto} {x v w : Int32} {i : Nat} (h : BKI dd ct i (ri (s4.1 21)) (ri (s4.1 22)) (ri (s4.1 23)) (s4.1 20 0).toInt.toNat) (hd : dd i ≠ -1) (hb : bgP dd ct i = false)
    (hi : x.toNatClampNeg = i) (hx : 0 ≤ x.toInt) (e19 : s19 = sti s4 23 x.toNatClampNeg v) (e25 : s25 = sti s19 23 x.toNatClampNeg w) (hw : w.toInt = (s4.1 20 0).toInt - 1) (e26 : s26 = sti s25 22 ((s25.1 20 0) - 1).toNatClampNeg x) (h0 : 1 ≤ (s4.1 20 0).toInt) (h1 : (s4.1 20 0).toInt ≤ 100) :
    BKI dd ct (i + 1) (ri (s26.1 21)) (ri (s26.1 22)) (ri (s26.1 23)) (s26.1 20 0).toInt.toNat := by
  have k1 : (1 : Int32).toInt = 1 := by decide
  have z25 : s25.1 20 = s4.1 20 := by rw [e25, e19]; rfl
  have z26 : s26.1 20 = s4.1 20 := by rw [e26]; exact z25
  have z21 : s26.1 21 = s4.1 21 := by rw [e26, e25, e19]; rfl
  have t2 : (s4.1 20 0 - 1).toInt = (s4.1 20 0).toInt - 1 := by have := fb_subI (x := s4.1 20 0) (y := 1) (by rw [k1]; omega) (by rw [k1]; omega); rw [k1] at this; exact this
  have c2 := clamp_I (x := s4.1 20 0 - 1) (by omega)
  have c3 := clamp_I hx
  rw [z26, z21]
  refine h.on hd hb (by omega) ?_ ?_
  · have a : s26.1 23 = s25.1 23 := by rw [e26]; rfl
    rw [a, e25, ri_upd, e19, ri_upd, hi, hw]
    funext k; unfold upI; split
    · omega
    · rfl
  · have b : s25.1 22 = s4.1 22 := by rw [e25, e19]; rfl
    rw [e26, ri_upd, b, z25, show (s4.1 20 0 - 1).toNatClampNeg = (s4.1 20 0).toInt.toNat - 1 by omega, show x.toInt = (i : Int) by omega]
theorem BKI.st_no {dd : Nat → Int} {ct : Nat → Prop} {s4 s19 : Sto} {x v : Int32} {i : Nat} (h : BKI dd ct i (ri (s4.1 21)) (ri (s4.1 22)) (ri (s4.1 23)) (s4.1 20 0).toInt.toNat) (hd : dd i = -1)
    (hi : x.toNatClampNeg = i) (e19 : s19 = sti s4 23 x.toNatClampNeg v) (hv : v.toInt = -1) :
    BKI dd ct (i + 1) (ri (s19.1 21)) (ri (s19.1 22)) (ri (s19.1 23)) (s19.1 20 0).toInt.toNat := by
  have a : s19.1 21 = s4.1 21 := by rw [e19]; rfl
  have b : s19.1 22 = s4.1 22 := by rw [e19]; rfl
  have c : s19.1 20 = s4.1 20 := by rw [e19]; rfl
  rw [a, b, c]
  exact h.no hd (by rw [e19, ri_upd, hi, hv])
theorem cb_pos {dd : Nat → Int} {ct : Nat → Prop} {i : Nat} (h0 : dd 0 ≠ -1) (hi : 0 < i) : 1 ≤ cbP dd ct i := by
  have a := cbP_le (d := dd) (ct := ct) (show 0 + 1 ≤ i by omega)
  rw [cbP_t (bgP_t.mpr ⟨h0, Or.inr rfl⟩)] at a
  omega
theorem GB.of {σ s : Sto} (hB : BX σ) (h : LW σ) (hb : BKI (mk (σ.1 4 0).toInt.toNat (σ.1 8)) (CUTC (σ.1 4 0).toInt.toNat (σ.1 5 0).toInt.toNat (ri (σ.1 6)) (ri (σ.1 7)) (ri (σ.1 9)) (ri (σ.1 10)) (ri (σ.1 11)) (mk (σ.1 4 0).toInt.toNat (σ.1 8))) (σ.1 4 0).toInt.toNat (ri (s.1 21)) (ri (s.1 22)) (ri (s.1 23)) (s.1 20 0).toInt.toNat)
    (a6 : s.1 6 = σ.1 6) (a7 : s.1 7 = σ.1 7) (a8 : s.1 8 = σ.1 8) : GB s := by
  have b4 := gX_4 hB 0
  obtain ⟨h1, h2, h3, h4⟩ := h
  intro b hbb
  obtain ⟨f, l, r1, r2, r3, r4, r5, r6, r7, r8, r9⟩ := hb.blk h4.nx (b := b) (by omega)
  have r1' : (s.1 21 b).toInt = f := r1
  have r2' : (s.1 22 b).toInt = l := r2
  have e : ∀ i, i ≤ l → mk (σ.1 4 0).toInt.toNat (σ.1 8) i = (σ.1 8 i).toInt := fun i hi => mk_lt (by omega)
  have hf := (r8 f (Nat.le_refl _) r3).1
  have cf := clamp_I (x := s.1 21 b) (by omega)
  have ef : (s.1 21 b).toNatClampNeg = f := by omega
  have d6 := h4.2.2.2.1 f
  rw [e f r3] at hf d6
  unfold GB1
  rw [a6, a7, a8, ef]
  refine ⟨by omega, by omega, by omega, by omega, by omega, fun i hi1 hi2 => ?_⟩
  have q := r8 i (by omega) (by omega)
  have o := h4.1 i (by omega) q.1
  have ei := e i (by omega)
  refine ⟨h2 i (by omega), ?_, fun hl => ?_⟩
  · have := o.1; have := o.2.1; rw [ei] at *; exact ⟨by unfold ri at *; omega, by unfold ri at *; omega⟩
  · have z := (q.2 (by omega)).1.2.2
    rw [ei, e (i + 1) (by omega)] at z
    exact z

def BVr  (l5 : Nat → Int64) : Prop := ∀ b i : Nat, bL (l5 b) i = true → i < 40
def BV (σ : Sto) : Prop := BVr (σ.2 5)
theorem BV.st1 {σ : Sto} {k i : Nat} {v : Int32} (hk : k ∉ ([] : List Nat)) (h : BV σ) : BV (sti σ k i v) := by
  unfold BV at h ⊢
  exact h
theorem BV.st3 {σ : Sto} {k : Nat} {f : Nat → Int32} (hk : k ∉ ([] : List Nat)) (h : BV σ) : BV (stc σ k f) := by
  unfold BV at h ⊢
  exact h
theorem BV.st2 {σ : Sto} {k i : Nat} {v : Int64} (hk : k ∉ ([5] : List Nat)) (h : BV σ) : BV (stl σ k i v) := by
  unfold BV at h ⊢
  have e5 : (stl σ k i v).2 5 = σ.2 5 := if_neg (fun e => hk (by rw [← e]; decide))
  rw [e5]
  exact h
theorem BV.fr {ms ml : List Nat} {σ s : Sto} (hG : FR ms ml σ s) (hd : ([] : List Nat).all (fun k => !ms.contains k) && ([5] : List Nat).all (fun k => !ml.contains k) = true) (h : BV σ) : BV s := by
  unfold BV at h ⊢
  simp only [Bool.and_eq_true, List.all_eq_true, decide_eq_true_eq] at hd
  have e1005 : s.2 5 = σ.2 5 := hG.2 5 (fun z => by have := hd.2 5 (by decide); simp [z] at this)
  rw [e1005]
  exact h
theorem BV.set {σ s : Sto} {n : Nat} {v : Int64} (h : BV σ) (e : s = stl σ 5 n v) (hv : ∀ i, bL v i = true → i < 40) : BV s := by
  subst e
  intro b i
  rw [show (stl σ 5 n v).2 5 b = if b = n then v else σ.2 5 b by rw [stl_at]; by_cases q : b = n <;> simp [q]]
  by_cases q : b = n
  · rw [if_pos q]; exact hv i
  · rw [if_neg q]; exact h b i
theorem ct_one {n : Nat} (h : 0 < n) : fb_ct (bL 1) n = 1 := by
  have q := fb_ct_upd (fun _ => false) true (i := 0) (n := n) h
  have q2 : fb_ct (fun k => if k = 0 then true else false) n = fb_ct (bL 1) n := fb_ct_cong (fun k hk => by
    have b : bL 1 k = decide (k = 0) := bL_one (v := 0) (by decide) (by decide) k
    rw [b]; by_cases z : k = 0 <;> simp [z])
  have q3 : fb_ct (fun _ => false) n = 0 := fb_ct_zero.mpr (fun _ _ => rfl)
  rw [q2, q3] at q
  simpa using q
def OPN (r28 r42 r43 : Nat → Int32) (nb h : Int) : Prop := ∀ k : Nat, (k : Int) < h → (r42 k).toInt < nb ∧ (r28 (r42 k).toNatClampNeg).toInt ≤ (r43 k).toInt ∧ (r43 k).toInt ≤ (r28 ((r42 k).toNatClampNeg + 1)).toInt
theorem OPN.inc {σ s : Sto} {r28 r42 : Nat → Int32} {nb h : Int} {n : Nat} {w : Int32} (H : OPN r28 r42 (σ.1 43) nb h) (e : s = sti σ 43 n (w + 1)) (hn : (n : Int) < h) (hw : w.toInt = (σ.1 43 n).toInt) (hb : 0 ≤ w.toInt ∧ w.toInt < 1000) (h2 : (σ.1 43 n).toInt ≠ (r28 ((r42 n).toNatClampNeg + 1)).toInt) : OPN r28 r42 (s.1 43) nb h := by
  have k1 : (1 : Int32).toInt = 1 := by decide
  have h1 : (w + 1).toInt = w.toInt + 1 := by have := fb_addI (x := w) (y := 1) (by rw [k1]; omega) (by rw [k1]; omega); rw [k1] at this; exact this
  intro k hk
  rw [e, sti_if]
  by_cases q : k = n
  · subst q; rw [if_pos rfl]; have := H k hk; omega
  · rw [if_neg q]; exact H k hk
theorem OPN.push {σ s t : Sto} {r28 : Nat → Int32} {nb h h' : Int} {n : Nat} {v w : Int32} (H : OPN r28 (σ.1 42) (σ.1 43) nb h) (e : s = sti σ 42 n v) (e2 : t = sti s 43 n w) (hn : (n : Int) = h) (hh : h' = h + 1) (hv : v.toInt < nb) (h1 : (r28 v.toNatClampNeg).toInt ≤ w.toInt) (h2 : w.toInt ≤ (r28 (v.toNatClampNeg + 1)).toInt) : OPN r28 (t.1 42) (t.1 43) nb h' := by
  intro k hk
  have a : t.1 42 = s.1 42 := by rw [e2]; exact sti_o (by decide)
  have b : s.1 43 = σ.1 43 := by rw [e]; exact sti_o (by decide)
  rw [a, e, e2, sti_if, sti_if, b]
  by_cases q : k = n
  · rw [if_pos q, if_pos q]; exact ⟨hv, h1, h2⟩
  · rw [if_neg q, if_neg q]; exact H k (by omega)

theorem LI.set {σ s : Sto} {n : Nat} {v : Int32} (h : LI σ) (e : s = sti σ 72 n v) (hk : (σ.1 69 n).toInt ≠ 0) : LI s := by
  subst e
  intro k hk2
  have a : (sti σ 72 n v).1 69 = σ.1 69 := sti_o (by decide)
  rw [a] at hk2
  rw [sti_if]
  by_cases q : k = n
  · subst q; exact absurd hk2 hk
  · rw [if_neg q]; exact h k hk2

theorem LI.setk {σ s : Sto} {n : Nat} {v : Int32} (h : LI σ) (e : s = sti σ 69 n v) (hk : v.toInt ≠ 0) : LI s := by
  subst e
  intro k hk2
  have a : (sti σ 69 n v).1 72 = σ.1 72 := sti_o (by decide)
  rw [a]
  rw [sti_if] at hk2
  by_cases q : k = n
  · rw [if_pos q] at hk2; exact absurd hk2 hk
  · rw [if_neg q] at hk2; exact h k hk2

theorem QV.of {σ s : Sto} (h : LW σ) (b : BX σ) (e : ∀ k, 4 ≤ k → k ≤ 11 → s.1 k = σ.1 k) : QV s := fun _ => by
  have l := LW.lv h b
  rw [e 4 (by decide) (by decide), e 5 (by decide) (by decide), e 6 (by decide) (by decide), e 7 (by decide) (by decide), e 8 (by decide) (by decide), e 9 (by decide) (by decide), e 10 (by decide) (by decide), e 11 (by decide) (by decide)]
  exact ⟨h.1, l⟩

theorem DV.of {σ s : Sto} {v : Int} (h1 : 1 ≤ (σ.1 12 0).toInt) (hS : DS σ) (hB : BX σ) (hv : v = 0) (hj : (LDP (σ.1 12 0).toInt.toNat (σ.1 13 0).toInt.toNat (ri (σ.1 14)) (ri (σ.1 15)) (ri (σ.1 17)) (ri (σ.1 18)) (ri (σ.1 19)) → (v, mk (σ.1 12 0).toInt.toNat (s.1 16)) = JUP (σ.1 12 0).toInt.toNat (σ.1 13 0).toInt.toNat (ri (σ.1 14)) (ri (σ.1 15)) (ri (σ.1 17)) (ri (σ.1 18)) (ri (σ.1 19))) ∧ (¬ LDP (σ.1 12 0).toInt.toNat (σ.1 13 0).toInt.toNat (ri (σ.1 14)) (ri (σ.1 15)) (ri (σ.1 17)) (ri (σ.1 18)) (ri (σ.1 19)) → v = -2)) (e : ∀ k, 12 ≤ k → k ≤ 19 → k ≠ 16 → s.1 k = σ.1 k) : DV s := by
  have g12 := gX_12 hB 0
  have hl : LDP (σ.1 12 0).toInt.toNat (σ.1 13 0).toInt.toNat (ri (σ.1 14)) (ri (σ.1 15)) (ri (σ.1 17)) (ri (σ.1 18)) (ri (σ.1 19)) := Classical.byContradiction fun z => by have := hj.2 z; omega
  have hr := hj.1 hl
  have e1 : (JUP (σ.1 12 0).toInt.toNat (σ.1 13 0).toInt.toNat (ri (σ.1 14)) (ri (σ.1 15)) (ri (σ.1 17)) (ri (σ.1 18)) (ri (σ.1 19))).1 = 0 := by rw [← hr]; exact hv
  have e2 : (JUP (σ.1 12 0).toInt.toNat (σ.1 13 0).toInt.toNat (ri (σ.1 14)) (ri (σ.1 15)) (ri (σ.1 17)) (ri (σ.1 18)) (ri (σ.1 19))).2 = mk (σ.1 12 0).toInt.toNat (s.1 16) := by rw [← hr]
  have R := JUP_ok (n := (σ.1 12 0).toInt.toNat) (hs := (σ.1 13 0).toInt.toNat) (sg := ri (σ.1 14)) (nm := ri (σ.1 15)) (fr := ri (σ.1 17)) (up := ri (σ.1 18)) (go := ri (σ.1 19)) (by omega) (fun i hi hg => ⟨(gX_15 hB i).1, by have := hl.1 i hi hg; unfold ri at *; omega⟩) (fun h hh => ⟨(gX_19 hB h).1, (hl.2 h hh).2.2⟩) e1
  rw [e2] at R
  unfold DV DVr
  rw [e 12 (by decide) (by decide) (by decide), e 13 (by decide) (by decide) (by decide), e 14 (by decide) (by decide) (by decide), e 15 (by decide) (by decide) (by decide), e 17 (by decide) (by decide) (by decide), e 18 (by decide) (by decide) (by decide), e 19 (by decide) (by decide) (by decide)]
  exact ⟨h1, hS, hl, R⟩

def IfP (v : Int) (P : Prop) : Prop := v = 1 ↔ P

def SGN (g : Int32) : Prop := (g.toInt = 84 ∨ g.toInt = 88 ∨ g.toInt = 105 ∨ g.toInt = 107 ∨ g.toInt = 108) ∨ opU g ∨ opB g
def pex (g a b : Int) : Int := if g = 43 ∨ g = 45 ∨ g = 42 ∨ g = 47 ∨ g = 37 ∨ g = 60 ∨ g = 61 then 1 + a + b else if g = 33 ∨ g = 110 then 1 + a else 1
theorem pex_B {g : Int32} {a b : Int} (h : opB g) : pex g.toInt a b = 1 + a + b := by unfold opB at h; unfold pex; rw [if_pos (by omega)]
theorem pex_U {g : Int32} {a b : Int} (h : opU g) : pex g.toInt a b = 1 + a := by unfold opU at h; unfold pex; rw [if_neg (by omega), if_pos (by omega)]
theorem pex_L {g a b : Int} (h : g = 84 ∨ g = 88 ∨ g = 105 ∨ g = 107 ∨ g = 108) : pex g a b = 1 := by unfold pex; rw [if_neg (by omega), if_neg (by omega)]
theorem pex_N {g : Int32} {a b : Int} (h : ¬ opB g) (h2 : ¬ opU g) : pex g.toInt a b = 1 := by unfold opB at h; unfold opU at h2; unfold pex; rw [if_neg (by omega), if_neg (by omega)]
def PAr (r46 : Nat → Int32) (r47 : Nat → Int32) (r48 : Nat → Int32) (r49 : Nat → Int32) (r50 : Nat → Int32)  : Prop := (∀ e : Nat, (e : Int) < (r46 0).toInt → 1 ≤ (r50 e).toInt ∧ (r50 e).toInt ≤ 60 ∧ (r50 e).toInt = pex (r47 e).toInt (r50 (r48 e).toNatClampNeg).toInt (r50 (r49 e).toNatClampNeg).toInt) ∧ (1 ≤ (r46 0).toInt → (r50 0).toInt = 1) ∧ ∀ e : Nat, (e : Int) < (r46 0).toInt → SGN (r47 e)
def PA (σ : Sto) : Prop := PAr (σ.1 46) (σ.1 47) (σ.1 48) (σ.1 49) (σ.1 50)
theorem PA.st1 {σ : Sto} {k i : Nat} {v : Int32} (hk : k ∉ ([46, 47, 48, 49, 50] : List Nat)) (h : PA σ) : PA (sti σ k i v) := by
  unfold PA at h ⊢
  have e46 : (sti σ k i v).1 46 = σ.1 46 := if_neg (fun e => hk (by rw [← e]; decide))
  have e47 : (sti σ k i v).1 47 = σ.1 47 := if_neg (fun e => hk (by rw [← e]; decide))
  have e48 : (sti σ k i v).1 48 = σ.1 48 := if_neg (fun e => hk (by rw [← e]; decide))
  have e49 : (sti σ k i v).1 49 = σ.1 49 := if_neg (fun e => hk (by rw [← e]; decide))
  have e50 : (sti σ k i v).1 50 = σ.1 50 := if_neg (fun e => hk (by rw [← e]; decide))
  rw [e46, e47, e48, e49, e50]
  exact h
theorem PA.st3 {σ : Sto} {k : Nat} {f : Nat → Int32} (hk : k ∉ ([46, 47, 48, 49, 50] : List Nat)) (h : PA σ) : PA (stc σ k f) := by
  unfold PA at h ⊢
  have e46 : (stc σ k f).1 46 = σ.1 46 := if_neg (fun e => hk (by rw [← e]; decide))
  have e47 : (stc σ k f).1 47 = σ.1 47 := if_neg (fun e => hk (by rw [← e]; decide))
  have e48 : (stc σ k f).1 48 = σ.1 48 := if_neg (fun e => hk (by rw [← e]; decide))
  have e49 : (stc σ k f).1 49 = σ.1 49 := if_neg (fun e => hk (by rw [← e]; decide))
  have e50 : (stc σ k f).1 50 = σ.1 50 := if_neg (fun e => hk (by rw [← e]; decide))
  rw [e46, e47, e48, e49, e50]
  exact h
theorem PA.st2 {σ : Sto} {k i : Nat} {v : Int64} (hk : k ∉ ([] : List Nat)) (h : PA σ) : PA (stl σ k i v) := by
  unfold PA at h ⊢
  exact h
theorem PA.fr {ms ml : List Nat} {σ s : Sto} (hG : FR ms ml σ s) (hd : ([46, 47, 48, 49, 50] : List Nat).all (fun k => !ms.contains k) && ([] : List Nat).all (fun k => !ml.contains k) = true) (h : PA σ) : PA s := by
  unfold PA at h ⊢
  simp only [Bool.and_eq_true, List.all_eq_true, decide_eq_true_eq] at hd
  have e46 : s.1 46 = σ.1 46 := hG.1 46 (fun z => by have := hd.1 46 (by decide); simp [z] at this)
  have e47 : s.1 47 = σ.1 47 := hG.1 47 (fun z => by have := hd.1 47 (by decide); simp [z] at this)
  have e48 : s.1 48 = σ.1 48 := hG.1 48 (fun z => by have := hd.1 48 (by decide); simp [z] at this)
  have e49 : s.1 49 = σ.1 49 := hG.1 49 (fun z => by have := hd.1 49 (by decide); simp [z] at this)
  have e50 : s.1 50 = σ.1 50 := hG.1 50 (fun z => by have := hd.1 50 (by decide); simp [z] at this)
  rw [e46, e47, e48, e49, e50]
  exact h
def F50 (σ s : Sto) : Prop := ∀ i : Nat, (i : Int) < (σ.1 46 0).toInt → s.1 50 i = σ.1 50 i ∧ s.1 48 i = σ.1 48 i ∧ s.1 49 i = σ.1 49 i
def SB (s : Sto) (B : Int) : Prop := fb_si (fun k => (s.1 50 (s.1 60 k).toNatClampNeg).toInt) (s.1 61 0).toInt.toNat ≤ B
theorem F50.rf {σ : Sto} : F50 σ σ := fun _ _ => ⟨rfl, rfl, rfl⟩
theorem F50.of {σ s : Sto} (e : s.1 50 = σ.1 50) (e8 : s.1 48 = σ.1 48) (e9 : s.1 49 = σ.1 49) : F50 σ s := fun i _ => by rw [e, e8, e9]; exact ⟨rfl, rfl, rfl⟩
theorem F50.tr {σ s t : Sto} (h : F50 σ s) (h2 : F50 s t) (hm : (σ.1 46 0).toInt ≤ (s.1 46 0).toInt) : F50 σ t := fun i hi => ⟨(h2 i (by omega)).1.trans (h i hi).1, (h2 i (by omega)).2.1.trans (h i hi).2.1, (h2 i (by omega)).2.2.trans (h i hi).2.2⟩
theorem SB.mono {s : Sto} {A B : Int} (h : SB s A) (hh : A ≤ B) : SB s B := Int.le_trans h hh
theorem SB.same {σ s : Sto} {B : Int} (h : SB σ B) (hK : KI σ) (e60 : s.1 60 = σ.1 60) (e61 : s.1 61 = σ.1 61) (hf : F50 σ s) (hB : BX σ) : SB s B := by
  unfold SB at h ⊢
  rw [e60, e61]
  have c : fb_si (fun k => (s.1 50 (σ.1 60 k).toNatClampNeg).toInt) (σ.1 61 0).toInt.toNat = fb_si (fun k => (σ.1 50 (σ.1 60 k).toNatClampNeg).toInt) (σ.1 61 0).toInt.toNat := fb_si_cong (fun k hk => by
    have q := hK k (by omega)
    have g := gX_60 hB k
    rw [(hf _ (by have := clamp_I (x := σ.1 60 k) (by omega); omega)).1])
  rw [c]; exact h
theorem SB.push {σ s t : Sto} {n : Nat} {v w : Int32} {B : Int} (h : SB σ B) (e1 : s = sti σ 60 n v) (e2 : t = sti s 61 0 w) (hn : (n : Int) = (σ.1 61 0).toInt) (hw : (t.1 61 0).toInt = (σ.1 61 0).toInt + 1) : SB t (B + (σ.1 50 v.toNatClampNeg).toInt) := by
  have a : t.1 60 = (sti σ 60 n v).1 60 := by rw [e2, e1]; exact sti_o (by decide)
  have b : t.1 50 = σ.1 50 := by rw [e2, e1]; exact (sti_o (by decide)).trans (sti_o (by decide))
  unfold SB at h ⊢
  rw [a, b, hw, show ((σ.1 61 0).toInt + 1).toNat = n + 1 by omega, fb_si_succ, sti_s]
  have c : fb_si (fun k => (σ.1 50 ((sti σ 60 n v).1 60 k).toNatClampNeg).toInt) n = fb_si (fun k => (σ.1 50 (σ.1 60 k).toNatClampNeg).toInt) n := fb_si_cong (fun k hk => by rw [sti_j (by omega)])
  rw [c]
  rw [show (σ.1 61 0).toInt.toNat = n by omega] at h
  exact Int.add_le_add_right h _
theorem SB.pop {σ s : Sto} {v : Int32} {B : Int} (h : SB σ B) (e : s = sti σ 61 0 v) (hv : (s.1 61 0).toInt = (σ.1 61 0).toInt - 1) (h1 : 1 ≤ (σ.1 61 0).toInt) : SB s (B - (σ.1 50 (s.1 60 (s.1 61 0).toNatClampNeg).toNatClampNeg).toInt) := by
  have a : s.1 60 = σ.1 60 := by rw [e]; exact sti_o (by decide)
  have b : s.1 50 = σ.1 50 := by rw [e]; exact sti_o (by decide)
  have c := clamp_I (x := s.1 61 0) (by omega)
  unfold SB at h ⊢
  rw [a, b]
  rw [show (σ.1 61 0).toInt.toNat = (s.1 61 0).toInt.toNat + 1 by omega, fb_si_succ] at h
  rw [show (s.1 61 0).toNatClampNeg = (s.1 61 0).toInt.toNat by omega]
  exact Int.le_sub_right_of_add_le h
theorem SB.put {σ s : Sto} {n : Nat} {v : Int32} {B : Int} (h : SB σ B) (e : s = sti σ 60 n v) (hn : (n : Int) < (σ.1 61 0).toInt) (hp : (σ.1 50 v.toNatClampNeg).toInt ≤ (σ.1 50 (σ.1 60 n).toNatClampNeg).toInt) : SB s B := by
  have a : s.1 61 = σ.1 61 := by rw [e]; exact sti_o (by decide)
  have b : s.1 50 = σ.1 50 := by rw [e]; exact sti_o (by decide)
  unfold SB at h ⊢
  rw [a, b]
  have u := fb_si_upd (fun k => (σ.1 50 (σ.1 60 k).toNatClampNeg).toInt) (σ.1 50 v.toNatClampNeg).toInt (i := n) (n := (σ.1 61 0).toInt.toNat) (by omega)
  have c : fb_si (fun k => if k = n then (σ.1 50 v.toNatClampNeg).toInt else (σ.1 50 (σ.1 60 k).toNatClampNeg).toInt) (σ.1 61 0).toInt.toNat = fb_si (fun k => (σ.1 50 (s.1 60 k).toNatClampNeg).toInt) (σ.1 61 0).toInt.toNat := fb_si_cong (fun k hk => by
    rw [e, sti_if]; by_cases q : k = n
    · rw [if_pos q, if_pos q]
    · rw [if_neg q, if_neg q])
  rw [c] at u
  rw [u]
  exact Int.le_trans (by omega) h
theorem SB.nn {s : Sto} {B : Int} (h : SB s B) (hK : KI s) (hP : PA s) (hB : BX s) : 0 ≤ B := by
  refine Int.le_trans ?_ h
  have : ∀ n : Nat, (n : Int) ≤ (s.1 61 0).toInt → 0 ≤ fb_si (fun k => (s.1 50 (s.1 60 k).toNatClampNeg).toInt) n := by
    intro n
    induction n with
    | zero => intro _; exact Int.le_refl _
    | succ n ih =>
      intro hn
      rw [fb_si_succ]
      have q := hK n (by omega)
      have g := gX_60 hB n
      have p := (hP.1 (s.1 60 n).toNatClampNeg (by have := clamp_I (x := s.1 60 n) (by omega); omega)).1
      have i := ih (by omega)
      omega
  have g61 := gX_61 hB 0
  exact this _ (by omega)
theorem PA.new {σ s : Sto} {n : Nat} {g l r pv : Int32} (h : PA σ) (hI : PI σ) (hB : BX σ) (e47 : s.1 47 = (sti σ 47 n g).1 47) (e48 : s.1 48 = (sti σ 48 n l).1 48) (e49 : s.1 49 = (sti σ 49 n r).1 49) (e50 : s.1 50 = (sti σ 50 n pv).1 50) (e46 : (s.1 46 0).toInt = (σ.1 46 0).toInt + 1) (hn : (n : Int) = (σ.1 46 0).toInt)
    (hp : pv.toInt = pex g.toInt (σ.1 50 l.toNatClampNeg).toInt (σ.1 50 r.toNatClampNeg).toInt) (hb : pv.toInt ≤ 60) (hT : T1 (σ.1 46 0).toInt g l r) (hl : 0 ≤ l.toInt) (hr : 0 ≤ r.toInt) (hS : SGN g) : PA s := by
  have key : ∀ (g l r : Int32) (e : Nat), (e : Int) ≤ (σ.1 46 0).toInt → T1 e g l r → 0 ≤ l.toInt → 0 ≤ r.toInt → pex g.toInt ((sti σ 50 n pv).1 50 l.toNatClampNeg).toInt ((sti σ 50 n pv).1 50 r.toNatClampNeg).toInt = pex g.toInt (σ.1 50 l.toNatClampNeg).toInt (σ.1 50 r.toNatClampNeg).toInt := by
    intro g l r e he hT hl hr
    have cl := clamp_I hl
    have cr := clamp_I hr
    by_cases qB : opB g
    · have a := hT.2.2.2.2.1 (Or.inr qB)
      have b := hT.2.2.2.2.2 qB
      rw [pex_B qB, pex_B qB, sti_j (by omega), sti_j (by omega)]
    · by_cases qU : opU g
      · have a := hT.2.2.2.2.1 (Or.inl qU)
        rw [pex_U qU, pex_U qU, sti_j (by omega)]
      · rw [pex_N qB qU, pex_N qB qU]
  have p1 : 1 ≤ pv.toInt := by
    rw [hp]
    have cl := clamp_I hl
    have cr := clamp_I hr
    by_cases qB : opB g
    · have a := hT.2.2.2.2.1 (Or.inr qB)
      have b := hT.2.2.2.2.2 qB
      have := (h.1 l.toNatClampNeg (by omega)).1
      have := (h.1 r.toNatClampNeg (by omega)).1
      rw [pex_B qB]; omega
    · by_cases qU : opU g
      · have a := hT.2.2.2.2.1 (Or.inl qU)
        have := (h.1 l.toNatClampNeg (by omega)).1
        rw [pex_U qU]; omega
      · rw [pex_N qB qU]; decide
  refine ⟨fun e he => ?_, fun _ => ?_, fun e he => ?_⟩
  · rw [e47, e48, e49, e50]
    by_cases q : e = n
    · subst q
      rw [sti_s, sti_s, sti_s, sti_s, key g l r e (by omega) (by rw [hn]; exact hT) hl hr]
      exact ⟨p1, hb, hp⟩
    · have o := h.1 e (by omega)
      rw [sti_j q, sti_j q, sti_j q, sti_j q, key _ _ _ e (by omega) (hI e) (gX_48 hB e).1 (gX_49 hB e).1]
      exact o
  · rw [e50, sti_if]
    by_cases q : 0 = n
    · rw [if_pos q, hp]
      by_cases qB : opB g
      · have a := hT.2.2.2.2.1 (Or.inr qB); omega
      · by_cases qU : opU g
        · have a := hT.2.2.2.2.1 (Or.inl qU); omega
        · exact pex_N qB qU
    · rw [if_neg q]; exact h.2.1 (by omega)
  · rw [e47, sti_if]
    by_cases q : e = n
    · rw [if_pos q]; exact hS
    · rw [if_neg q]; exact h.2.2 e (by omega)
theorem PA.fd {σ : Sto} {e : Nat} {g l r : Int32} (h : PA σ) (he : (e : Int) < (σ.1 46 0).toInt) (a : (σ.1 47 e).toInt = g.toInt) (b : (σ.1 48 e).toInt = l.toInt) (c : (σ.1 49 e).toInt = r.toInt) : (σ.1 50 e).toInt ≤ pex g.toInt (σ.1 50 l.toNatClampNeg).toInt (σ.1 50 r.toNatClampNeg).toInt := by
  have o := (h.1 e he).2.2
  rw [a, Int32.toInt_inj.mp b, Int32.toInt_inj.mp c] at o
  exact Int.le_of_eq o
theorem PA.full {σ : Sto} {g l r : Int32} (h : PA σ) (h0 : 1 ≤ (σ.1 46 0).toInt) (hT : T1 (σ.1 46 0).toInt g l r) (hl : 0 ≤ l.toInt) (hr : 0 ≤ r.toInt) : (σ.1 50 0).toInt ≤ pex g.toInt (σ.1 50 l.toNatClampNeg).toInt (σ.1 50 r.toNatClampNeg).toInt := by
  rw [h.2.1 h0]
  have cl := clamp_I hl
  have cr := clamp_I hr
  by_cases qB : opB g
  · have a := hT.2.2.2.2.1 (Or.inr qB)
    have b := hT.2.2.2.2.2 qB
    have := (h.1 l.toNatClampNeg (by omega)).1
    have := (h.1 r.toNatClampNeg (by omega)).1
    rw [pex_B qB]; omega
  · by_cases qU : opU g
    · have a := hT.2.2.2.2.1 (Or.inl qU)
      have := (h.1 l.toNatClampNeg (by omega)).1
      rw [pex_U qU]; omega
    · rw [pex_N qB qU]; decide
theorem up_up {σ s t u : Sto} {k n : Nat} {v w : Int32} (e : s.1 k = (sti σ k n v).1 k) (e2 : t = sti u k n w) (e3 : u.1 k = s.1 k) : t.1 k = (sti σ k n w).1 k := by
  funext i
  rw [e2, sti_if, sti_if, e3, e, sti_if]
  by_cases q : i = n
  · rw [if_pos q, if_pos q]
  · rw [if_neg q, if_neg q, if_neg q]

theorem nm_L {s : Sto} {v : Int32} (h : PA s) (h0 : 0 ≤ v.toInt) (hv : v.toInt < (s.1 46 0).toInt) (hs : (s.1 47 v.toNatClampNeg).toInt = 107 ∨ ((s.1 47 v.toNatClampNeg).toInt = 108 ∨ (s.1 47 v.toNatClampNeg).toInt = 84 ∨ (s.1 47 v.toNatClampNeg).toInt = 88)) : (s.1 50 v.toNatClampNeg).toInt ≤ 1 := by
  have c := clamp_I h0
  rw [(h.1 v.toNatClampNeg (by omega)).2.2, pex_L (by omega)]
  exact Int.le_refl _

def ESr (r46 : Nat → Int32) (r52 : Nat → Int32) (r55 : Nat → Int32)  : Prop := ∀ i : Nat, (i : Int) < (r52 0).toInt → (r55 i).toInt < (r46 0).toInt
def ES (σ : Sto) : Prop := ESr (σ.1 46) (σ.1 52) (σ.1 55)
theorem ES.st1 {σ : Sto} {k i : Nat} {v : Int32} (hk : k ∉ ([46, 52, 55] : List Nat)) (h : ES σ) : ES (sti σ k i v) := by
  unfold ES at h ⊢
  have e46 : (sti σ k i v).1 46 = σ.1 46 := if_neg (fun e => hk (by rw [← e]; decide))
  have e52 : (sti σ k i v).1 52 = σ.1 52 := if_neg (fun e => hk (by rw [← e]; decide))
  have e55 : (sti σ k i v).1 55 = σ.1 55 := if_neg (fun e => hk (by rw [← e]; decide))
  rw [e46, e52, e55]
  exact h
theorem ES.st3 {σ : Sto} {k : Nat} {f : Nat → Int32} (hk : k ∉ ([46, 52, 55] : List Nat)) (h : ES σ) : ES (stc σ k f) := by
  unfold ES at h ⊢
  have e46 : (stc σ k f).1 46 = σ.1 46 := if_neg (fun e => hk (by rw [← e]; decide))
  have e52 : (stc σ k f).1 52 = σ.1 52 := if_neg (fun e => hk (by rw [← e]; decide))
  have e55 : (stc σ k f).1 55 = σ.1 55 := if_neg (fun e => hk (by rw [← e]; decide))
  rw [e46, e52, e55]
  exact h
theorem ES.st2 {σ : Sto} {k i : Nat} {v : Int64} (hk : k ∉ ([] : List Nat)) (h : ES σ) : ES (stl σ k i v) := by
  unfold ES at h ⊢
  exact h
theorem ES.fr {ms ml : List Nat} {σ s : Sto} (hG : FR ms ml σ s) (hd : ([46, 52, 55] : List Nat).all (fun k => !ms.contains k) && ([] : List Nat).all (fun k => !ml.contains k) = true) (h : ES σ) : ES s := by
  unfold ES at h ⊢
  simp only [Bool.and_eq_true, List.all_eq_true, decide_eq_true_eq] at hd
  have e46 : s.1 46 = σ.1 46 := hG.1 46 (fun z => by have := hd.1 46 (by decide); simp [z] at this)
  have e52 : s.1 52 = σ.1 52 := hG.1 52 (fun z => by have := hd.1 52 (by decide); simp [z] at this)
  have e55 : s.1 55 = σ.1 55 := hG.1 55 (fun z => by have := hd.1 55 (by decide); simp [z] at this)
  rw [e46, e52, e55]
  exact h
def TSr (r20 : Nat → Int32) (r46 : Nat → Int32) (r57 : Nat → Int32)  : Prop := ∀ b : Nat, (b : Int) < (r20 0).toInt → (r57 b).toInt < (r46 0).toInt
def TS (σ : Sto) : Prop := TSr (σ.1 20) (σ.1 46) (σ.1 57)
theorem TS.st1 {σ : Sto} {k i : Nat} {v : Int32} (hk : k ∉ ([20, 46, 57] : List Nat)) (h : TS σ) : TS (sti σ k i v) := by
  unfold TS at h ⊢
  have e20 : (sti σ k i v).1 20 = σ.1 20 := if_neg (fun e => hk (by rw [← e]; decide))
  have e46 : (sti σ k i v).1 46 = σ.1 46 := if_neg (fun e => hk (by rw [← e]; decide))
  have e57 : (sti σ k i v).1 57 = σ.1 57 := if_neg (fun e => hk (by rw [← e]; decide))
  rw [e20, e46, e57]
  exact h
theorem TS.st3 {σ : Sto} {k : Nat} {f : Nat → Int32} (hk : k ∉ ([20, 46, 57] : List Nat)) (h : TS σ) : TS (stc σ k f) := by
  unfold TS at h ⊢
  have e20 : (stc σ k f).1 20 = σ.1 20 := if_neg (fun e => hk (by rw [← e]; decide))
  have e46 : (stc σ k f).1 46 = σ.1 46 := if_neg (fun e => hk (by rw [← e]; decide))
  have e57 : (stc σ k f).1 57 = σ.1 57 := if_neg (fun e => hk (by rw [← e]; decide))
  rw [e20, e46, e57]
  exact h
theorem TS.st2 {σ : Sto} {k i : Nat} {v : Int64} (hk : k ∉ ([] : List Nat)) (h : TS σ) : TS (stl σ k i v) := by
  unfold TS at h ⊢
  exact h
theorem TS.fr {ms ml : List Nat} {σ s : Sto} (hG : FR ms ml σ s) (hd : ([20, 46, 57] : List Nat).all (fun k => !ms.contains k) && ([] : List Nat).all (fun k => !ml.contains k) = true) (h : TS σ) : TS s := by
  unfold TS at h ⊢
  simp only [Bool.and_eq_true, List.all_eq_true, decide_eq_true_eq] at hd
  have e20 : s.1 20 = σ.1 20 := hG.1 20 (fun z => by have := hd.1 20 (by decide); simp [z] at this)
  have e46 : s.1 46 = σ.1 46 := hG.1 46 (fun z => by have := hd.1 46 (by decide); simp [z] at this)
  have e57 : s.1 57 = σ.1 57 := hG.1 57 (fun z => by have := hd.1 57 (by decide); simp [z] at this)
  rw [e20, e46, e57]
  exact h
theorem ES.up {σ s : Sto} (h : ES σ) (e52 : s.1 52 = σ.1 52) (e55 : s.1 55 = σ.1 55) (hm : (σ.1 46 0).toInt ≤ (s.1 46 0).toInt) : ES s := by
  intro i hi
  rw [e52] at hi
  rw [e55]
  have := h i hi
  omega
theorem ES.add {σ s : Sto} {n : Nat} {v : Int32} (h : ES σ) (e55 : s.1 55 = (sti σ 55 n v).1 55) (e52 : (s.1 52 0).toInt = (σ.1 52 0).toInt + 1) (e46 : s.1 46 = σ.1 46) (hn : (n : Int) = (σ.1 52 0).toInt) (hv : v.toInt < (σ.1 46 0).toInt) : ES s := by
  intro i hi
  rw [e55, e46, sti_if]
  by_cases q : i = n
  · rw [if_pos q]; exact hv
  · rw [if_neg q]; exact h i (by omega)

theorem SB.row {t s : Sto} {B : Int} (h : SB t B) (e : s.1 50 = t.1 50) (e6 : s.1 60 = t.1 60) (e7 : s.1 61 = t.1 61) : SB s B := by unfold SB at h ⊢; rw [e, e6, e7]; exact h
theorem SB.z {s : Sto} (h : (s.1 61 0).toInt = 0) : SB s 0 := by unfold SB; rw [h]; exact Int.le_refl _

def FSr (r20 : Nat → Int32) (r52 : Nat → Int32) (r56 : Nat → Int32)  : Prop := ∀ b : Nat, (b : Int) ≤ (r20 0).toInt → (r56 b).toInt ≤ (r52 0).toInt
def FS (σ : Sto) : Prop := FSr (σ.1 20) (σ.1 52) (σ.1 56)
theorem FS.st1 {σ : Sto} {k i : Nat} {v : Int32} (hk : k ∉ ([20, 52, 56] : List Nat)) (h : FS σ) : FS (sti σ k i v) := by
  unfold FS at h ⊢
  have e20 : (sti σ k i v).1 20 = σ.1 20 := if_neg (fun e => hk (by rw [← e]; decide))
  have e52 : (sti σ k i v).1 52 = σ.1 52 := if_neg (fun e => hk (by rw [← e]; decide))
  have e56 : (sti σ k i v).1 56 = σ.1 56 := if_neg (fun e => hk (by rw [← e]; decide))
  rw [e20, e52, e56]
  exact h
theorem FS.st3 {σ : Sto} {k : Nat} {f : Nat → Int32} (hk : k ∉ ([20, 52, 56] : List Nat)) (h : FS σ) : FS (stc σ k f) := by
  unfold FS at h ⊢
  have e20 : (stc σ k f).1 20 = σ.1 20 := if_neg (fun e => hk (by rw [← e]; decide))
  have e52 : (stc σ k f).1 52 = σ.1 52 := if_neg (fun e => hk (by rw [← e]; decide))
  have e56 : (stc σ k f).1 56 = σ.1 56 := if_neg (fun e => hk (by rw [← e]; decide))
  rw [e20, e52, e56]
  exact h
theorem FS.st2 {σ : Sto} {k i : Nat} {v : Int64} (hk : k ∉ ([] : List Nat)) (h : FS σ) : FS (stl σ k i v) := by
  unfold FS at h ⊢
  exact h
theorem FS.fr {ms ml : List Nat} {σ s : Sto} (hG : FR ms ml σ s) (hd : ([20, 52, 56] : List Nat).all (fun k => !ms.contains k) && ([] : List Nat).all (fun k => !ml.contains k) = true) (h : FS σ) : FS s := by
  unfold FS at h ⊢
  simp only [Bool.and_eq_true, List.all_eq_true, decide_eq_true_eq] at hd
  have e20 : s.1 20 = σ.1 20 := hG.1 20 (fun z => by have := hd.1 20 (by decide); simp [z] at this)
  have e52 : s.1 52 = σ.1 52 := hG.1 52 (fun z => by have := hd.1 52 (by decide); simp [z] at this)
  have e56 : s.1 56 = σ.1 56 := hG.1 56 (fun z => by have := hd.1 56 (by decide); simp [z] at this)
  rw [e20, e52, e56]
  exact h

def ONr (r20 : Nat → Int32) (r24 : Nat → Int32) (r25 : Nat → Int32)  : Prop := ∀ b : Nat, (b : Int) < (r20 0).toInt → (r24 b).toInt < (r20 0).toInt ∧ (r25 b).toInt < (r20 0).toInt
def ON (σ : Sto) : Prop := ONr (σ.1 20) (σ.1 24) (σ.1 25)
theorem ON.st1 {σ : Sto} {k i : Nat} {v : Int32} (hk : k ∉ ([20, 24, 25] : List Nat)) (h : ON σ) : ON (sti σ k i v) := by
  unfold ON at h ⊢
  have e20 : (sti σ k i v).1 20 = σ.1 20 := if_neg (fun e => hk (by rw [← e]; decide))
  have e24 : (sti σ k i v).1 24 = σ.1 24 := if_neg (fun e => hk (by rw [← e]; decide))
  have e25 : (sti σ k i v).1 25 = σ.1 25 := if_neg (fun e => hk (by rw [← e]; decide))
  rw [e20, e24, e25]
  exact h
theorem ON.st3 {σ : Sto} {k : Nat} {f : Nat → Int32} (hk : k ∉ ([20, 24, 25] : List Nat)) (h : ON σ) : ON (stc σ k f) := by
  unfold ON at h ⊢
  have e20 : (stc σ k f).1 20 = σ.1 20 := if_neg (fun e => hk (by rw [← e]; decide))
  have e24 : (stc σ k f).1 24 = σ.1 24 := if_neg (fun e => hk (by rw [← e]; decide))
  have e25 : (stc σ k f).1 25 = σ.1 25 := if_neg (fun e => hk (by rw [← e]; decide))
  rw [e20, e24, e25]
  exact h
theorem ON.st2 {σ : Sto} {k i : Nat} {v : Int64} (hk : k ∉ ([] : List Nat)) (h : ON σ) : ON (stl σ k i v) := by
  unfold ON at h ⊢
  exact h
theorem ON.fr {ms ml : List Nat} {σ s : Sto} (hG : FR ms ml σ s) (hd : ([20, 24, 25] : List Nat).all (fun k => !ms.contains k) && ([] : List Nat).all (fun k => !ml.contains k) = true) (h : ON σ) : ON s := by
  unfold ON at h ⊢
  simp only [Bool.and_eq_true, List.all_eq_true, decide_eq_true_eq] at hd
  have e20 : s.1 20 = σ.1 20 := hG.1 20 (fun z => by have := hd.1 20 (by decide); simp [z] at this)
  have e24 : s.1 24 = σ.1 24 := hG.1 24 (fun z => by have := hd.1 24 (by decide); simp [z] at this)
  have e25 : s.1 25 = σ.1 25 := hG.1 25 (fun z => by have := hd.1 25 (by decide); simp [z] at this)
  rw [e20, e24, e25]
  exact h
def MBr (r20 : Nat → Int32) (l4 : Nat → Int64) : Prop := ∀ i : Nat, bL (l4 0) i = true → (i : Int) < (r20 0).toInt
def MB (σ : Sto) : Prop := MBr (σ.1 20) (σ.2 4)
theorem MB.st1 {σ : Sto} {k i : Nat} {v : Int32} (hk : k ∉ ([20] : List Nat)) (h : MB σ) : MB (sti σ k i v) := by
  unfold MB at h ⊢
  have e20 : (sti σ k i v).1 20 = σ.1 20 := if_neg (fun e => hk (by rw [← e]; decide))
  rw [e20]
  exact h
theorem MB.st3 {σ : Sto} {k : Nat} {f : Nat → Int32} (hk : k ∉ ([20] : List Nat)) (h : MB σ) : MB (stc σ k f) := by
  unfold MB at h ⊢
  have e20 : (stc σ k f).1 20 = σ.1 20 := if_neg (fun e => hk (by rw [← e]; decide))
  rw [e20]
  exact h
theorem MB.st2 {σ : Sto} {k i : Nat} {v : Int64} (hk : k ∉ ([4] : List Nat)) (h : MB σ) : MB (stl σ k i v) := by
  unfold MB at h ⊢
  have e4 : (stl σ k i v).2 4 = σ.2 4 := if_neg (fun e => hk (by rw [← e]; decide))
  rw [e4]
  exact h
theorem MB.fr {ms ml : List Nat} {σ s : Sto} (hG : FR ms ml σ s) (hd : ([20] : List Nat).all (fun k => !ms.contains k) && ([4] : List Nat).all (fun k => !ml.contains k) = true) (h : MB σ) : MB s := by
  unfold MB at h ⊢
  simp only [Bool.and_eq_true, List.all_eq_true, decide_eq_true_eq] at hd
  have e20 : s.1 20 = σ.1 20 := hG.1 20 (fun z => by have := hd.1 20 (by decide); simp [z] at this)
  have e1004 : s.2 4 = σ.2 4 := hG.2 4 (fun z => by have := hd.2 4 (by decide); simp [z] at this)
  rw [e20, e1004]
  exact h
def L1 (k : Int32) (t l sz sm : Int) : Prop := (k.toInt = 0 → 0 ≤ l ∧ l < sm) ∧ (k.toInt = 3 → t < sz)
def LQr (r46 : Nat → Int32) (r52 : Nat → Int32) (r57 : Nat → Int32) (r68 : Nat → Int32) (r69 : Nat → Int32) (r70 : Nat → Int32) (r72 : Nat → Int32)  : Prop := ∀ i : Nat, (i : Int) < (r68 0).toInt → L1 (r69 i) (r57 (r70 i).toNatClampNeg).toInt (r72 i).toInt (r46 0).toInt (r52 0).toInt
def LQ (σ : Sto) : Prop := LQr (σ.1 46) (σ.1 52) (σ.1 57) (σ.1 68) (σ.1 69) (σ.1 70) (σ.1 72)
theorem LQ.st1 {σ : Sto} {k i : Nat} {v : Int32} (hk : k ∉ ([46, 52, 57, 68, 69, 70, 72] : List Nat)) (h : LQ σ) : LQ (sti σ k i v) := by
  unfold LQ at h ⊢
  have e46 : (sti σ k i v).1 46 = σ.1 46 := if_neg (fun e => hk (by rw [← e]; decide))
  have e52 : (sti σ k i v).1 52 = σ.1 52 := if_neg (fun e => hk (by rw [← e]; decide))
  have e57 : (sti σ k i v).1 57 = σ.1 57 := if_neg (fun e => hk (by rw [← e]; decide))
  have e68 : (sti σ k i v).1 68 = σ.1 68 := if_neg (fun e => hk (by rw [← e]; decide))
  have e69 : (sti σ k i v).1 69 = σ.1 69 := if_neg (fun e => hk (by rw [← e]; decide))
  have e70 : (sti σ k i v).1 70 = σ.1 70 := if_neg (fun e => hk (by rw [← e]; decide))
  have e72 : (sti σ k i v).1 72 = σ.1 72 := if_neg (fun e => hk (by rw [← e]; decide))
  rw [e46, e52, e57, e68, e69, e70, e72]
  exact h
theorem LQ.st3 {σ : Sto} {k : Nat} {f : Nat → Int32} (hk : k ∉ ([46, 52, 57, 68, 69, 70, 72] : List Nat)) (h : LQ σ) : LQ (stc σ k f) := by
  unfold LQ at h ⊢
  have e46 : (stc σ k f).1 46 = σ.1 46 := if_neg (fun e => hk (by rw [← e]; decide))
  have e52 : (stc σ k f).1 52 = σ.1 52 := if_neg (fun e => hk (by rw [← e]; decide))
  have e57 : (stc σ k f).1 57 = σ.1 57 := if_neg (fun e => hk (by rw [← e]; decide))
  have e68 : (stc σ k f).1 68 = σ.1 68 := if_neg (fun e => hk (by rw [← e]; decide))
  have e69 : (stc σ k f).1 69 = σ.1 69 := if_neg (fun e => hk (by rw [← e]; decide))
  have e70 : (stc σ k f).1 70 = σ.1 70 := if_neg (fun e => hk (by rw [← e]; decide))
  have e72 : (stc σ k f).1 72 = σ.1 72 := if_neg (fun e => hk (by rw [← e]; decide))
  rw [e46, e52, e57, e68, e69, e70, e72]
  exact h
theorem LQ.st2 {σ : Sto} {k i : Nat} {v : Int64} (hk : k ∉ ([] : List Nat)) (h : LQ σ) : LQ (stl σ k i v) := by
  unfold LQ at h ⊢
  exact h
theorem LQ.fr {ms ml : List Nat} {σ s : Sto} (hG : FR ms ml σ s) (hd : ([46, 52, 57, 68, 69, 70, 72] : List Nat).all (fun k => !ms.contains k) && ([] : List Nat).all (fun k => !ml.contains k) = true) (h : LQ σ) : LQ s := by
  unfold LQ at h ⊢
  simp only [Bool.and_eq_true, List.all_eq_true, decide_eq_true_eq] at hd
  have e46 : s.1 46 = σ.1 46 := hG.1 46 (fun z => by have := hd.1 46 (by decide); simp [z] at this)
  have e52 : s.1 52 = σ.1 52 := hG.1 52 (fun z => by have := hd.1 52 (by decide); simp [z] at this)
  have e57 : s.1 57 = σ.1 57 := hG.1 57 (fun z => by have := hd.1 57 (by decide); simp [z] at this)
  have e68 : s.1 68 = σ.1 68 := hG.1 68 (fun z => by have := hd.1 68 (by decide); simp [z] at this)
  have e69 : s.1 69 = σ.1 69 := hG.1 69 (fun z => by have := hd.1 69 (by decide); simp [z] at this)
  have e70 : s.1 70 = σ.1 70 := hG.1 70 (fun z => by have := hd.1 70 (by decide); simp [z] at this)
  have e72 : s.1 72 = σ.1 72 := hG.1 72 (fun z => by have := hd.1 72 (by decide); simp [z] at this)
  rw [e46, e52, e57, e68, e69, e70, e72]
  exact h
theorem LQ.add {σ s : Sto} {n : Nat} {k b l : Int32} (h : LQ σ) (e69 : s.1 69 = (sti σ 69 n k).1 69) (e70 : s.1 70 = (sti σ 70 n b).1 70) (e72 : s.1 72 = (sti σ 72 n l).1 72) (e46 : s.1 46 = σ.1 46) (e52 : s.1 52 = σ.1 52) (e57 : s.1 57 = σ.1 57) (e68 : (s.1 68 0).toInt = (σ.1 68 0).toInt + 1) (hn : (n : Int) = (σ.1 68 0).toInt) (hL : L1 k (σ.1 57 b.toNatClampNeg).toInt l.toInt (σ.1 46 0).toInt (σ.1 52 0).toInt) : LQ s := by
  intro i hi
  rw [e69, e70, e72, e46, e52, e57, sti_if, sti_if, sti_if]
  by_cases q : i = n
  · rw [if_pos q, if_pos q, if_pos q]; exact hL
  · rw [if_neg q, if_neg q, if_neg q]; exact h i (by omega)
theorem LQ.set {σ s : Sto} {n : Nat} {v : Int32} (h : LQ σ) (e : s = sti σ 72 n v) (hk : (σ.1 69 n).toInt ≠ 0) : LQ s := by
  subst e
  intro i hi
  have o := h i hi
  show L1 (σ.1 69 i) (σ.1 57 (σ.1 70 i).toNatClampNeg).toInt ((sti σ 72 n v).1 72 i).toInt (σ.1 46 0).toInt (σ.1 52 0).toInt
  rw [sti_if]
  by_cases q : i = n
  · subst q; exact ⟨fun z => absurd z hk, o.2⟩
  · rw [if_neg q]; exact o
theorem LQ.setk {σ s : Sto} {n : Nat} {v : Int32} (h : LQ σ) (e : s = sti σ 69 n v) (hk : v.toInt ≠ 0) (hk3 : v.toInt ≠ 3) : LQ s := by
  subst e
  intro i hi
  have o := h i hi
  show L1 ((sti σ 69 n v).1 69 i) (σ.1 57 (σ.1 70 i).toNatClampNeg).toInt (σ.1 72 i).toInt (σ.1 46 0).toInt (σ.1 52 0).toInt
  rw [sti_if]
  by_cases q : i = n
  · rw [if_pos q]; exact ⟨fun z => absurd z hk, fun z => absurd z hk3⟩
  · rw [if_neg q]; exact o
theorem LQ.mv {σ s : Sto} {n m : Nat} {k b l : Int32} (h : LQ σ) (e69 : s.1 69 = (sti σ 69 n k).1 69) (e70 : s.1 70 = (sti σ 70 n b).1 70) (e72 : s.1 72 = (sti σ 72 n l).1 72) (e46 : s.1 46 = σ.1 46) (e52 : s.1 52 = σ.1 52) (e57 : s.1 57 = σ.1 57) (e68 : s.1 68 = σ.1 68) (hm : (m : Int) < (σ.1 68 0).toInt) (hk : k = σ.1 69 m) (hb : b = σ.1 70 m) (hl : l = σ.1 72 m) : LQ s := by
  subst hk; subst hb; subst hl
  intro i hi
  rw [e68] at hi
  rw [e69, e70, e72, e46, e52, e57, sti_if, sti_if, sti_if]
  by_cases q : i = n
  · rw [if_pos q, if_pos q, if_pos q]; exact h m hm
  · rw [if_neg q, if_neg q, if_neg q]; exact h i hi
theorem LQ.cut {σ s : Sto} {v : Int32} (h : LQ σ) (e : s = sti σ 68 0 v) (hv : (s.1 68 0).toInt ≤ (σ.1 68 0).toInt) : LQ s := by
  subst e
  intro i hi
  exact h i (by omega)
