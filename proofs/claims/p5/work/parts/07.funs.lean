def f_X12_bytesOf (x1 : Int32) : Option Int32 :=
  itr (fun _ _ => none) (fun (a_4 : Int32 → Int32 → Option Int32) (x1_1 : Int32) (x2_1 : Int32) => (
    if 4 ≤ x2_1 then (
      some x1_1
    ) else (
      jn (fun (t0_3 : Int32) => (
        lt (x1_1 + t0_3) fun x1_4 =>
        lt (x2_1 + 1) fun x2_5 =>
        a_4 x1_4 x2_5
      )) fun k_28 =>
      if ((x1 >>> (((8 : Int32) * x2_1) &&& 31)) &&& 255) = 0 then (
        k_28 (0 : Int32)
      ) else (
        k_28 (1 : Int32)
      )
    )
  )) LF (0 : Int32) (0 : Int32)
def f_X12_brings (x1 : Int32) (σ : Sto) : Option Sto :=
  itr (fun _ _ => none) (fun (a_3 : Int32 → Sto → Option Sto) (x2_1 : Int32) (s_1 : Sto) => (
    if x2_1 < 0 then (
      some s_1
    ) else (
      lt ((x1 >>> (x2_1 &&& 31)) &&& 255) fun x3_3 =>
      jn (fun (s_4 : Sto) => (
        lt (x2_1 + (-8)) fun x2_5 =>
        a_3 x2_5 s_4
      )) fun k_43 =>
      if x3_3 = 0 then (
        k_43 s_1
      ) else (
        ix 240 (s_1.1 2 0) <| lt (sti s_1 1 (s_1.1 2 0).toNatClampNeg x3_3.toInt8.toInt32.toInt8.toInt32) fun s_7 =>
        lt (sti s_7 2 0 ((s_7.1 2 0) + 1)) fun s_8 =>
        k_43 s_8
      )
    )
  )) LF (24 : Int32) σ
def f_X12_feed (x1 : Int32) (x2 : Int32) (x3 : Int32) (x4 : Int32) (x5 : Int32) (σ : Sto) : Option (Int32 × Sto) :=
  lt (sti σ 0 0 (0 : Int32)) fun s_1 =>
  calp (f_X12_bytesOf x1) fun v_2 =>
  calp (f_X12_bytesOf x2) fun v_3 =>
  calp (f_X12_bytesOf x3) fun v_4 =>
  calp (f_X12_bytesOf x4) fun v_5 =>
  calp (f_X12_bytesOf x5) fun v_6 =>
  if ((((((s_1.1 2 0) + v_2) + v_3) + v_4) + v_5) + v_6) ≤ 240 then (
    cals (f_X12_brings x1 s_1) fun s_8 =>
    cals (f_X12_brings x2 s_8) fun s_9 =>
    cals (f_X12_brings x3 s_9) fun s_10 =>
    cals (f_X12_brings x4 s_10) fun s_11 =>
    cals (f_X12_brings x5 s_11) fun s_12 =>
    some ((s_12.1 2 0), s_12)
  ) else (
    some (((-1) : Int32), s_1)
  )
def f_X12_end (x1 : Int32) (σ : Sto) : Option (Int32 × Sto) :=
  lt (sti σ 0 0 (0 : Int32)) fun s_1 =>
  if x1 < 0 then (
    some ((0 : Int32), s_1)
  ) else (
    if x1 ≤ (s_1.1 2 0) then (
      lt (sti s_1 2 0 x1) fun s_4 =>
      some ((1 : Int32), s_4)
    ) else (
      some ((0 : Int32), s_1)
    )
  )
def f_X12_here  (σ : Sto) : Option Int32 :=
  if (σ.1 2 0) ≤ (σ.1 3 0) then (
    some ((-1) : Int32)
  ) else (
    ix 240 (σ.1 3 0) <| lt (σ.1 1 (σ.1 3 0).toNatClampNeg) fun v_2 =>
    some (v_2 &&& 255)
  )
def f_X12_look  (σ : Sto) : Option (Int32 × Sto) :=
  itr (fun _ => none) (fun (a_0 : Sto → Option (Int32 × Sto)) (s_1 : Sto) => (
    calp (f_X12_here s_1) fun v_2 =>
    if v_2 = 32 then (
      lt (sti s_1 3 0 ((s_1.1 3 0) + 1)) fun s_4 =>
      a_0 s_4
    ) else (
      calp (f_X12_here s_1) fun v_5 =>
      some (v_5, s_1)
    )
  )) LF σ
def f_X12_isDigit  (σ : Sto) : Option Int32 :=
  calp (f_X12_here σ) fun v_1 =>
  jn (
    some (0 : Int32)
  ) fun k_22 =>
  if v_1 < 48 then (
    k_22
  ) else (
    calp (f_X12_here σ) fun v_4 =>
    if 57 < v_4 then (
      k_22
    ) else (
      some (1 : Int32)
    )
  )
def f_X12_number (x1 : Int32) (σ : Sto) : Option (Int32 × Sto) :=
  calv (f_X12_look σ) fun v_1 s_1 =>
  calp (f_X12_isDigit s_1) fun v_2 =>
  if v_2 = 0 then (
    some (((-1) : Int32), s_1)
  ) else (
    itr (fun _ _ => none) (fun (a_16 : Int32 → Sto → Option (Int32 × Sto)) (x3_4 : Int32) (s_4 : Sto) => (
      calp (f_X12_isDigit s_4) fun v_5 =>
      if v_5 = 0 then (
        some (x3_4, s_4)
      ) else (
        calp (f_X12_here s_4) fun v_7 =>
        if ((((10 : Int32) * x3_4) + v_7) - 48) ≤ x1 then (
          calp (f_X12_here s_4) fun v_9 =>
          lt ((((10 : Int32) * x3_4) + v_9) - 48) fun x3_10 =>
          lt (sti s_4 3 0 ((s_4.1 3 0) + 1)) fun s_11 =>
          a_16 x3_10 s_11
        ) else (
          some (((-1) : Int32), s_4)
        )
      )
    )) LF (0 : Int32) s_1
  )
def f_X12_reads (x1 : Int32) (σ : Sto) : Option (Int32 × Sto) :=
  calv (f_X12_look σ) fun v_1 s_1 =>
  if v_1 = x1 then (
    lt (sti s_1 3 0 ((s_1.1 3 0) + 1)) fun s_3 =>
    some ((1 : Int32), s_3)
  ) else (
    some ((0 : Int32), s_1)
  )
def f_X12_handler  (σ : Sto) : Option (Int32 × Sto) :=
  if (σ.1 8 0) = 3 then (
    some ((0 : Int32), σ)
  ) else (
    lt (sti σ 3 0 ((σ.1 3 0) + 1)) fun s_2 =>
    itr (fun _ _ => none) (fun (a_22 : Int32 → Sto → Option (Int32 × Sto)) (x1_3 : Int32) (s_3 : Sto) => (
      if 3 ≤ x1_3 then (
        lt (sti s_3 8 0 ((s_3.1 8 0) + 1)) fun s_5 =>
        some ((1 : Int32), s_5)
      ) else (
        jn (fun (s_6 : Sto) => (
          calv (f_X12_number (40 : Int32) s_6) fun v_7 s_7 =>
          if v_7 = (-1) then (
            some ((0 : Int32), s_7)
          ) else (
            ix 9 (((3 : Int32) * (s_7.1 8 0)) + x1_3) <| lt (sti s_7 6 (((3 : Int32) * (s_7.1 8 0)) + x1_3).toNatClampNeg v_7) fun s_9 =>
            lt (x1_3 + 1) fun x1_10 =>
            a_22 x1_10 s_9
          )
        )) fun k_42 =>
        if x1_3 ≤ 0 then (
          k_42 s_3
        ) else (
          calv (f_X12_reads (44 : Int32) s_3) fun v_12 s_12 =>
          if v_12 = 0 then (
            some ((0 : Int32), s_12)
          ) else (
            k_42 s_12
          )
        )
      )
    )) LF (0 : Int32) s_2
  )
def f_X12_isOneOf_s100 (x1 : Int32) : Option Int32 :=
  itr (fun _ => none) (fun (a_2 : Int32 → Option Int32) (x2_1 : Int32) => (
    if 16 ≤ x2_1 then (
      some (0 : Int32)
    ) else (
      ix 16 x2_1 <| lt (chS 100 x2_1) fun v_3 =>
      if v_3 = x1 then (
        some (1 : Int32)
      ) else (
        lt (x2_1 + 1) fun x2_5 =>
        a_2 x2_5
      )
    )
  )) LF (0 : Int32)
def f_X12_isPlain (x1 : Int32) : Option Int32 :=
  calp (f_X12_isOneOf_s100 x1) fun v_1 =>
  bz v_1 <|
  some v_1
def f_X12_letter  (σ : Sto) : Option (Int32 × Sto) :=
  calv (f_X12_look σ) fun v_1 s_1 =>
  if v_1 < 97 then (
    some (((-1) : Int32), s_1)
  ) else (
    if v_1 ≤ 102 then (
      lt (sti s_1 3 0 ((s_1.1 3 0) + 1)) fun s_4 =>
      some ((v_1 - 97), s_4)
    ) else (
      some (((-1) : Int32), s_1)
    )
  )
def f_X12_isOneOf_s101 (x1 : Int32) : Option Int32 :=
  itr (fun _ => none) (fun (a_2 : Int32 → Option Int32) (x2_1 : Int32) => (
    if 5 ≤ x2_1 then (
      some (0 : Int32)
    ) else (
      ix 5 x2_1 <| lt (chS 101 x2_1) fun v_3 =>
      if v_3 = x1 then (
        some (1 : Int32)
      ) else (
        lt (x2_1 + 1) fun x2_5 =>
        a_2 x2_5
      )
    )
  )) LF (0 : Int32)
def f_X12_instruction (x1 : Int32) (σ : Sto) : Option (Int32 × Sto) :=
  if (σ.1 7 0) = 40 then (
    some ((0 : Int32), σ)
  ) else (
    calp (f_X12_isPlain x1) fun v_2 =>
    jn (fun (t0_3 : Int32) => (
      if t0_3 = 0 then (
        some ((0 : Int32), σ)
      ) else (
        lt (sti σ 3 0 ((σ.1 3 0) + 1)) fun s_5 =>
        jn (fun (x3_6 : Int32) (s_6 : Sto) => (
          jn (fun (x3_7 : Int32) (s_7 : Sto) => (
            jn (fun (x3_8 : Int32) (s_8 : Sto) => (
              if x3_8 = (-1) then (
                some ((0 : Int32), s_8)
              ) else (
                ix 40 (s_8.1 7 0) <| lt (sti s_8 4 (s_8.1 7 0).toNatClampNeg x1) fun s_10 =>
                ix 40 (s_10.1 7 0) <| lt (sti s_10 5 (s_10.1 7 0).toNatClampNeg x3_8) fun s_11 =>
                lt (sti s_11 7 0 ((s_11.1 7 0) + 1)) fun s_12 =>
                some ((1 : Int32), s_12)
              )
            )) fun k_101 =>
            jn (
              calv (f_X12_number (39 : Int32) s_7) fun v_14 s_14 =>
              k_101 v_14 s_14
            ) fun k_94 =>
            if x1 = 103 then (
              k_94
            ) else (
              if x1 = 122 then (
                k_94
              ) else (
                k_101 x3_7 s_7
              )
            )
          )) fun k_82 =>
          jn (
            calv (f_X12_letter s_6) fun v_18 s_18 =>
            k_82 v_18 s_18
          ) fun k_77 =>
          if x1 = 108 then (
            k_77
          ) else (
            if x1 = 115 then (
              k_77
            ) else (
              k_82 x3_6 s_6
            )
          )
        )) fun k_65 =>
        if x1 = 107 then (
          calv (f_X12_number (999 : Int32) s_5) fun v_22 s_22 =>
          k_65 v_22 s_22
        ) else (
          k_65 (0 : Int32) s_5
        )
      )
    )) fun k_32 =>
    jn (
      k_32 (1 : Int32)
    ) fun k_27 =>
    if v_2 = 0 then (
      calp (f_X12_isOneOf_s101 x1) fun v_25 =>
      if v_25 = 0 then (
        k_32 (0 : Int32)
      ) else (
        k_27
      )
    ) else (
      k_27
    )
  )
def f_X12_isText  (σ : Sto) : Option (Int32 × Sto) :=
  lt (sti σ 3 0 (0 : Int32)) fun s_1 =>
  lt (sti s_1 7 0 (0 : Int32)) fun s_2 =>
  lt (sti s_2 8 0 (0 : Int32)) fun s_3 =>
  calv (f_X12_look s_3) fun v_4 s_4 =>
  itr (fun _ _ => none) (fun (a_20 : Int32 → Sto → Option (Int32 × Sto)) (x1_5 : Int32) (s_5 : Sto) => (
    jn (
      if (s_5.1 7 0) = 0 then (
        some ((0 : Int32), s_5)
      ) else (
        itr (fun _ _ => none) (fun (a_58 : Int32 → Sto → Option (Int32 × Sto)) (x1_8 : Int32) (s_8 : Sto) => (
          if x1_8 = 104 then (
            calv (f_X12_handler s_8) fun v_10 s_10 =>
            if v_10 = 0 then (
              some ((0 : Int32), s_10)
            ) else (
              calv (f_X12_look s_10) fun v_12 s_12 =>
              a_58 v_12 s_12
            )
          ) else (
            if x1_8 = (-1) then (
              some ((1 : Int32), s_8)
            ) else (
              some ((0 : Int32), s_8)
            )
          )
        )) LF x1_5 s_5
      )
    ) fun k_49 =>
    if x1_5 = (-1) then (
      k_49
    ) else (
      if x1_5 = 104 then (
        k_49
      ) else (
        calv (f_X12_instruction x1_5 s_5) fun v_16 s_16 =>
        if v_16 = 0 then (
          some ((0 : Int32), s_16)
        ) else (
          calv (f_X12_look s_16) fun v_18 s_18 =>
          a_20 v_18 s_18
        )
      )
    )
  )) LF v_4 s_4
def f_X12_fault  (σ : Sto) : Option (Int32 × Sto) :=
  lt (sti σ 0 0 (0 : Int32)) fun s_1 =>
  calv (f_X12_isText s_1) fun v_2 s_2 =>
  if v_2 = 0 then (
    some ((s_2.1 3 0), s_2)
  ) else (
    some (((-1) : Int32), s_2)
  )
def f_X12_tries_signRead_numberRead_handlerRead (x3 : Int32) (x5 : Int32) (σ : Sto) : Option Sto :=
  itr (fun _ _ => none) (fun (a_3 : Int32 → Sto → Option Sto) (x6_1 : Int32) (s_1 : Sto) => (
    if 40 ≤ x6_1 then (
      itr (fun _ _ => none) (fun (a_41 : Int32 → Sto → Option Sto) (x6_3 : Int32) (s_3 : Sto) => (
        if 9 ≤ x6_3 then (
          lt (sti s_3 17 0 x3) fun s_5 =>
          lt (sti s_5 18 0 x5) fun s_6 =>
          some s_6
        ) else (
          ix 9 x6_3 <| lt (s_3.1 6 x6_3.toNatClampNeg) fun v_7 =>
          ix 9 x6_3 <| lt (sti s_3 14 x6_3.toNatClampNeg v_7) fun s_8 =>
          lt (x6_3 + 1) fun x6_9 =>
          a_41 x6_9 s_8
        )
      )) LF (0 : Int32) s_1
    ) else (
      ix 40 x6_1 <| lt (s_1.1 4 x6_1.toNatClampNeg) fun v_10 =>
      ix 40 x6_1 <| lt (sti s_1 12 x6_1.toNatClampNeg v_10) fun s_11 =>
      ix 40 x6_1 <| lt (s_11.1 5 x6_1.toNatClampNeg) fun v_12 =>
      ix 40 x6_1 <| lt (sti s_11 13 x6_1.toNatClampNeg v_12) fun s_13 =>
      lt (x6_1 + 1) fun x6_14 =>
      a_3 x6_14 s_13
    )
  )) LF (0 : Int32) σ
def f_X12_isOneOf_s102 (x1 : Int32) : Option Int32 :=
  itr (fun _ => none) (fun (a_2 : Int32 → Option Int32) (x2_1 : Int32) => (
    if 8 ≤ x2_1 then (
      some (0 : Int32)
    ) else (
      ix 8 x2_1 <| lt (chS 102 x2_1) fun v_3 =>
      if v_3 = x1 then (
        some (1 : Int32)
      ) else (
        lt (x2_1 + 1) fun x2_5 =>
        a_2 x2_5
      )
    )
  )) LF (0 : Int32)
def f_X12_isOneOf_s103 (x1 : Int32) : Option Int32 :=
  itr (fun _ => none) (fun (a_2 : Int32 → Option Int32) (x2_1 : Int32) => (
    if 8 ≤ x2_1 then (
      some (0 : Int32)
    ) else (
      ix 8 x2_1 <| lt (chS 103 x2_1) fun v_3 =>
      if v_3 = x1 then (
        some (1 : Int32)
      ) else (
        lt (x2_1 + 1) fun x2_5 =>
        a_2 x2_5
      )
    )
  )) LF (0 : Int32)
def f_X12_pops (x1 : Int32) : Option Int32 :=
  calp (f_X12_isOneOf_s102 x1) fun v_1 =>
  if v_1 = 0 then (
    calp (f_X12_isOneOf_s103 x1) fun v_3 =>
    if v_3 = 0 then (
      some (0 : Int32)
    ) else (
      some (1 : Int32)
    )
  ) else (
    some (2 : Int32)
  )
def f_X12_isOneOf_s104 (x1 : Int32) : Option Int32 :=
  itr (fun _ => none) (fun (a_2 : Int32 → Option Int32) (x2_1 : Int32) => (
    if 12 ≤ x2_1 then (
      some (0 : Int32)
    ) else (
      ix 12 x2_1 <| lt (chS 104 x2_1) fun v_3 =>
      if v_3 = x1 then (
        some (1 : Int32)
      ) else (
        lt (x2_1 + 1) fun x2_5 =>
        a_2 x2_5
      )
    )
  )) LF (0 : Int32)
def f_X12_pushes (x1 : Int32) : Option Int32 :=
  if x1 = 100 then (
    some (2 : Int32)
  ) else (
    if x1 = 119 then (
      some (2 : Int32)
    ) else (
      calp (f_X12_isOneOf_s104 x1) fun v_3 =>
      if v_3 = 0 then (
        some (0 : Int32)
      ) else (
        some (1 : Int32)
      )
    )
  )
def f_X12_isOneOf_s106 (x1 : Int32) : Option Int32 :=
  itr (fun _ => none) (fun (a_2 : Int32 → Option Int32) (x2_1 : Int32) => (
    if 3 ≤ x2_1 then (
      some (0 : Int32)
    ) else (
      ix 3 x2_1 <| lt (chS 106 x2_1) fun v_3 =>
      if v_3 = x1 then (
        some (1 : Int32)
      ) else (
        lt (x2_1 + 1) fun x2_5 =>
        a_2 x2_5
      )
    )
  )) LF (0 : Int32)
def f_X12_goesOn (x1 : Int32) : Option Int32 :=
  calp (f_X12_isOneOf_s106 x1) fun v_1 =>
  if v_1 = 0 then (
    some (1 : Int32)
  ) else (
    some (0 : Int32)
  )
def f_X12_goesTo (x1 : Int32) : Option Int32 :=
  jn (
    some (1 : Int32)
  ) fun k_12 =>
  if x1 = 103 then (
    k_12
  ) else (
    if x1 = 122 then (
      k_12
    ) else (
      some (0 : Int32)
    )
  )
def f_X12_handlerOf_tryHandler (x2 : Int32) (x3 : Int32) (σ : Sto) : Option Int32 :=
  itr (fun _ => none) (fun (a_2 : Int32 → Option Int32) (x3_1 : Int32) => (
    if x2 ≤ x3_1 then (
      some ((-1) : Int32)
    ) else (
      ix 9 ((3 : Int32) * x3_1) <| lt (σ.1 14 ((3 : Int32) * x3_1).toNatClampNeg) fun v_3 =>
      jn (
        lt (x3_1 + 1) fun x3_5 =>
        a_2 x3_5
      ) fun k_29 =>
      if x3 < v_3 then (
        k_29
      ) else (
        ix 9 (((3 : Int32) * x3_1) + 1) <| lt (σ.1 14 (((3 : Int32) * x3_1) + 1).toNatClampNeg) fun v_7 =>
        if v_7 ≤ x3 then (
          k_29
        ) else (
          some x3_1
        )
      )
    )
  )) LF (0 : Int32)
def f_X12_isOneOf_s105 (x1 : Int32) : Option Int32 :=
  itr (fun _ => none) (fun (a_2 : Int32 → Option Int32) (x2_1 : Int32) => (
    if 3 ≤ x2_1 then (
      some (0 : Int32)
    ) else (
      ix 3 x2_1 <| lt (chS 105 x2_1) fun v_3 =>
      if v_3 = x1 then (
        some (1 : Int32)
      ) else (
        lt (x2_1 + 1) fun x2_5 =>
        a_2 x2_5
      )
    )
  )) LF (0 : Int32)
def f_X12_canThrow (x1 : Int32) : Option Int32 :=
  calp (f_X12_isOneOf_s105 x1) fun v_1 =>
  bz v_1 <|
  some v_1
def f_X12_comes (x1 : Int32) (x2 : Int32) (σ : Sto) : Option (Int32 × Sto) :=
  ix 40 x1 <| lt (σ.1 19 x1.toNatClampNeg) fun v_1 =>
  jn (fun (s_2 : Sto) => (
    ix 40 x1 <| lt (s_2.1 19 x1.toNatClampNeg) fun v_3 =>
    if v_3 = x2 then (
      some ((1 : Int32), s_2)
    ) else (
      some ((0 : Int32), s_2)
    )
  )) fun k_17 =>
  if v_1 = (-1) then (
    ix 40 x1 <| lt (sti σ 19 x1.toNatClampNeg x2) fun s_6 =>
    k_17 s_6
  ) else (
    k_17 σ
  )
def f_X12_goesThrough (x1 : Int32) (σ : Sto) : Option (Int32 × Sto) :=
  ix 40 x1 <| lt (σ.1 12 x1.toNatClampNeg) fun v_1 =>
  ix 40 x1 <| lt (σ.1 19 x1.toNatClampNeg) fun v_2 =>
  calp (f_X12_pops v_1) fun v_3 =>
  if v_3 ≤ v_2 then (
    ix 40 x1 <| lt (σ.1 19 x1.toNatClampNeg) fun v_5 =>
    calp (f_X12_pops v_1) fun v_6 =>
    calp (f_X12_pushes v_1) fun v_7 =>
    lt ((v_5 - v_6) + v_7) fun x3_8 =>
    if x3_8 ≤ 6 then (
      calp (f_X12_goesOn v_1) fun v_10 =>
      jn (fun (s_11 : Sto) => (
        calp (f_X12_goesTo v_1) fun v_12 =>
        jn (fun (s_13 : Sto) => (
          calp (f_X12_handlerOf_tryHandler (s_13.1 18 0) x1 s_13) fun v_14 =>
          calp (f_X12_canThrow v_1) fun v_15 =>
          jn (fun (s_16 : Sto) => (
            some ((0 : Int32), s_16)
          )) fun k_158 =>
          if v_15 = 0 then (
            k_158 s_13
          ) else (
            if v_14 = (-1) then (
              k_158 s_13
            ) else (
              ix 9 (((3 : Int32) * v_14) + 2) <| lt (s_13.1 14 (((3 : Int32) * v_14) + 2).toNatClampNeg) fun v_19 =>
              calv (f_X12_comes v_19 (1 : Int32) s_13) fun v_20 s_20 =>
              if v_20 = 0 then (
                some (((-6) : Int32), s_20)
              ) else (
                k_158 s_20
              )
            )
          )
        )) fun k_107 =>
        if v_12 = 0 then (
          k_107 s_11
        ) else (
          ix 40 x1 <| lt (s_11.1 13 x1.toNatClampNeg) fun v_23 =>
          calv (f_X12_comes v_23 x3_8 s_11) fun v_24 s_24 =>
          if v_24 = 0 then (
            some (((-6) : Int32), s_24)
          ) else (
            k_107 s_24
          )
        )
      )) fun k_83 =>
      if v_10 = 0 then (
        k_83 σ
      ) else (
        if (x1 + 1) = (σ.1 17 0) then (
          some (((-3) : Int32), σ)
        ) else (
          calv (f_X12_comes (x1 + 1) x3_8 σ) fun v_28 s_28 =>
          if v_28 = 0 then (
            some (((-6) : Int32), s_28)
          ) else (
            k_83 s_28
          )
        )
      )
    ) else (
      some (((-5) : Int32), σ)
    )
  ) else (
    some (((-4) : Int32), σ)
  )
def f_X12_has (x1 : Int64) (x2 : Int32) : Option Int32 :=
  if (lg_cmp ((x1 >>> (x2.toInt64 &&& 63)) &&& 1) (1 : Int64)) = 0 then (
    some (1 : Int32)
  ) else (
    some (0 : Int32)
  )
def f_X12_wrong  (σ : Sto) : Option (Int32 × Sto) :=
  itr (fun _ => none) (fun (a_2 : Int32 → Option (Int32 × Sto)) (x1_1 : Int32) => (
    if (σ.1 17 0) ≤ x1_1 then (
      itr (fun _ => none) (fun (a_46 : Int32 → Option (Int32 × Sto)) (x1_3 : Int32) => (
        if (σ.1 18 0) ≤ x1_3 then (
          itr (fun _ _ => none) (fun (a_120 : Int32 → Sto → Option (Int32 × Sto)) (x1_5 : Int32) (s_5 : Sto) => (
            if 40 ≤ x1_5 then (
              ix 40 (0 : Int32) <| lt (sti s_5 19 (0 : Int32).toNatClampNeg (0 : Int32)) fun s_7 =>
              itr (fun _ _ => none) (fun (a_148 : Int64 → Sto → Option (Int32 × Sto)) (x1_8 : Int64) (s_8 : Sto) => (
                itr (fun _ => none) (fun (a_150 : Int32 → Option (Int32 × Sto)) (x3_9 : Int32) => (
                  jn (
                    if x3_9 = (s_8.1 17 0) then (
                      some ((0 : Int32), s_8)
                    ) else (
                      lt (x1_8 ||| ((1 : Int64) <<< (x3_9.toInt64 &&& 63))) fun x1_12 =>
                      calv (f_X12_goesThrough x3_9 s_8) fun v_13 s_13 =>
                      if 0 ≤ v_13 then (
                        a_148 x1_12 s_13
                      ) else (
                        some (v_13, s_13)
                      )
                    )
                  ) fun k_182 =>
                  if (s_8.1 17 0) ≤ x3_9 then (
                    k_182
                  ) else (
                    ix 40 x3_9 <| lt (s_8.1 19 x3_9.toNatClampNeg) fun v_16 =>
                    jn (
                      lt (x3_9 + 1) fun x3_18 =>
                      a_150 x3_18
                    ) fun k_176 =>
                    if v_16 = (-1) then (
                      k_176
                    ) else (
                      calp (f_X12_has x1_8 x3_9) fun v_20 =>
                      if v_20 = 0 then (
                        k_182
                      ) else (
                        k_176
                      )
                    )
                  )
                )) LF (0 : Int32)
              )) LF (0 : Int64) s_7
            ) else (
              ix 40 x1_5 <| lt (sti s_5 19 x1_5.toNatClampNeg (((-1) : Int32))) fun s_22 =>
              lt (x1_5 + 1) fun x1_23 =>
              a_120 x1_23 s_22
            )
          )) LF (0 : Int32) σ
        ) else (
          ix 9 ((3 : Int32) * x1_3) <| lt (σ.1 14 ((3 : Int32) * x1_3).toNatClampNeg) fun v_24 =>
          ix 9 (((3 : Int32) * x1_3) + 1) <| lt (σ.1 14 (((3 : Int32) * x1_3) + 1).toNatClampNeg) fun v_25 =>
          if v_25 ≤ v_24 then (
            some (((-2) : Int32), σ)
          ) else (
            ix 9 (((3 : Int32) * x1_3) + 1) <| lt (σ.1 14 (((3 : Int32) * x1_3) + 1).toNatClampNeg) fun v_27 =>
            if (σ.1 17 0) < v_27 then (
              some (((-2) : Int32), σ)
            ) else (
              ix 9 (((3 : Int32) * x1_3) + 2) <| lt (σ.1 14 (((3 : Int32) * x1_3) + 2).toNatClampNeg) fun v_29 =>
              if v_29 < (σ.1 17 0) then (
                lt (x1_3 + 1) fun x1_31 =>
                a_46 x1_31
              ) else (
                some (((-2) : Int32), σ)
              )
            )
          )
        )
      )) LF (0 : Int32)
    ) else (
      ix 40 x1_1 <| lt (σ.1 12 x1_1.toNatClampNeg) fun v_32 =>
      calp (f_X12_goesTo v_32) fun v_33 =>
      jn (
        lt (x1_1 + 1) fun x1_35 =>
        a_2 x1_35
      ) fun k_38 =>
      if v_33 = 0 then (
        k_38
      ) else (
        ix 40 x1_1 <| lt (σ.1 13 x1_1.toNatClampNeg) fun v_37 =>
        if v_37 < (σ.1 17 0) then (
          k_38
        ) else (
          some (((-2) : Int32), σ)
        )
      )
    )
  )) LF (0 : Int32)
def f_X12_isCome (x1 : Int32) (σ : Sto) : Option Int32 :=
  ix 40 x1 <| lt (σ.1 20 x1.toNatClampNeg) fun v_1 =>
  if v_1 = (-1) then (
    some (0 : Int32)
  ) else (
    some (1 : Int32)
  )
def f_X12_isOneOf_s107 (x1 : Int32) : Option Int32 :=
  itr (fun _ => none) (fun (a_2 : Int32 → Option Int32) (x2_1 : Int32) => (
    if 4 ≤ x2_1 then (
      some (0 : Int32)
    ) else (
      ix 4 x2_1 <| lt (chS 107 x2_1) fun v_3 =>
      if v_3 = x1 then (
        some (1 : Int32)
      ) else (
        lt (x2_1 + 1) fun x2_5 =>
        a_2 x2_5
      )
    )
  )) LF (0 : Int32)
def f_X12_isCutAhead (x1 : Int32) (σ : Sto) : Option Int32 :=
  jn (
    itr (fun _ => none) (fun (a_35 : Int32 → Option Int32) (x2_2 : Int32) => (
      if (σ.1 15 0) ≤ x2_2 then (
        itr (fun _ => none) (fun (a_83 : Int32 → Option Int32) (x2_4 : Int32) => (
          if ((3 : Int32) * (σ.1 16 0)) ≤ x2_4 then (
            if x1 = 0 then (
              some (1 : Int32)
            ) else (
              some (0 : Int32)
            )
          ) else (
            ix 9 x2_4 <| lt (σ.1 11 x2_4.toNatClampNeg) fun v_7 =>
            if v_7 = x1 then (
              some (1 : Int32)
            ) else (
              lt (x2_4 + 1) fun x2_9 =>
              a_83 x2_9
            )
          )
        )) LF (0 : Int32)
      ) else (
        calp (f_X12_isCome x2_2 σ) fun v_10 =>
        jn (
          lt (x2_2 + 1) fun x2_12 =>
          a_35 x2_12
        ) fun k_75 =>
        if v_10 = 0 then (
          k_75
        ) else (
          ix 40 x2_2 <| lt (σ.1 9 x2_2.toNatClampNeg) fun v_14 =>
          calp (f_X12_goesTo v_14) fun v_15 =>
          if v_15 = 0 then (
            k_75
          ) else (
            ix 40 x2_2 <| lt (σ.1 10 x2_2.toNatClampNeg) fun v_17 =>
            if v_17 = x1 then (
              some (1 : Int32)
            ) else (
              k_75
            )
          )
        )
      )
    )) LF (0 : Int32)
  ) fun k_33 =>
  if x1 ≤ 0 then (
    k_33
  ) else (
    ix 40 (x1 - 1) <| lt (σ.1 9 (x1 - 1).toNatClampNeg) fun v_20 =>
    calp (f_X12_isOneOf_s107 v_20) fun v_21 =>
    if v_21 = 0 then (
      calp (f_X12_isCome (x1 - 1) σ) fun v_23 =>
      if v_23 = 0 then (
        some (1 : Int32)
      ) else (
        k_33
      )
    ) else (
      some (1 : Int32)
    )
  )
def f_X12_laysBlocks  (σ : Sto) : Option Sto :=
  lt (sti σ 26 0 (0 : Int32)) fun s_1 =>
  itr (fun _ _ => none) (fun (a_7 : Int32 → Sto → Option Sto) (x1_2 : Int32) (s_2 : Sto) => (
    if (s_2.1 15 0) ≤ x1_2 then (
      some s_2
    ) else (
      ix 40 x1_2 <| lt (sti s_2 24 x1_2.toNatClampNeg (((-1) : Int32))) fun s_4 =>
      calp (f_X12_isCome x1_2 s_4) fun v_5 =>
      jn (fun (s_6 : Sto) => (
        lt (x1_2 + 1) fun x1_7 =>
        a_7 x1_7 s_6
      )) fun k_85 =>
      if v_5 = 0 then (
        k_85 s_4
      ) else (
        calp (f_X12_isCutAhead x1_2 s_4) fun v_9 =>
        jn (fun (s_10 : Sto) => (
          ix 40 x1_2 <| lt (sti s_10 24 x1_2.toNatClampNeg (((s_10.1 26 0) - 1))) fun s_11 =>
          ix 40 ((s_11.1 26 0) - 1) <| lt (sti s_11 23 ((s_11.1 26 0) - 1).toNatClampNeg x1_2) fun s_12 =>
          k_85 s_12
        )) fun k_61 =>
        if v_9 = 0 then (
          k_61 s_4
        ) else (
          ix 40 (s_4.1 26 0) <| lt (sti s_4 22 (s_4.1 26 0).toNatClampNeg x1_2) fun s_14 =>
          lt (sti s_14 26 0 ((s_14.1 26 0) + 1)) fun s_15 =>
          k_61 s_15
        )
      )
    )
  )) LF (0 : Int32) s_1
def f_X12_laysEdge (x1 : Int32) (x2 : Int32) (x3 : Int32) (σ : Sto) : Option Sto :=
  itr (fun _ => none) (fun (a_3 : Int32 → Option Sto) (x4_1 : Int32) => (
    if (σ.1 32 0) ≤ x4_1 then (
      ix 120 (σ.1 32 0) <| lt (sti σ 27 (σ.1 32 0).toNatClampNeg x1) fun s_3 =>
      ix 120 (s_3.1 32 0) <| lt (sti s_3 28 (s_3.1 32 0).toNatClampNeg x2) fun s_4 =>
      bz x3 <|
      ix 120 (s_4.1 32 0) <| lt (sti s_4 29 (s_4.1 32 0).toNatClampNeg x3) fun s_5 =>
      lt (sti s_5 32 0 ((s_5.1 32 0) + 1)) fun s_7 =>
      some s_7
    ) else (
      ix 120 x4_1 <| lt (σ.1 27 x4_1.toNatClampNeg) fun v_8 =>
      jn (
        lt (x4_1 + 1) fun x4_10 =>
        a_3 x4_10
      ) fun k_64 =>
      if v_8 = x1 then (
        ix 120 x4_1 <| lt (σ.1 28 x4_1.toNatClampNeg) fun v_12 =>
        if v_12 = x2 then (
          ix 120 x4_1 <| lt (σ.1 29 x4_1.toNatClampNeg) fun v_14 =>
          jn (
            ix 120 x4_1 <| lt (sti σ 29 x4_1.toNatClampNeg (1 : Int32)) fun s_16 =>
            some s_16
          ) fun k_57 =>
          if v_14 = 0 then (
            if x3 = 0 then (
              ix 120 x4_1 <| lt (sti σ 29 x4_1.toNatClampNeg (0 : Int32)) fun s_19 =>
              some s_19
            ) else (
              k_57
            )
          ) else (
            k_57
          )
        ) else (
          k_64
        )
      ) else (
        k_64
      )
    )
  )) LF (0 : Int32)
def f_X12_handlerOf_handler (x2 : Int32) (x3 : Int32) (σ : Sto) : Option Int32 :=
  itr (fun _ => none) (fun (a_2 : Int32 → Option Int32) (x3_1 : Int32) => (
    if x2 ≤ x3_1 then (
      some ((-1) : Int32)
    ) else (
      ix 9 ((3 : Int32) * x3_1) <| lt (σ.1 11 ((3 : Int32) * x3_1).toNatClampNeg) fun v_3 =>
      jn (
        lt (x3_1 + 1) fun x3_5 =>
        a_2 x3_5
      ) fun k_29 =>
      if x3 < v_3 then (
        k_29
      ) else (
        ix 9 (((3 : Int32) * x3_1) + 1) <| lt (σ.1 11 (((3 : Int32) * x3_1) + 1).toNatClampNeg) fun v_7 =>
        if v_7 ≤ x3 then (
          k_29
        ) else (
          some x3_1
        )
      )
    )
  )) LF (0 : Int32)
def f_X12_laysEdges  (σ : Sto) : Option Sto :=
  lt (sti σ 32 0 (0 : Int32)) fun s_1 =>
  itr (fun _ _ => none) (fun (a_7 : Int32 → Sto → Option Sto) (x1_2 : Int32) (s_2 : Sto) => (
    if (s_2.1 26 0) ≤ x1_2 then (
      some s_2
    ) else (
      ix 40 x1_2 <| lt (s_2.1 23 x1_2.toNatClampNeg) fun v_4 =>
      ix 40 v_4 <| lt (s_2.1 9 v_4.toNatClampNeg) fun v_5 =>
      calp (f_X12_goesOn v_5) fun v_6 =>
      jn (fun (s_7 : Sto) => (
        calp (f_X12_goesTo v_5) fun v_8 =>
        jn (fun (s_9 : Sto) => (
          ix 40 x1_2 <| lt (sti s_9 25 x1_2.toNatClampNeg (((-1) : Int32))) fun s_10 =>
          ix 40 x1_2 <| lt (s_10.1 22 x1_2.toNatClampNeg) fun v_11 =>
          itr (fun _ _ => none) (fun (a_96 : Int32 → Sto → Option Sto) (x3_12 : Int32) (s_12 : Sto) => (
            ix 40 x1_2 <| lt (s_12.1 23 x1_2.toNatClampNeg) fun v_13 =>
            if v_13 < x3_12 then (
              ix 40 x1_2 <| lt (s_12.1 25 x1_2.toNatClampNeg) fun v_15 =>
              jn (fun (s_16 : Sto) => (
                lt (x1_2 + 1) fun x1_17 =>
                a_7 x1_17 s_16
              )) fun k_188 =>
              if v_15 = (-1) then (
                k_188 s_12
              ) else (
                ix 40 x1_2 <| lt (s_12.1 25 x1_2.toNatClampNeg) fun v_19 =>
                cals (f_X12_laysEdge x1_2 v_19 (1 : Int32) s_12) fun s_20 =>
                k_188 s_20
              )
            ) else (
              calp (f_X12_handlerOf_handler (s_12.1 16 0) x3_12 s_12) fun v_21 =>
              ix 40 x3_12 <| lt (s_12.1 9 x3_12.toNatClampNeg) fun v_22 =>
              calp (f_X12_canThrow v_22) fun v_23 =>
              jn (fun (s_24 : Sto) => (
                lt (x3_12 + 1) fun x3_25 =>
                a_96 x3_25 s_24
              )) fun k_160 =>
              if v_23 = 0 then (
                k_160 s_12
              ) else (
                if v_21 = (-1) then (
                  k_160 s_12
                ) else (
                  ix 9 (((3 : Int32) * v_21) + 2) <| lt (s_12.1 11 (((3 : Int32) * v_21) + 2).toNatClampNeg) fun v_28 =>
                  ix 40 v_28 <| lt (s_12.1 24 v_28.toNatClampNeg) fun v_29 =>
                  ix 40 x1_2 <| lt (sti s_12 25 x1_2.toNatClampNeg v_29) fun s_30 =>
                  k_160 s_30
                )
              )
            )
          )) LF v_11 s_10
        )) fun k_82 =>
        if v_8 = 0 then (
          k_82 s_7
        ) else (
          ix 40 x1_2 <| lt (s_7.1 23 x1_2.toNatClampNeg) fun v_32 =>
          ix 40 v_32 <| lt (s_7.1 10 v_32.toNatClampNeg) fun v_33 =>
          ix 40 v_33 <| lt (s_7.1 24 v_33.toNatClampNeg) fun v_34 =>
          cals (f_X12_laysEdge x1_2 v_34 (0 : Int32) s_7) fun s_35 =>
          k_82 s_35
        )
      )) fun k_53 =>
      if v_6 = 0 then (
        k_53 s_2
      ) else (
        ix 40 x1_2 <| lt (s_2.1 23 x1_2.toNatClampNeg) fun v_37 =>
        ix 40 (v_37 + 1) <| lt (s_2.1 24 (v_37 + 1).toNatClampNeg) fun v_38 =>
        cals (f_X12_laysEdge x1_2 v_38 (0 : Int32) s_2) fun s_39 =>
        k_53 s_39
      )
    )
  )) LF (0 : Int32) s_1
def f_X12_reached (x1 : Int32) (x2 : Int64) (σ : Sto) : Option Int64 :=
  lt ((1 : Int64) <<< (x1.toInt64 &&& 63)) fun x4_1 =>
  itr (fun _ _ => none) (fun (a_8 : Int64 → Int32 → Option Int64) (x4_2 : Int64) (x6_2 : Int32) => (
    if x6_2 = 0 then (
      some x4_2
    ) else (
      itr (fun _ _ _ => none) (fun (a_19 : Int64 → Int32 → Int32 → Option Int64) (x4_4 : Int64) (x6_4 : Int32) (x7_4 : Int32) => (
        if (σ.1 32 0) ≤ x7_4 then (
          a_8 x4_4 x6_4
        ) else (
          ix 120 x7_4 <| lt (σ.1 30 x7_4.toNatClampNeg) fun v_6 =>
          jn (fun (x4_7 : Int64) (x6_7 : Int32) => (
            lt (x7_4 + 1) fun x7_8 =>
            a_19 x4_7 x6_7 x7_8
          )) fun k_102 =>
          if v_6 = 0 then (
            ix 120 x7_4 <| lt (σ.1 27 x7_4.toNatClampNeg) fun v_10 =>
            calp (f_X12_has x4_4 v_10) fun v_11 =>
            if v_11 = 0 then (
              k_102 x4_4 x6_4
            ) else (
              ix 120 x7_4 <| lt (σ.1 28 x7_4.toNatClampNeg) fun v_13 =>
              calp (f_X12_has x4_4 v_13) fun v_14 =>
              if v_14 = 0 then (
                ix 120 x7_4 <| lt (σ.1 28 x7_4.toNatClampNeg) fun v_16 =>
                calp (f_X12_has x2 v_16) fun v_17 =>
                if v_17 = 0 then (
                  ix 120 x7_4 <| lt (σ.1 28 x7_4.toNatClampNeg) fun v_19 =>
                  lt (x4_4 ||| ((1 : Int64) <<< (v_19.toInt64 &&& 63))) fun x4_20 =>
                  k_102 x4_20 (1 : Int32)
                ) else (
                  k_102 x4_4 x6_4
                )
              ) else (
                k_102 x4_4 x6_4
              )
            )
          ) else (
            k_102 x4_4 x6_4
          )
        )
      )) LF x4_2 (0 : Int32) (0 : Int32)
    )
  )) LF x4_1 (1 : Int32)
def f_X12_all  (σ : Sto) : Option Int64 :=
  some (((1 : Int64) <<< ((σ.1 26 0).toInt64 &&& 63)) - 1)
def f_X12_laysDominators  (σ : Sto) : Option Sto :=
  itr (fun _ _ => none) (fun (a_2 : Int32 → Sto → Option Sto) (x1_1 : Int32) (s_1 : Sto) => (
    if (s_1.1 26 0) ≤ x1_1 then (
      itr (fun _ _ => none) (fun (a_25 : Int32 → Sto → Option Sto) (x1_3 : Int32) (s_3 : Sto) => (
        if (s_3.1 26 0) ≤ x1_3 then (
          itr (fun _ _ => none) (fun (a_98 : Int32 → Sto → Option Sto) (x1_5 : Int32) (s_5 : Sto) => (
            if (s_5.1 32 0) ≤ x1_5 then (
              some s_5
            ) else (
              ix 120 x1_5 <| lt (s_5.1 30 x1_5.toNatClampNeg) fun v_7 =>
              jn (fun (t0_8 : Int32) => (
                bz t0_8 <|
                ix 120 x1_5 <| lt (sti s_5 31 x1_5.toNatClampNeg t0_8) fun s_9 =>
                lt (x1_5 + 1) fun x1_11 =>
                a_98 x1_11 s_9
              )) fun k_148 =>
              jn (
                k_148 (0 : Int32)
              ) fun k_147 =>
              if v_7 = 0 then (
                ix 120 x1_5 <| lt (s_5.1 27 x1_5.toNatClampNeg) fun v_14 =>
                ix 40 v_14 <| lt (s_5.2 0 v_14.toNatClampNeg) fun v_15 =>
                ix 120 x1_5 <| lt (s_5.1 28 x1_5.toNatClampNeg) fun v_16 =>
                calp (f_X12_has v_15 v_16) fun v_17 =>
                if v_17 = 0 then (
                  k_147
                ) else (
                  k_148 (1 : Int32)
                )
              ) else (
                k_147
              )
            )
          )) LF (0 : Int32) s_3
        ) else (
          jn (fun (t0_19 : Int64) => (
            itr (fun _ _ => none) (fun (a_53 : Int32 → Sto → Option Sto) (x4_20 : Int32) (s_20 : Sto) => (
              if (s_20.1 26 0) ≤ x4_20 then (
                lt (x1_3 + 1) fun x1_22 =>
                a_25 x1_22 s_20
              ) else (
                calp (f_X12_has t0_19 x4_20) fun v_23 =>
                jn (fun (s_24 : Sto) => (
                  lt (x4_20 + 1) fun x4_25 =>
                  a_53 x4_25 s_24
                )) fun k_84 =>
                if v_23 = 0 then (
                  ix 40 x4_20 <| lt (s_20.2 0 x4_20.toNatClampNeg) fun v_27 =>
                  ix 40 x4_20 <| lt (stl s_20 0 x4_20.toNatClampNeg ((v_27 ||| ((1 : Int64) <<< (x1_3.toInt64 &&& 63))))) fun s_28 =>
                  k_84 s_28
                ) else (
                  k_84 s_20
                )
              )
            )) LF (0 : Int32) s_3
          )) fun k_49 =>
          if x1_3 = 0 then (
            k_49 (0 : Int64)
          ) else (
            calp (f_X12_reached (0 : Int32) ((1 : Int64) <<< (x1_3.toInt64 &&& 63)) s_3) fun v_30 =>
            k_49 v_30
          )
        )
      )) LF (0 : Int32) s_1
    ) else (
      ix 40 x1_1 <| lt (stl s_1 0 x1_1.toNatClampNeg (0 : Int64)) fun s_31 =>
      lt (x1_1 + 1) fun x1_32 =>
      a_2 x1_32 s_31
    )
  )) LF (0 : Int32) σ
def f_X12_isEntry (x1 : Int32) (x2 : Int64) (σ : Sto) : Option Int32 :=
  itr (fun _ => none) (fun (a_3 : Int32 → Option Int32) (x4_1 : Int32) => (
    if (σ.1 32 0) ≤ x4_1 then (
      some (1 : Int32)
    ) else (
      ix 120 x4_1 <| lt (σ.1 28 x4_1.toNatClampNeg) fun v_3 =>
      jn (
        lt (x4_1 + 1) fun x4_5 =>
        a_3 x4_5
      ) fun k_59 =>
      if v_3 = x1 then (
        ix 120 x4_1 <| lt (σ.1 30 x4_1.toNatClampNeg) fun v_7 =>
        if v_7 = 0 then (
          ix 120 x4_1 <| lt (σ.1 31 x4_1.toNatClampNeg) fun v_9 =>
          if v_9 = 0 then (
            ix 120 x4_1 <| lt (σ.1 27 x4_1.toNatClampNeg) fun v_11 =>
            calp (f_X12_has x2 v_11) fun v_12 =>
            if v_12 = 0 then (
              some (0 : Int32)
            ) else (
              k_59
            )
          ) else (
            k_59
          )
        ) else (
          k_59
        )
      ) else (
        k_59
      )
    )
  )) LF (0 : Int32)
def f_X12_isReduced  (σ : Sto) : Option Int32 :=
  itr (fun _ _ => none) (fun (a_4 : Int64 → Int32 → Option Int32) (x1_1 : Int64) (x3_1 : Int32) => (
    if x3_1 = 0 then (
      calp (f_X12_all σ) fun v_3 =>
      if (lg_cmp x1_1 v_3) = 0 then (
        some (1 : Int32)
      ) else (
        some (0 : Int32)
      )
    ) else (
      itr (fun _ _ _ => none) (fun (a_13 : Int64 → Int32 → Int32 → Option Int32) (x1_5 : Int64) (x3_5 : Int32) (x4_5 : Int32) => (
        if (σ.1 26 0) ≤ x4_5 then (
          a_4 x1_5 x3_5
        ) else (
          calp (f_X12_has x1_5 x4_5) fun v_7 =>
          jn (fun (x1_8 : Int64) (x3_8 : Int32) => (
            lt (x4_5 + 1) fun x4_9 =>
            a_13 x1_8 x3_8 x4_9
          )) fun k_53 =>
          if v_7 = 0 then (
            calp (f_X12_isEntry x4_5 x1_5 σ) fun v_11 =>
            if v_11 = 0 then (
              k_53 x1_5 x3_5
            ) else (
              lt (x1_5 ||| ((1 : Int64) <<< (x4_5.toInt64 &&& 63))) fun x1_13 =>
              k_53 x1_13 (1 : Int32)
            )
          ) else (
            k_53 x1_5 x3_5
          )
        )
      )) LF x1_1 (0 : Int32) (0 : Int32)
    )
  )) LF (0 : Int64) (1 : Int32)
def f_X12_isGoodSo  (σ : Sto) : Option (Int32 × Sto) :=
  calp (f_X12_reached (0 : Int32) (0 : Int64) σ) fun v_1 =>
  calp (f_X12_all σ) fun v_2 =>
  if (lg_cmp v_1 v_2) = 0 then (
    cals (f_X12_laysDominators σ) fun s_4 =>
    calp (f_X12_isReduced s_4) fun v_5 =>
    bz v_5 <|
    some (v_5, s_4)
  ) else (
    some ((0 : Int32), σ)
  )
def f_X12_hasSecond (x1 : Int32) (σ : Sto) : Option (Int32 × Sto) :=
  lt (x1 + 1) fun x2_1 =>
  itr (fun _ _ => none) (fun (a_4 : Int32 → Sto → Option (Int32 × Sto)) (x2_2 : Int32) (s_2 : Sto) => (
    if (s_2.1 32 0) ≤ x2_2 then (
      some ((0 : Int32), s_2)
    ) else (
      ix 120 x2_2 <| lt (s_2.1 29 x2_2.toNatClampNeg) fun v_4 =>
      jn (fun (s_5 : Sto) => (
        lt (x2_2 + 1) fun x2_6 =>
        a_4 x2_6 s_5
      )) fun k_47 =>
      if v_4 = 0 then (
        ix 120 x2_2 <| lt (sti s_2 30 x2_2.toNatClampNeg (1 : Int32)) fun s_8 =>
        calv (f_X12_isGoodSo s_8) fun v_9 s_9 =>
        if v_9 = 0 then (
          ix 120 x2_2 <| lt (sti s_9 30 x2_2.toNatClampNeg (0 : Int32)) fun s_11 =>
          k_47 s_11
        ) else (
          some ((1 : Int32), s_9)
        )
      ) else (
        k_47 s_2
      )
    )
  )) LF x2_1 σ
def f_X12_laysJumps  (σ : Sto) : Option Sto :=
  itr (fun _ _ => none) (fun (a_2 : Int32 → Sto → Option Sto) (x1_1 : Int32) (s_1 : Sto) => (
    if (s_1.1 32 0) ≤ x1_1 then (
      calv (f_X12_isGoodSo s_1) fun v_3 s_3 =>
      bz v_3 <|
      lt (sti s_3 37 0 v_3) fun s_4 =>
      lt (sti s_4 36 0 (0 : Int32)) fun s_6 =>
      if (s_6.1 37 0) = 0 then (
        lt (sti s_6 36 0 (1 : Int32)) fun s_8 =>
        itr (fun _ => none) (fun (a_49 : Sto → Option Sto) (s_9 : Sto) => (
          if 2 < (s_9.1 36 0) then (
            lt (sti s_9 36 0 ((-1) : Int32)) fun s_11 =>
            cals (f_X12_laysDominators s_11) fun s_12 =>
            some s_12
          ) else (
            itr (fun _ _ => none) (fun (a_59 : Int32 → Sto → Option Sto) (x1_13 : Int32) (s_13 : Sto) => (
              if (s_13.1 32 0) ≤ x1_13 then (
                lt (sti s_13 36 0 ((s_13.1 36 0) + 1)) fun s_15 =>
                a_49 s_15
              ) else (
                ix 120 x1_13 <| lt (s_13.1 29 x1_13.toNatClampNeg) fun v_16 =>
                jn (fun (s_17 : Sto) => (
                  lt (x1_13 + 1) fun x1_18 =>
                  a_59 x1_18 s_17
                )) fun k_120 =>
                if v_16 = 0 then (
                  ix 120 x1_13 <| lt (sti s_13 30 x1_13.toNatClampNeg (1 : Int32)) fun s_20 =>
                  jn (fun (s_21 : Sto) => (
                    ix 120 x1_13 <| lt (sti s_21 30 x1_13.toNatClampNeg (0 : Int32)) fun s_22 =>
                    k_120 s_22
                  )) fun k_113 =>
                  if (s_20.1 36 0) = 1 then (
                    calv (f_X12_isGoodSo s_20) fun v_24 s_24 =>
                    if v_24 = 0 then (
                      k_113 s_24
                    ) else (
                      some s_24
                    )
                  ) else (
                    calv (f_X12_hasSecond x1_13 s_20) fun v_26 s_26 =>
                    if v_26 = 0 then (
                      k_113 s_26
                    ) else (
                      some s_26
                    )
                  )
                ) else (
                  k_120 s_13
                )
              )
            )) LF (0 : Int32) s_9
          )
        )) LF s_8
      ) else (
        some s_6
      )
    ) else (
      ix 120 x1_1 <| lt (sti s_1 30 x1_1.toNatClampNeg (0 : Int32)) fun s_28 =>
      lt (x1_1 + 1) fun x1_29 =>
      a_2 x1_29 s_28
    )
  )) LF (0 : Int32) σ
def b_X12_leaves (q_X12_leaves : Int32 → Sto → Option Sto) (x1 : Int32) (σ : Sto) : Option Sto :=
  lt (stl σ 2 0 ((σ.2 2 0) ||| ((1 : Int64) <<< (x1.toInt64 &&& 63)))) fun s_1 =>
  itr (fun _ _ => none) (fun (a_14 : Int32 → Sto → Option Sto) (x2_2 : Int32) (s_2 : Sto) => (
    if (s_2.1 32 0) ≤ x2_2 then (
      lt (sti s_2 35 0 ((s_2.1 35 0) - 1)) fun s_4 =>
      ix 40 x1 <| lt (sti s_4 33 x1.toNatClampNeg (s_4.1 35 0)) fun s_5 =>
      some s_5
    ) else (
      ix 120 x2_2 <| lt (s_2.1 27 x2_2.toNatClampNeg) fun v_6 =>
      jn (fun (s_7 : Sto) => (
        lt (x2_2 + 1) fun x2_8 =>
        a_14 x2_8 s_7
      )) fun k_67 =>
      if v_6 = x1 then (
        ix 120 x2_2 <| lt (s_2.1 30 x2_2.toNatClampNeg) fun v_10 =>
        if v_10 = 0 then (
          ix 120 x2_2 <| lt (s_2.1 28 x2_2.toNatClampNeg) fun v_12 =>
          calp (f_X12_has (s_2.2 2 0) v_12) fun v_13 =>
          if v_13 = 0 then (
            ix 120 x2_2 <| lt (s_2.1 28 x2_2.toNatClampNeg) fun v_15 =>
            cals (q_X12_leaves v_15 s_2) fun s_16 =>
            k_67 s_16
          ) else (
            k_67 s_2
          )
        ) else (
          k_67 s_2
        )
      ) else (
        k_67 s_2
      )
    )
  )) LF (0 : Int32) s_1
def g_X12_leaves : Nat → ((Int32 → Sto → Option Sto))
  | 0 => fun _ _ => none
  | d + 1 => b_X12_leaves (g_X12_leaves d)
def f_X12_leaves (d : Nat) : Int32 → Sto → Option Sto := (g_X12_leaves d)
def f_X12_laysOrder  (σ : Sto) : Option Sto :=
  lt (stl σ 2 0 (0 : Int64)) fun s_1 =>
  lt (sti s_1 35 0 (s_1.1 26 0)) fun s_2 =>
  cals (f_X12_leaves 250 (0 : Int32) s_2) fun s_3 =>
  some s_3
def f_X12_laysAbove  (σ : Sto) : Option Sto :=
  itr (fun _ _ => none) (fun (a_2 : Int32 → Sto → Option Sto) (x1_1 : Int32) (s_1 : Sto) => (
    if (s_1.1 26 0) ≤ x1_1 then (
      some s_1
    ) else (
      ix 40 x1_1 <| lt (sti s_1 34 x1_1.toNatClampNeg (((-1) : Int32))) fun s_3 =>
      itr (fun _ _ => none) (fun (a_19 : Int32 → Sto → Option Sto) (x2_4 : Int32) (s_4 : Sto) => (
        if (s_4.1 26 0) ≤ x2_4 then (
          lt (x1_1 + 1) fun x1_6 =>
          a_2 x1_6 s_4
        ) else (
          jn (fun (s_7 : Sto) => (
            lt (x2_4 + 1) fun x2_8 =>
            a_19 x2_8 s_7
          )) fun k_80 =>
          if x2_4 = x1_1 then (
            k_80 s_4
          ) else (
            ix 40 x1_1 <| lt (s_4.2 0 x1_1.toNatClampNeg) fun v_10 =>
            calp (f_X12_has v_10 x2_4) fun v_11 =>
            if v_11 = 0 then (
              k_80 s_4
            ) else (
              ix 40 x1_1 <| lt (s_4.1 34 x1_1.toNatClampNeg) fun v_13 =>
              jn (
                ix 40 x1_1 <| lt (sti s_4 34 x1_1.toNatClampNeg x2_4) fun s_15 =>
                k_80 s_15
              ) fun k_73 =>
              if v_13 = (-1) then (
                k_73
              ) else (
                ix 40 x2_4 <| lt (s_4.2 0 x2_4.toNatClampNeg) fun v_17 =>
                ix 40 x1_1 <| lt (s_4.1 34 x1_1.toNatClampNeg) fun v_18 =>
                calp (f_X12_has v_17 v_18) fun v_19 =>
                if v_19 = 0 then (
                  k_80 s_4
                ) else (
                  k_73
                )
              )
            )
          )
        )
      )) LF (0 : Int32) s_3
    )
  )) LF (0 : Int32) σ
def f_X12_comeTo (x1 : Int32) (x2 : Int32) (σ : Sto) : Option Int64 :=
  lt ((1 : Int64) <<< (x1.toInt64 &&& 63)) fun x3_1 =>
  jn (fun (t0_2 : Int32) => (
    itr (fun _ _ => none) (fun (a_16 : Int64 → Int32 → Option Int64) (x3_3 : Int64) (x5_3 : Int32) => (
      if x5_3 = 0 then (
        some x3_3
      ) else (
        itr (fun _ _ _ => none) (fun (a_27 : Int64 → Int32 → Int32 → Option Int64) (x3_5 : Int64) (x5_5 : Int32) (x6_5 : Int32) => (
          if (σ.1 32 0) ≤ x6_5 then (
            a_16 x3_5 x5_5
          ) else (
            ix 120 x6_5 <| lt (σ.1 30 x6_5.toNatClampNeg) fun v_7 =>
            jn (fun (x3_8 : Int64) (x5_8 : Int32) => (
              lt (x6_5 + 1) fun x6_9 =>
              a_27 x3_8 x5_8 x6_9
            )) fun k_103 =>
            if v_7 = 0 then (
              ix 120 x6_5 <| lt (σ.1 28 x6_5.toNatClampNeg) fun v_11 =>
              calp (f_X12_has x3_5 v_11) fun v_12 =>
              if v_12 = 0 then (
                k_103 x3_5 x5_5
              ) else (
                ix 120 x6_5 <| lt (σ.1 27 x6_5.toNatClampNeg) fun v_14 =>
                calp (f_X12_has x3_5 v_14) fun v_15 =>
                if v_15 = 0 then (
                  ix 120 x6_5 <| lt (σ.1 27 x6_5.toNatClampNeg) fun v_17 =>
                  if v_17 = x2 then (
                    k_103 x3_5 x5_5
                  ) else (
                    ix 120 x6_5 <| lt (σ.1 27 x6_5.toNatClampNeg) fun v_19 =>
                    lt (x3_5 ||| ((1 : Int64) <<< (v_19.toInt64 &&& 63))) fun x3_20 =>
                    k_103 x3_20 (1 : Int32)
                  )
                ) else (
                  k_103 x3_5 x5_5
                )
              )
            ) else (
              k_103 x3_5 x5_5
            )
          )
        )) LF x3_3 (0 : Int32) (0 : Int32)
      )
    )) LF x3_1 t0_2
  )) fun k_14 =>
  if x1 = x2 then (
    k_14 (0 : Int32)
  ) else (
    k_14 (1 : Int32)
  )
def f_X12_laysLoops  (σ : Sto) : Option Sto :=
  itr (fun _ _ => none) (fun (a_2 : Int32 → Sto → Option Sto) (x1_1 : Int32) (s_1 : Sto) => (
    if (s_1.1 26 0) ≤ x1_1 then (
      some s_1
    ) else (
      ix 40 x1_1 <| lt (stl s_1 1 x1_1.toNatClampNeg (0 : Int64)) fun s_3 =>
      itr (fun _ _ => none) (fun (a_19 : Int32 → Sto → Option Sto) (x2_4 : Int32) (s_4 : Sto) => (
        if (s_4.1 32 0) ≤ x2_4 then (
          lt (x1_1 + 1) fun x1_6 =>
          a_2 x1_6 s_4
        ) else (
          ix 120 x2_4 <| lt (s_4.1 31 x2_4.toNatClampNeg) fun v_7 =>
          jn (fun (s_8 : Sto) => (
            lt (x2_4 + 1) fun x2_9 =>
            a_19 x2_9 s_8
          )) fun k_70 =>
          if v_7 = 0 then (
            k_70 s_4
          ) else (
            ix 120 x2_4 <| lt (s_4.1 28 x2_4.toNatClampNeg) fun v_11 =>
            if v_11 = x1_1 then (
              ix 40 x1_1 <| lt (s_4.2 1 x1_1.toNatClampNeg) fun v_13 =>
              ix 120 x2_4 <| lt (s_4.1 27 x2_4.toNatClampNeg) fun v_14 =>
              calp (f_X12_comeTo v_14 x1_1 s_4) fun v_15 =>
              ix 40 x1_1 <| lt (stl s_4 1 x1_1.toNatClampNeg ((v_13 ||| (((1 : Int64) <<< (x1_1.toInt64 &&& 63)) ||| v_15)))) fun s_16 =>
              k_70 s_16
            ) else (
              k_70 s_4
            )
          )
        )
      )) LF (0 : Int32) s_3
    )
  )) LF (0 : Int32) σ
def f_X12_isOneOf_s109 (x1 : Int32) : Option Int32 :=
  itr (fun _ => none) (fun (a_2 : Int32 → Option Int32) (x2_1 : Int32) => (
    if 2 ≤ x2_1 then (
      some (0 : Int32)
    ) else (
      ix 2 x2_1 <| lt (chS 109 x2_1) fun v_3 =>
      if v_3 = x1 then (
        some (1 : Int32)
      ) else (
        lt (x2_1 + 1) fun x2_5 =>
        a_2 x2_5
      )
    )
  )) LF (0 : Int32)
def f_X12_isOne (x1 : Int32) (σ : Sto) : Option Int32 :=
  ix 6000 x1 <| lt (σ.1 38 x1.toNatClampNeg) fun v_1 =>
  jn (
    some (1 : Int32)
  ) fun k_21 =>
  if v_1 = 5 then (
    k_21
  ) else (
    ix 6000 x1 <| lt (σ.1 38 x1.toNatClampNeg) fun v_4 =>
    if v_4 = 6 then (
      k_21
    ) else (
      some (0 : Int32)
    )
  )
def f_X12_isBoth (x1 : Int32) (σ : Sto) : Option Int32 :=
  ix 6000 x1 <| lt (σ.1 38 x1.toNatClampNeg) fun v_1 =>
  if v_1 ≤ 6 then (
    some (0 : Int32)
  ) else (
    some (1 : Int32)
  )
def b_X12_hasEffects (q_X12_hasEffects : Int32 → Sto → Option Int32) (x1 : Int32) (σ : Sto) : Option Int32 :=
  calp (f_X12_isOne x1 σ) fun v_1 =>
  if v_1 = 0 then (
    calp (f_X12_isBoth x1 σ) fun v_3 =>
    if v_3 = 0 then (
      ix 6000 x1 <| lt (σ.1 38 x1.toNatClampNeg) fun v_5 =>
      if v_5 = 4 then (
        some (1 : Int32)
      ) else (
        some (0 : Int32)
      )
    ) else (
      ix 6000 x1 <| lt (σ.1 38 x1.toNatClampNeg) fun v_7 =>
      jn (
        some (1 : Int32)
      ) fun k_91 =>
      if v_7 = 47 then (
        k_91
      ) else (
        ix 6000 x1 <| lt (σ.1 38 x1.toNatClampNeg) fun v_10 =>
        if v_10 = 37 then (
          k_91
        ) else (
          ix 6000 x1 <| lt (σ.1 39 x1.toNatClampNeg) fun v_12 =>
          calp (q_X12_hasEffects v_12 σ) fun v_13 =>
          if v_13 = 0 then (
            ix 6000 x1 <| lt (σ.1 40 x1.toNatClampNeg) fun v_15 =>
            calp (q_X12_hasEffects v_15 σ) fun v_16 =>
            if v_16 = 0 then (
              some (0 : Int32)
            ) else (
              k_91
            )
          ) else (
            k_91
          )
        )
      )
    )
  ) else (
    ix 6000 x1 <| lt (σ.1 39 x1.toNatClampNeg) fun v_18 =>
    calp (q_X12_hasEffects v_18 σ) fun v_19 =>
    bz v_19 <|
    some v_19
  )
def g_X12_hasEffects : Nat → ((Int32 → Sto → Option Int32))
  | 0 => fun _ _ => none
  | d + 1 => b_X12_hasEffects (g_X12_hasEffects d)
def f_X12_hasEffects (d : Nat) : Int32 → Sto → Option Int32 := (g_X12_hasEffects d)
def f_X12_states (x1 : Int32) (x2 : Int32) (x3 : Int32) (σ : Sto) : Option Sto :=
  ix 400 (σ.1 47 0) <| lt (sti σ 42 (σ.1 47 0).toNatClampNeg x1) fun s_1 =>
  ix 400 (s_1.1 47 0) <| lt (sti s_1 43 (s_1.1 47 0).toNatClampNeg x2) fun s_2 =>
  ix 400 (s_2.1 47 0) <| lt (sti s_2 44 (s_2.1 47 0).toNatClampNeg x3) fun s_3 =>
  lt (sti s_3 47 0 ((s_3.1 47 0) + 1)) fun s_4 =>
  some s_4
def f_X12_makes (x1 : Int32) (x2 : Int32) (x3 : Int32) (σ : Sto) : Option (Int32 × Sto) :=
  ix 6000 (σ.1 41 0) <| lt (sti σ 38 (σ.1 41 0).toNatClampNeg x1) fun s_1 =>
  ix 6000 (s_1.1 41 0) <| lt (sti s_1 39 (s_1.1 41 0).toNatClampNeg x2) fun s_2 =>
  ix 6000 (s_2.1 41 0) <| lt (sti s_2 40 (s_2.1 41 0).toNatClampNeg x3) fun s_3 =>
  lt (sti s_3 41 0 ((s_3.1 41 0) + 1)) fun s_4 =>
  some (((s_4.1 41 0) - 1), s_4)
def f_X12_freshX (x1 : Int32) (σ : Sto) : Option (Int32 × Sto) :=
  cals (f_X12_states (2 : Int32) (σ.1 48 0) x1 σ) fun s_1 =>
  lt (sti s_1 48 0 ((s_1.1 48 0) + 1)) fun s_2 =>
  calv (f_X12_makes (3 : Int32) ((s_2.1 48 0) - 1) (0 : Int32) s_2) fun v_3 s_3 =>
  some (v_3, s_3)
def b_X12_with (q_X12_with : Int32 → Int32 → Int32 → Sto → Option (Int32 × Sto)) (x1 : Int32) (x2 : Int32) (x3 : Int32) (σ : Sto) : Option (Int32 × Sto) :=
  calp (f_X12_isOne x1 σ) fun v_1 =>
  if v_1 = 0 then (
    calp (f_X12_isBoth x1 σ) fun v_3 =>
    if v_3 = 0 then (
      ix 6000 x1 <| lt (σ.1 38 x1.toNatClampNeg) fun v_5 =>
      jn (
        some (x1, σ)
      ) fun k_109 =>
      if v_5 = 2 then (
        ix 6000 x1 <| lt (σ.1 39 x1.toNatClampNeg) fun v_8 =>
        if v_8 = x2 then (
          calv (f_X12_makes (3 : Int32) x3 (0 : Int32) σ) fun v_10 s_10 =>
          some (v_10, s_10)
        ) else (
          k_109
        )
      ) else (
        k_109
      )
    ) else (
      ix 6000 x1 <| lt (σ.1 39 x1.toNatClampNeg) fun v_11 =>
      calv (q_X12_with v_11 x2 x3 σ) fun v_12 s_12 =>
      ix 6000 x1 <| lt (s_12.1 38 x1.toNatClampNeg) fun v_13 =>
      ix 6000 x1 <| lt (s_12.1 40 x1.toNatClampNeg) fun v_14 =>
      calv (q_X12_with v_14 x2 x3 s_12) fun v_15 s_15 =>
      calv (f_X12_makes v_13 v_12 v_15 s_15) fun v_16 s_16 =>
      some (v_16, s_16)
    )
  ) else (
    ix 6000 x1 <| lt (σ.1 38 x1.toNatClampNeg) fun v_17 =>
    ix 6000 x1 <| lt (σ.1 39 x1.toNatClampNeg) fun v_18 =>
    calv (q_X12_with v_18 x2 x3 σ) fun v_19 s_19 =>
    calv (f_X12_makes v_17 v_19 (0 : Int32) s_19) fun v_20 s_20 =>
    some (v_20, s_20)
  )
def g_X12_with : Nat → ((Int32 → Int32 → Int32 → Sto → Option (Int32 × Sto)))
  | 0 => fun _ _ _ _ => none
  | d + 1 => b_X12_with (g_X12_with d)
def f_X12_with (d : Nat) : Int32 → Int32 → Int32 → Sto → Option (Int32 × Sto) := (g_X12_with d)
def b_X12_hasName (q_X12_hasName : Int32 → Int32 → Int32 → Sto → Option Int32) (x1 : Int32) (x2 : Int32) (x3 : Int32) (σ : Sto) : Option Int32 :=
  calp (f_X12_isOne x1 σ) fun v_1 =>
  if v_1 = 0 then (
    calp (f_X12_isBoth x1 σ) fun v_3 =>
    if v_3 = 0 then (
      ix 6000 x1 <| lt (σ.1 38 x1.toNatClampNeg) fun v_5 =>
      jn (
        some (0 : Int32)
      ) fun k_89 =>
      if v_5 = x2 then (
        ix 6000 x1 <| lt (σ.1 39 x1.toNatClampNeg) fun v_8 =>
        if v_8 = x3 then (
          some (1 : Int32)
        ) else (
          k_89
        )
      ) else (
        k_89
      )
    ) else (
      ix 6000 x1 <| lt (σ.1 39 x1.toNatClampNeg) fun v_10 =>
      calp (q_X12_hasName v_10 x2 x3 σ) fun v_11 =>
      jn (
        some (1 : Int32)
      ) fun k_59 =>
      if v_11 = 0 then (
        ix 6000 x1 <| lt (σ.1 40 x1.toNatClampNeg) fun v_14 =>
        calp (q_X12_hasName v_14 x2 x3 σ) fun v_15 =>
        if v_15 = 0 then (
          some (0 : Int32)
        ) else (
          k_59
        )
      ) else (
        k_59
      )
    )
  ) else (
    ix 6000 x1 <| lt (σ.1 39 x1.toNatClampNeg) fun v_17 =>
    calp (q_X12_hasName v_17 x2 x3 σ) fun v_18 =>
    bz v_18 <|
    some v_18
  )
def g_X12_hasName : Nat → ((Int32 → Int32 → Int32 → Sto → Option Int32))
  | 0 => fun _ _ _ _ => none
  | d + 1 => b_X12_hasName (g_X12_hasName d)
def f_X12_hasName (d : Nat) : Int32 → Int32 → Int32 → Sto → Option Int32 := (g_X12_hasName d)
def f_X12_endsBlock (x1 : Int32) (σ : Sto) : Option Sto :=
  itr (fun _ _ => none) (fun (a_2 : Int32 → Sto → Option Sto) (x2_1 : Int32) (s_1 : Sto) => (
    if (s_1.1 50 0) ≤ x2_1 then (
      ix 40 x1 <| lt (s_1.1 46 x1.toNatClampNeg) fun v_3 =>
      if v_3 = (-1) then (
        some s_1
      ) else (
        ix 40 x1 <| lt (s_1.1 46 x1.toNatClampNeg) fun v_5 =>
        calp (f_X12_hasEffects 250 v_5 s_1) fun v_6 =>
        if v_6 = 0 then (
          some s_1
        ) else (
          ix 40 x1 <| lt (s_1.1 46 x1.toNatClampNeg) fun v_8 =>
          calv (f_X12_freshX v_8 s_1) fun v_9 s_9 =>
          ix 40 x1 <| lt (sti s_9 46 x1.toNatClampNeg v_9) fun s_10 =>
          some s_10
        )
      )
    ) else (
      ix 8 x2_1 <| lt (s_1.1 49 x2_1.toNatClampNeg) fun v_11 =>
      ix 6000 v_11 <| lt (s_1.1 38 v_11.toNatClampNeg) fun v_12 =>
      jn (fun (s_13 : Sto) => (
        lt (x2_1 + 1) fun x2_14 =>
        a_2 x2_14 s_13
      )) fun k_225 =>
      jn (
        ix 40 x1 <| lt (s_1.1 46 x1.toNatClampNeg) fun v_16 =>
        jn (fun (t0_17 : Int32) => (
          lt (x2_1 + 1) fun x4_18 =>
          itr (fun _ _ => none) (fun (a_79 : Int32 → Int32 → Option Sto) (x3_19 : Int32) (x4_19 : Int32) => (
            if (s_1.1 50 0) ≤ x4_19 then (
              jn (fun (s_21 : Sto) => (
                ix 8 x2_1 <| lt (s_21.1 49 x2_1.toNatClampNeg) fun v_22 =>
                cals (f_X12_states (1 : Int32) x2_1 v_22 s_21) fun s_23 =>
                k_225 s_23
              )) fun k_213 =>
              if x3_19 = 0 then (
                k_213 s_1
              ) else (
                lt (s_1.1 48 0) fun x4_25 =>
                calv (f_X12_makes (2 : Int32) x2_1 (0 : Int32) s_1) fun v_26 s_26 =>
                calv (f_X12_freshX v_26 s_26) fun v_27 s_27 =>
                lt (x2_1 + 1) fun x6_28 =>
                itr (fun _ _ => none) (fun (a_148 : Int32 → Sto → Option Sto) (x6_29 : Int32) (s_29 : Sto) => (
                  if (s_29.1 50 0) ≤ x6_29 then (
                    ix 40 x1 <| lt (s_29.1 46 x1.toNatClampNeg) fun v_31 =>
                    if v_31 = (-1) then (
                      k_213 s_29
                    ) else (
                      ix 40 x1 <| lt (s_29.1 46 x1.toNatClampNeg) fun v_33 =>
                      calv (f_X12_with 250 v_33 x2_1 x4_25 s_29) fun v_34 s_34 =>
                      ix 40 x1 <| lt (sti s_34 46 x1.toNatClampNeg v_34) fun s_35 =>
                      k_213 s_35
                    )
                  ) else (
                    ix 8 x6_29 <| lt (s_29.1 49 x6_29.toNatClampNeg) fun v_36 =>
                    calv (f_X12_with 250 v_36 x2_1 x4_25 s_29) fun v_37 s_37 =>
                    ix 8 x6_29 <| lt (sti s_37 49 x6_29.toNatClampNeg v_37) fun s_38 =>
                    lt (x6_29 + 1) fun x6_39 =>
                    a_148 x6_39 s_38
                  )
                )) LF x6_28 s_27
              )
            ) else (
              jn (fun (t0_40 : Int32) => (
                lt (x4_19 + 1) fun x4_41 =>
                a_79 t0_40 x4_41
              )) fun k_113 =>
              jn (
                k_113 (1 : Int32)
              ) fun k_108 =>
              if x3_19 = 0 then (
                ix 8 x4_19 <| lt (s_1.1 49 x4_19.toNatClampNeg) fun v_44 =>
                calp (f_X12_hasName 250 v_44 (2 : Int32) x2_1 s_1) fun v_45 =>
                if v_45 = 0 then (
                  k_113 (0 : Int32)
                ) else (
                  k_108
                )
              ) else (
                k_108
              )
            )
          )) LF t0_17 x4_18
        )) fun k_73 =>
        jn (
          k_73 (0 : Int32)
        ) fun k_72 =>
        if v_16 = (-1) then (
          k_72
        ) else (
          ix 40 x1 <| lt (s_1.1 46 x1.toNatClampNeg) fun v_49 =>
          calp (f_X12_hasName 250 v_49 (2 : Int32) x2_1 s_1) fun v_50 =>
          if v_50 = 0 then (
            k_72
          ) else (
            k_73 (1 : Int32)
          )
        )
      ) fun k_43 =>
      if v_12 = 2 then (
        ix 8 x2_1 <| lt (s_1.1 49 x2_1.toNatClampNeg) fun v_53 =>
        ix 6000 v_53 <| lt (s_1.1 39 v_53.toNatClampNeg) fun v_54 =>
        if v_54 = x2_1 then (
          k_225 s_1
        ) else (
          k_43
        )
      ) else (
        k_43
      )
    )
  )) LF (0 : Int32) σ
def f_X12_pops_  (σ : Sto) : Option (Int32 × Sto) :=
  lt (sti σ 50 0 ((σ.1 50 0) - 1)) fun s_1 =>
  ix 8 (s_1.1 50 0) <| lt (s_1.1 49 (s_1.1 50 0).toNatClampNeg) fun v_2 =>
  some (v_2, s_1)
def f_X12_lays (x1 : Int32) (σ : Sto) : Option Sto :=
  ix 8 (σ.1 50 0) <| lt (sti σ 49 (σ.1 50 0).toNatClampNeg x1) fun s_1 =>
  lt (sti s_1 50 0 ((s_1.1 50 0) + 1)) fun s_2 =>
  some s_2
def f_X12_isName (x1 : Int32) (σ : Sto) : Option Int32 :=
  ix 6000 x1 <| lt (σ.1 38 x1.toNatClampNeg) fun v_1 =>
  jn (
    some (1 : Int32)
  ) fun k_30 =>
  if v_1 = 1 then (
    k_30
  ) else (
    ix 6000 x1 <| lt (σ.1 38 x1.toNatClampNeg) fun v_4 =>
    if v_4 = 2 then (
      k_30
    ) else (
      ix 6000 x1 <| lt (σ.1 38 x1.toNatClampNeg) fun v_6 =>
      if v_6 = 3 then (
        k_30
      ) else (
        some (0 : Int32)
      )
    )
  )
def f_X12_settles (x1 : Int32) (x2 : Int32) (σ : Sto) : Option Sto :=
  itr (fun _ _ => none) (fun (a_2 : Int32 → Sto → Option Sto) (x3_1 : Int32) (s_1 : Sto) => (
    if x1 ≤ x3_1 then (
      some s_1
    ) else (
      ix 8 x3_1 <| lt (s_1.1 49 x3_1.toNatClampNeg) fun v_3 =>
      calp (f_X12_hasEffects 250 v_3 s_1) fun v_4 =>
      jn (fun (s_5 : Sto) => (
        lt (x3_1 + 1) fun x3_6 =>
        a_2 x3_6 s_5
      )) fun k_56 =>
      jn (
        ix 8 x3_1 <| lt (s_1.1 49 x3_1.toNatClampNeg) fun v_8 =>
        calv (f_X12_freshX v_8 s_1) fun v_9 s_9 =>
        ix 8 x3_1 <| lt (sti s_9 49 x3_1.toNatClampNeg v_9) fun s_10 =>
        k_56 s_10
      ) fun k_40 =>
      if v_4 = 0 then (
        if x2 = (-1) then (
          k_56 s_1
        ) else (
          ix 8 x3_1 <| lt (s_1.1 49 x3_1.toNatClampNeg) fun v_13 =>
          calp (f_X12_hasName 250 v_13 (1 : Int32) x2 s_1) fun v_14 =>
          if v_14 = 0 then (
            k_56 s_1
          ) else (
            k_40
          )
        )
      ) else (
        k_40
      )
    )
  )) LF (0 : Int32) σ
def f_X12_doubles  (σ : Sto) : Option Sto :=
  calv (f_X12_pops_ σ) fun v_1 s_1 =>
  ix 6000 v_1 <| lt (s_1.1 38 v_1.toNatClampNeg) fun v_2 =>
  jn (fun (x1_3 : Int32) (s_3 : Sto) => (
    cals (f_X12_lays x1_3 s_3) fun s_4 =>
    cals (f_X12_lays x1_3 s_4) fun s_5 =>
    some s_5
  )) fun k_37 =>
  if v_2 = 0 then (
    k_37 v_1 s_1
  ) else (
    calp (f_X12_isName v_1 s_1) fun v_7 =>
    if v_7 = 0 then (
      cals (f_X12_settles (s_1.1 50 0) ((-1) : Int32) s_1) fun s_9 =>
      calv (f_X12_freshX v_1 s_9) fun v_10 s_10 =>
      k_37 v_10 s_10
    ) else (
      k_37 v_1 s_1
    )
  )
def f_X12_alone (x1 : Int32) (σ : Sto) : Option Sto :=
  calp (f_X12_hasEffects 250 x1 σ) fun v_1 =>
  if v_1 = 0 then (
    some σ
  ) else (
    cals (f_X12_settles (σ.1 50 0) ((-1) : Int32) σ) fun s_3 =>
    cals (f_X12_states (4 : Int32) ((-1) : Int32) x1 s_3) fun s_4 =>
    some s_4
  )
def f_X12_changes  (σ : Sto) : Option Sto :=
  ix 8 ((σ.1 50 0) - 1) <| lt (σ.1 49 ((σ.1 50 0) - 1).toNatClampNeg) fun v_1 =>
  calp (f_X12_hasEffects 250 v_1 σ) fun v_2 =>
  jn (fun (s_3 : Sto) => (
    calv (f_X12_pops_ s_3) fun v_4 s_4 =>
    calv (f_X12_pops_ s_4) fun v_5 s_5 =>
    cals (f_X12_lays v_4 s_5) fun s_6 =>
    cals (f_X12_lays v_5 s_6) fun s_7 =>
    some s_7
  )) fun k_47 =>
  if v_2 = 0 then (
    k_47 σ
  ) else (
    ix 8 ((σ.1 50 0) - 2) <| lt (σ.1 49 ((σ.1 50 0) - 2).toNatClampNeg) fun v_9 =>
    calp (f_X12_hasEffects 250 v_9 σ) fun v_10 =>
    if v_10 = 0 then (
      k_47 σ
    ) else (
      cals (f_X12_settles ((σ.1 50 0) - 1) ((-1) : Int32) σ) fun s_12 =>
      k_47 s_12
    )
  )
def f_X12_isOneOf_s108 (x1 : Int32) : Option Int32 :=
  itr (fun _ => none) (fun (a_2 : Int32 → Option Int32) (x2_1 : Int32) => (
    if 7 ≤ x2_1 then (
      some (0 : Int32)
    ) else (
      ix 7 x2_1 <| lt (chS 108 x2_1) fun v_3 =>
      if v_3 = x1 then (
        some (1 : Int32)
      ) else (
        lt (x2_1 + 1) fun x2_5 =>
        a_2 x2_5
      )
    )
  )) LF (0 : Int32)
def f_X12_tells (x1 : Int32) (x2 : Int32) (σ : Sto) : Option Sto :=
  jn (fun (t0_1 : Int32) (s_1 : Sto) => (
    jn (
      jn (fun (t0_3 : Int32) => (
        cals (f_X12_settles (s_1.1 50 0) t0_3 s_1) fun s_4 =>
        jn (fun (t0_5 : Int32) => (
          jn (fun (t0_6 : Int32) => (
            cals (f_X12_states t0_5 t0_6 t0_1 s_4) fun s_7 =>
            some s_7
          )) fun k_102 =>
          if x1 = 115 then (
            k_102 x2
          ) else (
            k_102 ((-1) : Int32)
          )
        )) fun k_91 =>
        if x1 = 115 then (
          k_91 (0 : Int32)
        ) else (
          if x1 = 111 then (
            k_91 (3 : Int32)
          ) else (
            if x1 = 116 then (
              k_91 (5 : Int32)
            ) else (
              k_91 (6 : Int32)
            )
          )
        )
      )) fun k_55 =>
      if x1 = 115 then (
        k_55 x2
      ) else (
        k_55 ((-1) : Int32)
      )
    ) fun k_39 =>
    if t0_1 = (-1) then (
      if x1 = 114 then (
        k_39
      ) else (
        some s_1
      )
    ) else (
      k_39
    )
  )) fun k_26 =>
  jn (
    calv (f_X12_pops_ σ) fun v_16 s_16 =>
    k_26 v_16 s_16
  ) fun k_18 =>
  if x1 = 115 then (
    k_18
  ) else (
    if x1 = 111 then (
      k_18
    ) else (
      if x1 = 116 then (
        k_18
      ) else (
        k_26 ((-1) : Int32) σ
      )
    )
  )
def f_X12_lifts (x1 : Int32) (x2 : Int32) (σ : Sto) : Option Sto :=
  if x1.toInt = 33 then (
    calv (f_X12_pops_ σ) fun v_2 s_2 =>
    calv (f_X12_makes (5 : Int32) v_2 (0 : Int32) s_2) fun v_3 s_3 =>
    cals (f_X12_lays v_3 s_3) fun s_4 =>
    some s_4
  ) else (
  if x1.toInt = 100 then (
    cals (f_X12_doubles σ) fun s_5 =>
    some s_5
  ) else (
  if x1.toInt = 105 then (
    calv (f_X12_makes (4 : Int32) (0 : Int32) (0 : Int32) σ) fun v_6 s_6 =>
    cals (f_X12_lays v_6 s_6) fun s_7 =>
    some s_7
  ) else (
  if x1.toInt = 107 then (
    calv (f_X12_makes (0 : Int32) x2 (0 : Int32) σ) fun v_8 s_8 =>
    cals (f_X12_lays v_8 s_8) fun s_9 =>
    some s_9
  ) else (
  if x1.toInt = 108 then (
    calv (f_X12_makes (1 : Int32) x2 (0 : Int32) σ) fun v_10 s_10 =>
    cals (f_X12_lays v_10 s_10) fun s_11 =>
    some s_11
  ) else (
  if x1.toInt = 110 then (
    calv (f_X12_pops_ σ) fun v_12 s_12 =>
    calv (f_X12_makes (6 : Int32) v_12 (0 : Int32) s_12) fun v_13 s_13 =>
    cals (f_X12_lays v_13 s_13) fun s_14 =>
    some s_14
  ) else (
  if x1.toInt = 112 then (
    calv (f_X12_pops_ σ) fun v_15 s_15 =>
    cals (f_X12_alone v_15 s_15) fun s_16 =>
    some s_16
  ) else (
  if x1.toInt = 119 then (
    cals (f_X12_changes σ) fun s_17 =>
    some s_17
  ) else (
    calp (f_X12_isOneOf_s108 x1) fun v_18 =>
    if v_18 = 0 then (
      cals (f_X12_tells x1 x2 σ) fun s_20 =>
      some s_20
    ) else (
      calv (f_X12_pops_ σ) fun v_21 s_21 =>
      calv (f_X12_pops_ s_21) fun v_22 s_22 =>
      calv (f_X12_makes x1 v_22 v_21 s_22) fun v_23 s_23 =>
      cals (f_X12_lays v_23 s_23) fun s_24 =>
      some s_24
    )
  )
  )
  )
  )
  )
  )
  )
  )
def f_X12_isForked (x1 : Int32) (σ : Sto) : Option Int32 :=
  ix 40 x1 <| lt (σ.1 23 x1.toNatClampNeg) fun v_1 =>
  ix 40 v_1 <| lt (σ.1 9 v_1.toNatClampNeg) fun v_2 =>
  jn (
    some (0 : Int32)
  ) fun k_52 =>
  if v_2 = 122 then (
    ix 40 x1 <| lt (σ.1 23 x1.toNatClampNeg) fun v_5 =>
    ix 40 (v_5 + 1) <| lt (σ.1 24 (v_5 + 1).toNatClampNeg) fun v_6 =>
    ix 40 x1 <| lt (σ.1 23 x1.toNatClampNeg) fun v_7 =>
    ix 40 v_7 <| lt (σ.1 10 v_7.toNatClampNeg) fun v_8 =>
    ix 40 v_8 <| lt (σ.1 24 v_8.toNatClampNeg) fun v_9 =>
    if v_6 = v_9 then (
      k_52
    ) else (
      some (1 : Int32)
    )
  ) else (
    k_52
  )
def f_X12_laysStatements  (σ : Sto) : Option Sto :=
  lt (sti σ 47 0 (0 : Int32)) fun s_1 =>
  lt (sti s_1 48 0 (0 : Int32)) fun s_2 =>
  lt (sti s_2 41 0 (0 : Int32)) fun s_3 =>
  lt (sti s_3 51 0 (0 : Int32)) fun s_4 =>
  itr (fun _ _ => none) (fun (a_22 : Int32 → Sto → Option Sto) (x1_5 : Int32) (s_5 : Sto) => (
    if (s_5.1 26 0) ≤ x1_5 then (
      ix 41 (s_5.1 26 0) <| lt (sti s_5 45 (s_5.1 26 0).toNatClampNeg (s_5.1 47 0)) fun s_7 =>
      some s_7
    ) else (
      ix 41 x1_5 <| lt (sti s_5 45 x1_5.toNatClampNeg (s_5.1 47 0)) fun s_8 =>
      ix 40 x1_5 <| lt (sti s_8 46 x1_5.toNatClampNeg (((-1) : Int32))) fun s_9 =>
      lt (sti s_9 50 0 (0 : Int32)) fun s_10 =>
      itr (fun _ _ => none) (fun (a_54 : Int32 → Sto → Option Sto) (x2_11 : Int32) (s_11 : Sto) => (
        ix 40 x1_5 <| lt (s_11.1 22 x1_5.toNatClampNeg) fun v_12 =>
        ix 40 v_12 <| lt (s_11.1 20 v_12.toNatClampNeg) fun v_13 =>
        if v_13 ≤ x2_11 then (
          lt (if (s_11.1 51 0) < (s_11.1 50 0) then (s_11.1 50 0) else (s_11.1 51 0)) fun v_15 =>
          lt (sti s_11 51 0 v_15) fun s_16 =>
          ix 40 x1_5 <| lt (s_16.1 22 x1_5.toNatClampNeg) fun v_17 =>
          itr (fun _ _ => none) (fun (a_108 : Int32 → Sto → Option Sto) (x2_18 : Int32) (s_18 : Sto) => (
            ix 40 x1_5 <| lt (s_18.1 23 x1_5.toNatClampNeg) fun v_19 =>
            if v_19 < x2_18 then (
              ix 40 x1_5 <| lt (s_18.1 23 x1_5.toNatClampNeg) fun v_21 =>
              ix 40 v_21 <| lt (s_18.1 9 v_21.toNatClampNeg) fun v_22 =>
              calp (f_X12_isOneOf_s109 v_22) fun v_23 =>
              jn (fun (s_24 : Sto) => (
                lt (x1_5 + 1) fun x1_25 =>
                a_22 x1_25 s_24
              )) fun k_231 =>
              if v_23 = 0 then (
                lt (if (s_18.1 51 0) < (s_18.1 50 0) then (s_18.1 50 0) else (s_18.1 51 0)) fun v_27 =>
                lt (sti s_18 51 0 v_27) fun s_28 =>
                cals (f_X12_endsBlock x1_5 s_28) fun s_29 =>
                k_231 s_29
              ) else (
                k_231 s_18
              )
            ) else (
              ix 40 x2_18 <| lt (s_18.1 9 x2_18.toNatClampNeg) fun v_30 =>
              jn (fun (s_31 : Sto) => (
                lt (x2_18 + 1) fun x2_32 =>
                a_108 x2_32 s_31
              )) fun k_182 =>
              jn (
                ix 40 x2_18 <| lt (s_18.1 9 x2_18.toNatClampNeg) fun v_34 =>
                jn (fun (t0_35 : Int32) => (
                  ix 40 x2_18 <| lt (s_18.1 10 x2_18.toNatClampNeg) fun v_36 =>
                  cals (f_X12_lifts t0_35 v_36 s_18) fun s_37 =>
                  k_182 s_37
                )) fun k_173 =>
                if v_34 = 122 then (
                  k_173 (112 : Int32)
                ) else (
                  ix 40 x2_18 <| lt (s_18.1 9 x2_18.toNatClampNeg) fun v_39 =>
                  k_173 v_39
                )
              ) fun k_150 =>
              if v_30 = 122 then (
                calp (f_X12_isForked x1_5 s_18) fun v_41 =>
                if v_41 = 0 then (
                  k_150
                ) else (
                  calv (f_X12_pops_ s_18) fun v_43 s_43 =>
                  ix 40 x1_5 <| lt (sti s_43 46 x1_5.toNatClampNeg v_43) fun s_44 =>
                  k_182 s_44
                )
              ) else (
                k_150
              )
            )
          )) LF v_17 s_16
        ) else (
          calv (f_X12_makes (2 : Int32) x2_11 (0 : Int32) s_11) fun v_45 s_45 =>
          cals (f_X12_lays v_45 s_45) fun s_46 =>
          lt (x2_11 + 1) fun x2_47 =>
          a_54 x2_47 s_46
        )
      )) LF (0 : Int32) s_10
    )
  )) LF (0 : Int32) s_4
def f_X12_isTruth (x1 : Int32) (σ : Sto) : Option Int32 :=
  ix 6000 x1 <| lt (σ.1 38 x1.toNatClampNeg) fun v_1 =>
  if v_1.toInt = 0 then (
    ix 6000 x1 <| lt (σ.1 39 x1.toNatClampNeg) fun v_3 =>
    if 2 ≤ v_3 then (
      some (0 : Int32)
    ) else (
      some (1 : Int32)
    )
  ) else (
  if v_1.toInt = 1 then (
    ix 6000 x1 <| lt (σ.1 39 x1.toNatClampNeg) fun v_5 =>
    ix 6 v_5 <| lt (σ.1 52 v_5.toNatClampNeg) fun v_6 =>
    bz v_6 <|
    some v_6
  ) else (
  if v_1.toInt = 2 then (
    ix 6000 x1 <| lt (σ.1 39 x1.toNatClampNeg) fun v_8 =>
    ix 8 v_8 <| lt (σ.1 53 v_8.toNatClampNeg) fun v_9 =>
    bz v_9 <|
    some v_9
  ) else (
  if v_1.toInt = 3 then (
    ix 6000 x1 <| lt (σ.1 39 x1.toNatClampNeg) fun v_11 =>
    ix 400 v_11 <| lt (σ.1 54 v_11.toNatClampNeg) fun v_12 =>
    bz v_12 <|
    some v_12
  ) else (
    ix 6000 x1 <| lt (σ.1 38 x1.toNatClampNeg) fun v_14 =>
    jn (
      some (1 : Int32)
    ) fun k_120 =>
    if v_14 = 5 then (
      k_120
    ) else (
      ix 6000 x1 <| lt (σ.1 38 x1.toNatClampNeg) fun v_17 =>
      if v_17 = 60 then (
        k_120
      ) else (
        ix 6000 x1 <| lt (σ.1 38 x1.toNatClampNeg) fun v_19 =>
        if v_19 = 61 then (
          k_120
        ) else (
          some (0 : Int32)
        )
      )
    )
  )
  )
  )
  )
def f_X12_isLess (x1 : Int32) (σ : Sto) : Option (Int32 × Sto) :=
  ix 400 x1 <| lt (σ.1 42 x1.toNatClampNeg) fun v_1 =>
  if 2 < v_1 then (
    some ((0 : Int32), σ)
  ) else (
    ix 400 x1 <| lt (σ.1 44 x1.toNatClampNeg) fun v_3 =>
    calp (f_X12_isTruth v_3 σ) fun v_4 =>
    if v_4 = 0 then (
      ix 400 x1 <| lt (σ.1 42 x1.toNatClampNeg) fun v_6 =>
      if v_6 = 0 then (
        ix 400 x1 <| lt (σ.1 43 x1.toNatClampNeg) fun v_8 =>
        ix 6 v_8 <| lt (σ.1 52 v_8.toNatClampNeg) fun v_9 =>
        ix 400 x1 <| lt (σ.1 43 x1.toNatClampNeg) fun v_10 =>
        ix 6 v_10 <| lt (sti σ 52 v_10.toNatClampNeg (0 : Int32)) fun s_11 =>
        bz v_9 <|
        some (v_9, s_11)
      ) else (
        ix 400 x1 <| lt (σ.1 42 x1.toNatClampNeg) fun v_13 =>
        if v_13 = 1 then (
          ix 400 x1 <| lt (σ.1 43 x1.toNatClampNeg) fun v_15 =>
          ix 8 v_15 <| lt (σ.1 53 v_15.toNatClampNeg) fun v_16 =>
          ix 400 x1 <| lt (σ.1 43 x1.toNatClampNeg) fun v_17 =>
          ix 8 v_17 <| lt (sti σ 53 v_17.toNatClampNeg (0 : Int32)) fun s_18 =>
          bz v_16 <|
          some (v_16, s_18)
        ) else (
          ix 400 x1 <| lt (σ.1 43 x1.toNatClampNeg) fun v_20 =>
          ix 400 v_20 <| lt (σ.1 54 v_20.toNatClampNeg) fun v_21 =>
          ix 400 x1 <| lt (σ.1 43 x1.toNatClampNeg) fun v_22 =>
          ix 400 v_22 <| lt (sti σ 54 v_22.toNatClampNeg (0 : Int32)) fun s_23 =>
          bz v_21 <|
          some (v_21, s_23)
        )
      )
    ) else (
      some ((0 : Int32), σ)
    )
  )
def f_X12_laysTypes  (σ : Sto) : Option Sto :=
  itr (fun _ _ => none) (fun (a_2 : Int32 → Sto → Option Sto) (x1_1 : Int32) (s_1 : Sto) => (
    if 6 ≤ x1_1 then (
      itr (fun _ _ => none) (fun (a_32 : Int32 → Sto → Option Sto) (x1_3 : Int32) (s_3 : Sto) => (
        if 8 ≤ x1_3 then (
          itr (fun _ _ => none) (fun (a_53 : Int32 → Sto → Option Sto) (x1_5 : Int32) (s_5 : Sto) => (
            if (s_5.1 48 0) ≤ x1_5 then (
              itr (fun _ _ => none) (fun (a_76 : Int32 → Sto → Option Sto) (x1_7 : Int32) (s_7 : Sto) => (
                if (s_7.1 32 0) ≤ x1_7 then (
                  itr (fun _ _ => none) (fun (a_108 : Int32 → Sto → Option Sto) (x1_9 : Int32) (s_9 : Sto) => (
                    if x1_9 = 0 then (
                      some s_9
                    ) else (
                      itr (fun _ _ _ => none) (fun (a_116 : Int32 → Int32 → Sto → Option Sto) (x1_11 : Int32) (x2_11 : Int32) (s_11 : Sto) => (
                        if (s_11.1 47 0) ≤ x2_11 then (
                          a_108 x1_11 s_11
                        ) else (
                          calv (f_X12_isLess x2_11 s_11) fun v_13 s_13 =>
                          jn (fun (t0_14 : Int32) => (
                            lt (x2_11 + 1) fun x2_15 =>
                            a_116 t0_14 x2_15 s_13
                          )) fun k_141 =>
                          jn (
                            k_141 (1 : Int32)
                          ) fun k_136 =>
                          if v_13 = 0 then (
                            if x1_11 = 0 then (
                              k_141 (0 : Int32)
                            ) else (
                              k_136
                            )
                          ) else (
                            k_136
                          )
                        )
                      )) LF (0 : Int32) (0 : Int32) s_9
                    )
                  )) LF (1 : Int32) s_7
                ) else (
                  ix 120 x1_7 <| lt (s_7.1 29 x1_7.toNatClampNeg) fun v_19 =>
                  jn (fun (s_20 : Sto) => (
                    lt (x1_7 + 1) fun x1_21 =>
                    a_76 x1_21 s_20
                  )) fun k_100 =>
                  if v_19 = 0 then (
                    k_100 s_7
                  ) else (
                    ix 8 (0 : Int32) <| lt (sti s_7 53 (0 : Int32).toNatClampNeg (0 : Int32)) fun s_23 =>
                    k_100 s_23
                  )
                )
              )) LF (0 : Int32) s_5
            ) else (
              ix 400 x1_5 <| lt (sti s_5 54 x1_5.toNatClampNeg (1 : Int32)) fun s_24 =>
              lt (x1_5 + 1) fun x1_25 =>
              a_53 x1_25 s_24
            )
          )) LF (0 : Int32) s_3
        ) else (
          ix 8 x1_3 <| lt (sti s_3 53 x1_3.toNatClampNeg (1 : Int32)) fun s_26 =>
          lt (x1_3 + 1) fun x1_27 =>
          a_32 x1_27 s_26
        )
      )) LF (0 : Int32) s_1
    ) else (
      jn (fun (t0_28 : Int32) => (
        bz t0_28 <|
        ix 6 x1_1 <| lt (sti s_1 52 x1_1.toNatClampNeg t0_28) fun s_29 =>
        lt (x1_1 + 1) fun x1_31 =>
        a_2 x1_31 s_29
      )) fun k_23 =>
      if x1_1 ≤ 1 then (
        k_23 (0 : Int32)
      ) else (
        k_23 (1 : Int32)
      )
    )
  )) LF (0 : Int32) σ
def f_X12_behind (x1 : Int32) (σ : Sto) : Option Int32 :=
  itr (fun _ _ => none) (fun (a_4 : Int32 → Int32 → Option Int32) (x2_1 : Int32) (x3_1 : Int32) => (
    if (σ.1 32 0) ≤ x3_1 then (
      some x2_1
    ) else (
      ix 120 x3_1 <| lt (σ.1 27 x3_1.toNatClampNeg) fun v_3 =>
      jn (fun (t0_4 : Int32) => (
        lt (x2_1 ||| t0_4) fun x2_5 =>
        lt (x3_1 + 1) fun x3_6 =>
        a_4 x2_5 x3_6
      )) fun k_38 =>
      if v_3 = x1 then (
        ix 120 x3_1 <| lt (σ.1 28 x3_1.toNatClampNeg) fun v_8 =>
        ix 40 v_8 <| lt (σ.1 55 v_8.toNatClampNeg) fun v_9 =>
        k_38 v_9
      ) else (
        k_38 (0 : Int32)
      )
    )
  )) LF (0 : Int32) (0 : Int32)
def f_X12_liveAhead (x1 : Int32) (σ : Sto) : Option (Int32 × Sto) :=
  ix 40 x1 <| lt (σ.1 25 x1.toNatClampNeg) fun v_1 =>
  jn (fun (t0_2 : Int32) => (
    calp (f_X12_behind x1 σ) fun v_3 =>
    ix 40 x1 <| lt (σ.1 23 x1.toNatClampNeg) fun v_4 =>
    itr (fun _ _ _ => none) (fun (a_40 : Int32 → Int32 → Sto → Option (Int32 × Sto)) (x3_5 : Int32) (x4_5 : Int32) (s_5 : Sto) => (
      ix 40 x1 <| lt (s_5.1 22 x1.toNatClampNeg) fun v_6 =>
      if x4_5 < v_6 then (
        some ((x3_5 ||| t0_2), s_5)
      ) else (
        ix 40 x4_5 <| lt (s_5.1 9 x4_5.toNatClampNeg) fun v_8 =>
        jn (fun (x3_9 : Int32) (s_9 : Sto) => (
          ix 40 x4_5 <| lt (s_9.1 9 x4_5.toNatClampNeg) fun v_10 =>
          jn (fun (x3_11 : Int32) => (
            lt (x4_5 + (-1)) fun x4_12 =>
            a_40 x3_11 x4_12 s_9
          )) fun k_129 =>
          if v_10 = 108 then (
            ix 40 x4_5 <| lt (s_9.1 10 x4_5.toNatClampNeg) fun v_14 =>
            lt (x3_9 ||| ((1 : Int32) <<< (v_14 &&& 31))) fun x3_15 =>
            k_129 x3_15
          ) else (
            k_129 x3_9
          )
        )) fun k_105 =>
        if v_8 = 115 then (
          ix 40 x4_5 <| lt (s_5.1 10 x4_5.toNatClampNeg) fun v_17 =>
          jn (fun (t0_18 : Int32) => (
            bz t0_18 <|
            ix 40 x4_5 <| lt (sti s_5 57 x4_5.toNatClampNeg t0_18) fun s_19 =>
            ix 40 x4_5 <| lt (s_19.1 10 x4_5.toNatClampNeg) fun v_21 =>
            lt ((x3_5 &&& (((1 : Int32) <<< (v_21 &&& 31)) ^^^ (-1))) ||| t0_2) fun x3_22 =>
            k_105 x3_22 s_19
          )) fun k_88 =>
          if ((x3_5 >>> (v_17 &&& 31)) &&& 1) = 0 then (
            k_88 (1 : Int32)
          ) else (
            k_88 (0 : Int32)
          )
        ) else (
          k_105 x3_5 s_5
        )
      )
    )) LF v_3 v_4 σ
  )) fun k_25 =>
  if v_1 = (-1) then (
    k_25 (0 : Int32)
  ) else (
    ix 40 x1 <| lt (σ.1 25 x1.toNatClampNeg) fun v_25 =>
    ix 40 v_25 <| lt (σ.1 55 v_25.toNatClampNeg) fun v_26 =>
    k_25 v_26
  )
def f_X12_laysLive  (σ : Sto) : Option Sto :=
  itr (fun _ _ => none) (fun (a_2 : Int32 → Sto → Option Sto) (x1_1 : Int32) (s_1 : Sto) => (
    if (s_1.1 26 0) ≤ x1_1 then (
      itr (fun _ _ => none) (fun (a_25 : Int32 → Sto → Option Sto) (x1_3 : Int32) (s_3 : Sto) => (
        if 40 ≤ x1_3 then (
          itr (fun _ _ => none) (fun (a_46 : Int32 → Sto → Option Sto) (x1_5 : Int32) (s_5 : Sto) => (
            if x1_5 = 0 then (
              itr (fun _ _ => none) (fun (a_107 : Int32 → Sto → Option Sto) (x2_7 : Int32) (s_7 : Sto) => (
                if (s_7.1 26 0) ≤ x2_7 then (
                  some s_7
                ) else (
                  calp (f_X12_behind x2_7 s_7) fun v_9 =>
                  ix 40 x2_7 <| lt (sti s_7 56 x2_7.toNatClampNeg v_9) fun s_10 =>
                  lt (x2_7 + 1) fun x2_11 =>
                  a_107 x2_11 s_10
                )
              )) LF (0 : Int32) s_5
            ) else (
              lt ((s_5.1 26 0) - 1) fun x2_12 =>
              itr (fun _ _ _ => none) (fun (a_59 : Int32 → Int32 → Sto → Option Sto) (x1_13 : Int32) (x2_13 : Int32) (s_13 : Sto) => (
                if x2_13 < 0 then (
                  a_46 x1_13 s_13
                ) else (
                  calv (f_X12_liveAhead x2_13 s_13) fun v_15 s_15 =>
                  jn (fun (t0_16 : Int32) => (
                    ix 40 x2_13 <| lt (sti s_15 55 x2_13.toNatClampNeg v_15) fun s_17 =>
                    lt (x2_13 + (-1)) fun x2_18 =>
                    a_59 t0_16 x2_18 s_17
                  )) fun k_88 =>
                  jn (
                    k_88 (1 : Int32)
                  ) fun k_83 =>
                  if x1_13 = 0 then (
                    ix 40 x2_13 <| lt (s_15.1 55 x2_13.toNatClampNeg) fun v_21 =>
                    if v_15 = v_21 then (
                      k_88 (0 : Int32)
                    ) else (
                      k_83
                    )
                  ) else (
                    k_83
                  )
                )
              )) LF (0 : Int32) x2_12 s_5
            )
          )) LF (1 : Int32) s_3
        ) else (
          ix 40 x1_3 <| lt (sti s_3 57 x1_3.toNatClampNeg (0 : Int32)) fun s_23 =>
          lt (x1_3 + 1) fun x1_24 =>
          a_25 x1_24 s_23
        )
      )) LF (0 : Int32) s_1
    ) else (
      ix 40 x1_1 <| lt (sti s_1 55 x1_1.toNatClampNeg (0 : Int32)) fun s_25 =>
      lt (x1_1 + 1) fun x1_26 =>
      a_2 x1_26 s_25
    )
  )) LF (0 : Int32) σ
def f_X12_line (x1 : Int32) (x2 : Int32) (x3 : Int32) (σ : Sto) : Option Sto :=
  ix 1400 (σ.1 62 0) <| lt (sti σ 58 (σ.1 62 0).toNatClampNeg x1) fun s_1 =>
  ix 1400 (s_1.1 62 0) <| lt (sti s_1 59 (s_1.1 62 0).toNatClampNeg x2) fun s_2 =>
  ix 1400 (s_2.1 62 0) <| lt (sti s_2 61 (s_2.1 62 0).toNatClampNeg x3) fun s_3 =>
  ix 1400 (s_3.1 62 0) <| lt (sti s_3 60 (s_3.1 62 0).toNatClampNeg (s_3.1 63 0)) fun s_4 =>
  lt (sti s_4 62 0 ((s_4.1 62 0) + 1)) fun s_5 =>
  some s_5
def f_X12_edgeOf (x1 : Int32) (x2 : Int32) (σ : Sto) : Option Int32 :=
  itr (fun _ => none) (fun (a_2 : Int32 → Option Int32) (x3_1 : Int32) => (
    ix 120 x3_1 <| lt (σ.1 27 x3_1.toNatClampNeg) fun v_2 =>
    jn (
      lt (x3_1 + 1) fun x3_4 =>
      a_2 x3_4
    ) fun k_22 =>
    if v_2 = x1 then (
      ix 120 x3_1 <| lt (σ.1 28 x3_1.toNatClampNeg) fun v_6 =>
      if v_6 = x2 then (
        some x3_1
      ) else (
        k_22
      )
    ) else (
      k_22
    )
  )) LF (0 : Int32)
def f_X12_isMerge (x1 : Int32) (σ : Sto) : Option Int32 :=
  itr (fun _ _ => none) (fun (a_4 : Int32 → Int32 → Option Int32) (x2_1 : Int32) (x3_1 : Int32) => (
    if (σ.1 32 0) ≤ x3_1 then (
      if x2_1 ≤ 1 then (
        some (0 : Int32)
      ) else (
        some (1 : Int32)
      )
    ) else (
      ix 120 x3_1 <| lt (σ.1 28 x3_1.toNatClampNeg) fun v_4 =>
      jn (fun (x2_5 : Int32) => (
        lt (x3_1 + 1) fun x3_6 =>
        a_4 x2_5 x3_6
      )) fun k_62 =>
      if v_4 = x1 then (
        ix 120 x3_1 <| lt (σ.1 30 x3_1.toNatClampNeg) fun v_8 =>
        if v_8 = 0 then (
          ix 120 x3_1 <| lt (σ.1 29 x3_1.toNatClampNeg) fun v_10 =>
          if v_10 = 0 then (
            ix 120 x3_1 <| lt (σ.1 31 x3_1.toNatClampNeg) fun v_12 =>
            jn (fun (t0_13 : Int32) => (
              lt (x2_1 + t0_13) fun x2_14 =>
              k_62 x2_14
            )) fun k_60 =>
            if v_12 = 0 then (
              k_60 (1 : Int32)
            ) else (
              k_60 (0 : Int32)
            )
          ) else (
            some (1 : Int32)
          )
        ) else (
          k_62 x2_1
        )
      ) else (
        k_62 x2_1
      )
    )
  )) LF (0 : Int32) (0 : Int32)
def f_X12_opens (x1 : Int32) (x2 : Int32) (σ : Sto) : Option Sto :=
  cals (f_X12_line x1 x2 ((-1) : Int32) σ) fun s_1 =>
  lt (sti s_1 63 0 ((s_1.1 63 0) + 1)) fun s_2 =>
  some s_2
def f_X12_closes (x1 : Int32) (x2 : Int32) (σ : Sto) : Option Sto :=
  lt (sti σ 63 0 ((σ.1 63 0) - 1)) fun s_1 =>
  cals (f_X12_line (5 : Int32) x1 x2 s_1) fun s_2 =>
  some s_2
def b_X12_goes (q_X12_goes : Int32 → Int32 → Sto → Option Sto) (q_X12_inner : Int32 → Sto → Option Sto) (q_X12_merges : Int32 → Int32 → Sto → Option Sto) (q_X12_tells_ : Int32 → Sto → Option Sto) (x1 : Int32) (x2 : Int32) (σ : Sto) : Option Sto :=
  calp (f_X12_edgeOf x1 x2 σ) fun v_1 =>
  ix 120 v_1 <| lt (σ.1 30 v_1.toNatClampNeg) fun v_2 =>
  if v_2 = 0 then (
    ix 120 v_1 <| lt (σ.1 31 v_1.toNatClampNeg) fun v_4 =>
    if v_4 = 0 then (
      calp (f_X12_isMerge x2 σ) fun v_6 =>
      if v_6 = 0 then (
        cals (q_X12_tells_ x2 σ) fun s_8 =>
        some s_8
      ) else (
        cals (f_X12_line (6 : Int32) x2 ((-1) : Int32) σ) fun s_9 =>
        some s_9
      )
    ) else (
      cals (f_X12_line (7 : Int32) x2 ((-1) : Int32) σ) fun s_10 =>
      some s_10
    )
  ) else (
    cals (f_X12_line (8 : Int32) x2 ((-1) : Int32) σ) fun s_11 =>
    some s_11
  )
def b_X12_inner (q_X12_goes : Int32 → Int32 → Sto → Option Sto) (q_X12_inner : Int32 → Sto → Option Sto) (q_X12_merges : Int32 → Int32 → Sto → Option Sto) (q_X12_tells_ : Int32 → Sto → Option Sto) (x1 : Int32) (σ : Sto) : Option Sto :=
  cals (f_X12_line (11 : Int32) x1 ((-1) : Int32) σ) fun s_1 =>
  ix 40 x1 <| lt (s_1.1 25 x1.toNatClampNeg) fun v_2 =>
  jn (fun (t0_3 : Int32) => (
    jn (fun (s_4 : Sto) => (
      ix 41 x1 <| lt (s_4.1 45 x1.toNatClampNeg) fun v_5 =>
      itr (fun _ _ => none) (fun (a_42 : Int32 → Sto → Option Sto) (x3_6 : Int32) (s_6 : Sto) => (
        ix 41 (x1 + 1) <| lt (s_6.1 45 (x1 + 1).toNatClampNeg) fun v_7 =>
        if v_7 ≤ x3_6 then (
          jn (fun (s_9 : Sto) => (
            ix 40 x1 <| lt (s_9.1 23 x1.toNatClampNeg) fun v_10 =>
            ix 40 v_10 <| lt (s_9.1 9 v_10.toNatClampNeg) fun v_11 =>
            calp (f_X12_isForked x1 s_9) fun v_12 =>
            if v_12 = 0 then (
              if v_11 = 103 then (
                ix 40 x1 <| lt (s_9.1 23 x1.toNatClampNeg) fun v_15 =>
                ix 40 v_15 <| lt (s_9.1 10 v_15.toNatClampNeg) fun v_16 =>
                ix 40 v_16 <| lt (s_9.1 24 v_16.toNatClampNeg) fun v_17 =>
                cals (q_X12_goes x1 v_17 s_9) fun s_18 =>
                some s_18
              ) else (
                calp (f_X12_goesOn v_11) fun v_19 =>
                if v_19 = 0 then (
                  some s_9
                ) else (
                  ix 40 x1 <| lt (s_9.1 23 x1.toNatClampNeg) fun v_21 =>
                  ix 40 (v_21 + 1) <| lt (s_9.1 24 (v_21 + 1).toNatClampNeg) fun v_22 =>
                  cals (q_X12_goes x1 v_22 s_9) fun s_23 =>
                  some s_23
                )
              )
            ) else (
              cals (f_X12_opens (3 : Int32) x1 s_9) fun s_24 =>
              ix 40 x1 <| lt (s_24.1 23 x1.toNatClampNeg) fun v_25 =>
              ix 40 (v_25 + 1) <| lt (s_24.1 24 (v_25 + 1).toNatClampNeg) fun v_26 =>
              cals (q_X12_goes x1 v_26 s_24) fun s_27 =>
              lt (sti s_27 63 0 ((s_27.1 63 0) - 1)) fun s_28 =>
              cals (f_X12_opens (4 : Int32) x1 s_28) fun s_29 =>
              ix 40 x1 <| lt (s_29.1 23 x1.toNatClampNeg) fun v_30 =>
              ix 40 v_30 <| lt (s_29.1 10 v_30.toNatClampNeg) fun v_31 =>
              ix 40 v_31 <| lt (s_29.1 24 v_31.toNatClampNeg) fun v_32 =>
              cals (q_X12_goes x1 v_32 s_29) fun s_33 =>
              cals (f_X12_closes x1 (3 : Int32) s_33) fun s_34 =>
              some s_34
            )
          )) fun k_94 =>
          if t0_3 = 0 then (
            k_94 s_6
          ) else (
            lt (sti s_6 63 0 ((s_6.1 63 0) - 1)) fun s_36 =>
            ix 40 x1 <| lt (s_36.1 25 x1.toNatClampNeg) fun v_37 =>
            cals (f_X12_line (10 : Int32) v_37 x1 s_36) fun s_38 =>
            k_94 s_38
          )
        ) else (
          cals (f_X12_line (0 : Int32) x1 x3_6 s_6) fun s_39 =>
          lt (x3_6 + 1) fun x3_40 =>
          a_42 x3_40 s_39
        )
      )) LF v_5 s_4
    )) fun k_35 =>
    if t0_3 = 0 then (
      k_35 s_1
    ) else (
      cals (f_X12_opens (9 : Int32) x1 s_1) fun s_42 =>
      k_35 s_42
    )
  )) fun k_23 =>
  if v_2 = (-1) then (
    k_23 (0 : Int32)
  ) else (
    k_23 (1 : Int32)
  )
def b_X12_merges (q_X12_goes : Int32 → Int32 → Sto → Option Sto) (q_X12_inner : Int32 → Sto → Option Sto) (q_X12_merges : Int32 → Int32 → Sto → Option Sto) (q_X12_tells_ : Int32 → Sto → Option Sto) (x1 : Int32) (x2 : Int32) (σ : Sto) : Option Sto :=
  itr (fun _ _ => none) (fun (a_5 : Int32 → Int32 → Option Sto) (x3_1 : Int32) (x4_1 : Int32) => (
    if (σ.1 26 0) ≤ x4_1 then (
      if x3_1 = (-1) then (
        cals (q_X12_inner x1 σ) fun s_4 =>
        some s_4
      ) else (
        cals (f_X12_opens (2 : Int32) x3_1 σ) fun s_5 =>
        ix 40 x3_1 <| lt (s_5.1 33 x3_1.toNatClampNeg) fun v_6 =>
        cals (q_X12_merges x1 v_6 s_5) fun s_7 =>
        cals (f_X12_closes x3_1 (2 : Int32) s_7) fun s_8 =>
        cals (q_X12_tells_ x3_1 s_8) fun s_9 =>
        some s_9
      )
    ) else (
      ix 40 x4_1 <| lt (σ.1 34 x4_1.toNatClampNeg) fun v_10 =>
      jn (fun (x3_11 : Int32) => (
        lt (x4_1 + 1) fun x4_12 =>
        a_5 x3_11 x4_12
      )) fun k_69 =>
      if v_10 = x1 then (
        calp (f_X12_isMerge x4_1 σ) fun v_14 =>
        if v_14 = 0 then (
          k_69 x3_1
        ) else (
          ix 40 x4_1 <| lt (σ.1 33 x4_1.toNatClampNeg) fun v_16 =>
          if x2 ≤ v_16 then (
            k_69 x3_1
          ) else (
            jn (
              k_69 x4_1
            ) fun k_66 =>
            if x3_1 = (-1) then (
              k_66
            ) else (
              ix 40 x4_1 <| lt (σ.1 33 x4_1.toNatClampNeg) fun v_20 =>
              ix 40 x3_1 <| lt (σ.1 33 x3_1.toNatClampNeg) fun v_21 =>
              if v_20 ≤ v_21 then (
                k_69 x3_1
              ) else (
                k_66
              )
            )
          )
        )
      ) else (
        k_69 x3_1
      )
    )
  )) LF ((-1) : Int32) (0 : Int32)
def b_X12_tells_ (q_X12_goes : Int32 → Int32 → Sto → Option Sto) (q_X12_inner : Int32 → Sto → Option Sto) (q_X12_merges : Int32 → Int32 → Sto → Option Sto) (q_X12_tells_ : Int32 → Sto → Option Sto) (x1 : Int32) (σ : Sto) : Option Sto :=
  ix 40 x1 <| lt (σ.2 1 x1.toNatClampNeg) fun v_1 =>
  jn (fun (s_2 : Sto) => (
    cals (q_X12_merges x1 (s_2.1 26 0) s_2) fun s_3 =>
    ix 40 x1 <| lt (s_3.2 1 x1.toNatClampNeg) fun v_4 =>
    if (lg_cmp v_4 (0 : Int64)) = 0 then (
      some s_3
    ) else (
      cals (f_X12_closes x1 (1 : Int32) s_3) fun s_6 =>
      some s_6
    )
  )) fun k_17 =>
  if (lg_cmp v_1 (0 : Int64)) = 0 then (
    k_17 σ
  ) else (
    cals (f_X12_opens (1 : Int32) x1 σ) fun s_8 =>
    k_17 s_8
  )
def g_X12_goes : Nat → (Int32 → Int32 → Sto → Option Sto) × (Int32 → Sto → Option Sto) × (Int32 → Int32 → Sto → Option Sto) × (Int32 → Sto → Option Sto)
  | 0 => (fun _ _ _ => none, fun _ _ => none, fun _ _ _ => none, fun _ _ => none)
  | d + 1 => (b_X12_goes (g_X12_goes d).1 (g_X12_goes d).2.1 (g_X12_goes d).2.2.1 (g_X12_goes d).2.2.2, b_X12_inner (g_X12_goes d).1 (g_X12_goes d).2.1 (g_X12_goes d).2.2.1 (g_X12_goes d).2.2.2, b_X12_merges (g_X12_goes d).1 (g_X12_goes d).2.1 (g_X12_goes d).2.2.1 (g_X12_goes d).2.2.2, b_X12_tells_ (g_X12_goes d).1 (g_X12_goes d).2.1 (g_X12_goes d).2.2.1 (g_X12_goes d).2.2.2)
def f_X12_goes (d : Nat) : Int32 → Int32 → Sto → Option Sto := (g_X12_goes d).1
def f_X12_inner (d : Nat) : Int32 → Sto → Option Sto := (g_X12_goes d).2.1
def f_X12_merges (d : Nat) : Int32 → Int32 → Sto → Option Sto := (g_X12_goes d).2.2.1
def f_X12_tells_ (d : Nat) : Int32 → Sto → Option Sto := (g_X12_goes d).2.2.2
def f_X12_thins  (σ : Sto) : Option Sto :=
  itr (fun _ _ _ => none) (fun (a_4 : Int32 → Int32 → Sto → Option Sto) (x1_1 : Int32) (x2_1 : Int32) (s_1 : Sto) => (
    if (s_1.1 62 0) ≤ x2_1 then (
      lt (sti s_1 62 0 x1_1) fun s_3 =>
      some s_3
    ) else (
      ix 1400 x2_1 <| lt (s_1.1 64 x2_1.toNatClampNeg) fun v_4 =>
      jn (fun (x1_5 : Int32) (s_5 : Sto) => (
        lt (x2_1 + 1) fun x2_6 =>
        a_4 x1_5 x2_6 s_5
      )) fun k_75 =>
      if v_4 = 0 then (
        ix 1400 x2_1 <| lt (s_1.1 58 x2_1.toNatClampNeg) fun v_8 =>
        ix 1400 x1_1 <| lt (sti s_1 58 x1_1.toNatClampNeg v_8) fun s_9 =>
        ix 1400 x2_1 <| lt (s_9.1 59 x2_1.toNatClampNeg) fun v_10 =>
        ix 1400 x1_1 <| lt (sti s_9 59 x1_1.toNatClampNeg v_10) fun s_11 =>
        ix 1400 x2_1 <| lt (s_11.1 61 x2_1.toNatClampNeg) fun v_12 =>
        ix 1400 x1_1 <| lt (sti s_11 61 x1_1.toNatClampNeg v_12) fun s_13 =>
        ix 1400 x2_1 <| lt (s_13.1 60 x2_1.toNatClampNeg) fun v_14 =>
        ix 1400 x1_1 <| lt (sti s_13 60 x1_1.toNatClampNeg v_14) fun s_15 =>
        lt (x1_1 + 1) fun x1_16 =>
        k_75 x1_16 s_15
      ) else (
        k_75 x1_1 s_1
      )
    )
  )) LF (0 : Int32) (0 : Int32) σ
def f_X12_endOfIf (x1 : Int32) (σ : Sto) : Option Int32 :=
  lt (x1 + 1) fun x2_1 =>
  itr (fun _ => none) (fun (a_4 : Int32 → Option Int32) (x2_2 : Int32) => (
    ix 1400 x2_2 <| lt (σ.1 58 x2_2.toNatClampNeg) fun v_3 =>
    jn (
      lt (x2_2 + 1) fun x2_5 =>
      a_4 x2_5
    ) fun k_39 =>
    if v_3 = 5 then (
      ix 1400 x2_2 <| lt (σ.1 61 x2_2.toNatClampNeg) fun v_7 =>
      if v_7 = 3 then (
        ix 1400 x2_2 <| lt (σ.1 59 x2_2.toNatClampNeg) fun v_9 =>
        ix 1400 x1 <| lt (σ.1 59 x1.toNatClampNeg) fun v_10 =>
        if v_9 = v_10 then (
          some x2_2
        ) else (
          k_39
        )
      ) else (
        k_39
      )
    ) else (
      k_39
    )
  )) LF x2_1
def f_X12_isIdle (x1 : Int32) (σ : Sto) : Option Int32 :=
  lt (x1 + 1) fun x2_1 =>
  itr (fun _ => none) (fun (a_4 : Int32 → Option Int32) (x2_2 : Int32) => (
    if (σ.1 62 0) ≤ x2_2 then (
      some (0 : Int32)
    ) else (
      ix 1400 x2_2 <| lt (σ.1 58 x2_2.toNatClampNeg) fun v_4 =>
      jn (
        ix 1400 x2_2 <| lt (σ.1 58 x2_2.toNatClampNeg) fun v_6 =>
        jn (
          ix 1400 x2_2 <| lt (σ.1 58 x2_2.toNatClampNeg) fun v_8 =>
          jn (fun (t0_9 : Int32) => (
            a_4 t0_9
          )) fun k_92 =>
          if v_8 = 4 then (
            calp (f_X12_endOfIf x2_2 σ) fun v_11 =>
            k_92 (v_11 + 1)
          ) else (
            k_92 (x2_2 + 1)
          )
        ) fun k_69 =>
        if v_6 = 5 then (
          ix 1400 x2_2 <| lt (σ.1 61 x2_2.toNatClampNeg) fun v_13 =>
          if v_13 = 2 then (
            ix 1400 x2_2 <| lt (σ.1 59 x2_2.toNatClampNeg) fun v_15 =>
            ix 1400 x1 <| lt (σ.1 59 x1.toNatClampNeg) fun v_16 =>
            if v_15 = v_16 then (
              some (1 : Int32)
            ) else (
              k_69
            )
          ) else (
            k_69
          )
        ) else (
          k_69
        )
      ) fun k_32 =>
      if v_4 = 5 then (
        k_32
      ) else (
        ix 1400 x2_2 <| lt (σ.1 58 x2_2.toNatClampNeg) fun v_19 =>
        if v_19 = 4 then (
          k_32
        ) else (
          some (0 : Int32)
        )
      )
    )
  )) LF x2_1
def f_X12_laysLines  (σ : Sto) : Option Sto :=
  lt (sti σ 62 0 (0 : Int32)) fun s_1 =>
  lt (sti s_1 63 0 (0 : Int32)) fun s_2 =>
  if (s_2.1 36 0) = (-1) then (
    some s_2
  ) else (
    cals (f_X12_tells_ 250 (0 : Int32) s_2) fun s_4 =>
    itr (fun _ _ => none) (fun (a_26 : Int32 → Sto → Option Sto) (x1_5 : Int32) (s_5 : Sto) => (
      if (s_5.1 62 0) ≤ x1_5 then (
        cals (f_X12_thins s_5) fun s_7 =>
        itr (fun _ _ => none) (fun (a_76 : Int32 → Sto → Option Sto) (x1_8 : Int32) (s_8 : Sto) => (
          if (s_8.1 62 0) ≤ x1_8 then (
            cals (f_X12_thins s_8) fun s_10 =>
            some s_10
          ) else (
            ix 1400 x1_8 <| lt (s_8.1 58 x1_8.toNatClampNeg) fun v_11 =>
            jn (fun (t0_12 : Int32) => (
              bz t0_12 <|
              ix 1400 x1_8 <| lt (sti s_8 64 x1_8.toNatClampNeg t0_12) fun s_13 =>
              lt (x1_8 + 1) fun x1_15 =>
              a_76 x1_15 s_13
            )) fun k_116 =>
            jn (
              k_116 (0 : Int32)
            ) fun k_115 =>
            if v_11 = 4 then (
              ix 1400 (x1_8 + 1) <| lt (s_8.1 58 (x1_8 + 1).toNatClampNeg) fun v_18 =>
              if v_18 = 5 then (
                k_116 (1 : Int32)
              ) else (
                k_115
              )
            ) else (
              k_115
            )
          )
        )) LF (0 : Int32) s_7
      ) else (
        ix 1400 x1_5 <| lt (s_5.1 58 x1_5.toNatClampNeg) fun v_20 =>
        jn (fun (t0_21 : Int32) => (
          bz t0_21 <|
          ix 1400 x1_5 <| lt (sti s_5 64 x1_5.toNatClampNeg t0_21) fun s_22 =>
          lt (x1_5 + 1) fun x1_24 =>
          a_26 x1_24 s_22
        )) fun k_63 =>
        jn (
          k_63 (0 : Int32)
        ) fun k_62 =>
        if v_20 = 6 then (
          calp (f_X12_isIdle x1_5 s_5) fun v_27 =>
          if v_27 = 0 then (
            k_62
          ) else (
            k_63 (1 : Int32)
          )
        ) else (
          k_62
        )
      )
    )) LF (0 : Int32) s_4
  )
def f_X12_lays_  (σ : Sto) : Option Sto :=
  cals (f_X12_laysBlocks σ) fun s_1 =>
  cals (f_X12_laysEdges s_1) fun s_2 =>
  cals (f_X12_laysJumps s_2) fun s_3 =>
  cals (f_X12_laysOrder s_3) fun s_4 =>
  cals (f_X12_laysAbove s_4) fun s_5 =>
  cals (f_X12_laysLoops s_5) fun s_6 =>
  cals (f_X12_laysStatements s_6) fun s_7 =>
  cals (f_X12_laysTypes s_7) fun s_8 =>
  cals (f_X12_laysLive s_8) fun s_9 =>
  cals (f_X12_laysLines s_9) fun s_10 =>
  some s_10
def f_X12_takes  (σ : Sto) : Option (Int32 × Sto) :=
  itr (fun _ _ => none) (fun (a_2 : Int32 → Sto → Option (Int32 × Sto)) (x1_1 : Int32) (s_1 : Sto) => (
    if 40 ≤ x1_1 then (
      itr (fun _ _ => none) (fun (a_52 : Int32 → Sto → Option (Int32 × Sto)) (x1_3 : Int32) (s_3 : Sto) => (
        if 9 ≤ x1_3 then (
          lt (sti s_3 15 0 (s_3.1 17 0)) fun s_5 =>
          lt (sti s_5 16 0 (s_5.1 18 0)) fun s_6 =>
          lt (sti s_6 21 0 (1 : Int32)) fun s_7 =>
          cals (f_X12_lays_ s_7) fun s_8 =>
          some ((s_8.1 26 0), s_8)
        ) else (
          ix 9 x1_3 <| lt (s_3.1 14 x1_3.toNatClampNeg) fun v_9 =>
          ix 9 x1_3 <| lt (sti s_3 11 x1_3.toNatClampNeg v_9) fun s_10 =>
          lt (x1_3 + 1) fun x1_11 =>
          a_52 x1_11 s_10
        )
      )) LF (0 : Int32) s_1
    ) else (
      ix 40 x1_1 <| lt (s_1.1 12 x1_1.toNatClampNeg) fun v_12 =>
      ix 40 x1_1 <| lt (sti s_1 9 x1_1.toNatClampNeg v_12) fun s_13 =>
      ix 40 x1_1 <| lt (s_13.1 13 x1_1.toNatClampNeg) fun v_14 =>
      ix 40 x1_1 <| lt (sti s_13 10 x1_1.toNatClampNeg v_14) fun s_15 =>
      ix 40 x1_1 <| lt (s_15.1 19 x1_1.toNatClampNeg) fun v_16 =>
      ix 40 x1_1 <| lt (sti s_15 20 x1_1.toNatClampNeg v_16) fun s_17 =>
      lt (x1_1 + 1) fun x1_18 =>
      a_2 x1_18 s_17
    )
  )) LF (0 : Int32) σ
def f_X12_code  (σ : Sto) : Option (Int32 × Sto) :=
  lt (sti σ 0 0 (0 : Int32)) fun s_1 =>
  calv (f_X12_isText s_1) fun v_2 s_2 =>
  if v_2 = 0 then (
    some (((-1) : Int32), s_2)
  ) else (
    cals (f_X12_tries_signRead_numberRead_handlerRead (s_2.1 7 0) (s_2.1 8 0) s_2) fun s_4 =>
    calv (f_X12_wrong s_4) fun v_5 s_5 =>
    if 0 ≤ v_5 then (
      lt (sti s_5 2 0 (0 : Int32)) fun s_7 =>
      calv (f_X12_takes s_7) fun v_8 s_8 =>
      some (v_8, s_8)
    ) else (
      some (v_5, s_5)
    )
  )
def f_X12_isIn (x1 : Int64) (x2 : Int64) (x3 : Int64) : Option Int32 :=
  jn (
    some (0 : Int32)
  ) fun k_17 =>
  if (lg_cmp x1 x2) < 0 then (
    k_17
  ) else (
    if 0 < (lg_cmp x1 x3) then (
      k_17
    ) else (
      some (1 : Int32)
    )
  )
def f_X12_isCode (x1 : Int32) (x2 : Int32) : Option Int32 :=
  calp (f_X12_isPlain x1) fun v_1 =>
  if v_1 = 0 then (
    jn (fun (t0_3 : Int32) => (
      calp (f_X12_isIn x2.toInt64 (0 : Int64) t0_3.toInt64) fun v_4 =>
      bz v_4 <|
      some v_4
    )) fun k_63 =>
    if x1 = 107 then (
      k_63 (999 : Int32)
    ) else (
      jn (
        k_63 (5 : Int32)
      ) fun k_41 =>
      if x1 = 108 then (
        k_41
      ) else (
        if x1 = 115 then (
          k_41
        ) else (
          jn (
            k_63 (39 : Int32)
          ) fun k_57 =>
          if x1 = 103 then (
            k_57
          ) else (
            if x1 = 122 then (
              k_57
            ) else (
              k_63 ((-1) : Int32)
            )
          )
        )
      )
    )
  ) else (
    if x2 = 0 then (
      some (1 : Int32)
    ) else (
      some (0 : Int32)
    )
  )
def f_X12_tries_sign_number_handler (x3 : Int32) (x5 : Int32) (σ : Sto) : Option Sto :=
  itr (fun _ _ => none) (fun (a_3 : Int32 → Sto → Option Sto) (x6_1 : Int32) (s_1 : Sto) => (
    if 40 ≤ x6_1 then (
      itr (fun _ _ => none) (fun (a_41 : Int32 → Sto → Option Sto) (x6_3 : Int32) (s_3 : Sto) => (
        if 9 ≤ x6_3 then (
          lt (sti s_3 17 0 x3) fun s_5 =>
          lt (sti s_5 18 0 x5) fun s_6 =>
          some s_6
        ) else (
          ix 9 x6_3 <| lt (s_3.1 11 x6_3.toNatClampNeg) fun v_7 =>
          ix 9 x6_3 <| lt (sti s_3 14 x6_3.toNatClampNeg v_7) fun s_8 =>
          lt (x6_3 + 1) fun x6_9 =>
          a_41 x6_9 s_8
        )
      )) LF (0 : Int32) s_1
    ) else (
      ix 40 x6_1 <| lt (s_1.1 9 x6_1.toNatClampNeg) fun v_10 =>
      ix 40 x6_1 <| lt (sti s_1 12 x6_1.toNatClampNeg v_10) fun s_11 =>
      ix 40 x6_1 <| lt (s_11.1 10 x6_1.toNatClampNeg) fun v_12 =>
      ix 40 x6_1 <| lt (sti s_11 13 x6_1.toNatClampNeg v_12) fun s_13 =>
      lt (x6_1 + 1) fun x6_14 =>
      a_3 x6_14 s_13
    )
  )) LF (0 : Int32) σ
def f_X12_put (x1 : Int32) (x2 : Int32) (x3 : Int32) (σ : Sto) : Option (Int32 × Sto) :=
  lt (sti σ 0 0 (0 : Int32)) fun s_1 =>
  if (s_1.1 21 0) = 0 then (
    some (((-1) : Int32), s_1)
  ) else (
    calp (f_X12_isIn x1.toInt64 (0 : Int64) (((s_1.1 15 0) - 1).toInt64)) fun v_3 =>
    if v_3 = 0 then (
      some (((-1) : Int32), s_1)
    ) else (
      calp (f_X12_isCode x2 x3) fun v_5 =>
      if v_5 = 0 then (
        some (((-1) : Int32), s_1)
      ) else (
        cals (f_X12_tries_sign_number_handler (s_1.1 15 0) (s_1.1 16 0) s_1) fun s_7 =>
        ix 40 x1 <| lt (sti s_7 12 x1.toNatClampNeg x2) fun s_8 =>
        ix 40 x1 <| lt (sti s_8 13 x1.toNatClampNeg x3) fun s_9 =>
        calv (f_X12_wrong s_9) fun v_10 s_10 =>
        if 0 ≤ v_10 then (
          calv (f_X12_takes s_10) fun v_12 s_12 =>
          some (v_12, s_12)
        ) else (
          some (v_10, s_10)
        )
      )
    )
  )
def f_X12_countLoops  (σ : Sto) : Option Int32 :=
  itr (fun _ _ => none) (fun (a_4 : Int32 → Int32 → Option Int32) (x1_1 : Int32) (x2_1 : Int32) => (
    if (σ.1 26 0) ≤ x2_1 then (
      some x1_1
    ) else (
      ix 40 x2_1 <| lt (σ.2 1 x2_1.toNatClampNeg) fun v_3 =>
      jn (fun (t0_4 : Int32) => (
        lt (x1_1 + t0_4) fun x1_5 =>
        lt (x2_1 + 1) fun x2_6 =>
        a_4 x1_5 x2_6
      )) fun k_29 =>
      if (lg_cmp v_3 (0 : Int64)) = 0 then (
        k_29 (0 : Int32)
      ) else (
        k_29 (1 : Int32)
      )
    )
  )) LF (0 : Int32) (0 : Int32)
def f_X12_countMerges  (σ : Sto) : Option Int32 :=
  itr (fun _ _ => none) (fun (a_4 : Int32 → Int32 → Option Int32) (x1_1 : Int32) (x2_1 : Int32) => (
    if (σ.1 26 0) ≤ x2_1 then (
      some x1_1
    ) else (
      calp (f_X12_isMerge x2_1 σ) fun v_3 =>
      jn (fun (t0_4 : Int32) => (
        lt (x1_1 + t0_4) fun x1_5 =>
        lt (x2_1 + 1) fun x2_6 =>
        a_4 x1_5 x2_6
      )) fun k_26 =>
      if v_3 = 0 then (
        k_26 (0 : Int32)
      ) else (
        k_26 (1 : Int32)
      )
    )
  )) LF (0 : Int32) (0 : Int32)
def b_X12_areAlike (q_X12_areAlike : Int32 → Int32 → Sto → Option Int32) (x1 : Int32) (x2 : Int32) (σ : Sto) : Option Int32 :=
  ix 6000 x1 <| lt (σ.1 38 x1.toNatClampNeg) fun v_1 =>
  ix 6000 x2 <| lt (σ.1 38 x2.toNatClampNeg) fun v_2 =>
  if v_1 = v_2 then (
    calp (f_X12_isOne x1 σ) fun v_4 =>
    if v_4 = 0 then (
      calp (f_X12_isBoth x1 σ) fun v_6 =>
      if v_6 = 0 then (
        ix 6000 x1 <| lt (σ.1 39 x1.toNatClampNeg) fun v_8 =>
        ix 6000 x2 <| lt (σ.1 39 x2.toNatClampNeg) fun v_9 =>
        if v_8 = v_9 then (
          some (1 : Int32)
        ) else (
          some (0 : Int32)
        )
      ) else (
        ix 6000 x1 <| lt (σ.1 39 x1.toNatClampNeg) fun v_11 =>
        ix 6000 x2 <| lt (σ.1 39 x2.toNatClampNeg) fun v_12 =>
        calp (q_X12_areAlike v_11 v_12 σ) fun v_13 =>
        jn (
          some (0 : Int32)
        ) fun k_92 =>
        if v_13 = 0 then (
          k_92
        ) else (
          ix 6000 x1 <| lt (σ.1 40 x1.toNatClampNeg) fun v_16 =>
          ix 6000 x2 <| lt (σ.1 40 x2.toNatClampNeg) fun v_17 =>
          calp (q_X12_areAlike v_16 v_17 σ) fun v_18 =>
          if v_18 = 0 then (
            k_92
          ) else (
            some (1 : Int32)
          )
        )
      )
    ) else (
      ix 6000 x1 <| lt (σ.1 39 x1.toNatClampNeg) fun v_20 =>
      ix 6000 x2 <| lt (σ.1 39 x2.toNatClampNeg) fun v_21 =>
      calp (q_X12_areAlike v_20 v_21 σ) fun v_22 =>
      bz v_22 <|
      some v_22
    )
  ) else (
    some (0 : Int32)
  )
def g_X12_areAlike : Nat → ((Int32 → Int32 → Sto → Option Int32))
  | 0 => fun _ _ _ => none
  | d + 1 => b_X12_areAlike (g_X12_areAlike d)
def f_X12_areAlike (d : Nat) : Int32 → Int32 → Sto → Option Int32 := (g_X12_areAlike d)
def b_X12_meets (q_X12_meets : Int32 → Sto → Option Sto) (x1 : Int32) (σ : Sto) : Option Sto :=
  calp (f_X12_isOne x1 σ) fun v_1 =>
  jn (fun (s_2 : Sto) => (
    calp (f_X12_isBoth x1 s_2) fun v_3 =>
    jn (fun (s_4 : Sto) => (
      calp (f_X12_isName x1 s_4) fun v_5 =>
      if v_5 = 0 then (
        itr (fun _ => none) (fun (a_55 : Int32 → Option Sto) (x2_7 : Int32) => (
          if (s_4.1 68 0) ≤ x2_7 then (
            ix 6000 (s_4.1 68 0) <| lt (sti s_4 67 (s_4.1 68 0).toNatClampNeg x1) fun s_9 =>
            lt (sti s_9 68 0 ((s_9.1 68 0) + 1)) fun s_10 =>
            some s_10
          ) else (
            ix 6000 x2_7 <| lt (s_4.1 67 x2_7.toNatClampNeg) fun v_11 =>
            calp (f_X12_areAlike 250 v_11 x1 s_4) fun v_12 =>
            if v_12 = 0 then (
              lt (x2_7 + 1) fun x2_14 =>
              a_55 x2_14
            ) else (
              some s_4
            )
          )
        )) LF (0 : Int32)
      ) else (
        some s_4
      )
    )) fun k_44 =>
    if v_3 = 0 then (
      k_44 s_2
    ) else (
      ix 6000 x1 <| lt (s_2.1 40 x1.toNatClampNeg) fun v_16 =>
      cals (q_X12_meets v_16 s_2) fun s_17 =>
      k_44 s_17
    )
  )) fun k_26 =>
  jn (
    ix 6000 x1 <| lt (σ.1 39 x1.toNatClampNeg) fun v_19 =>
    cals (q_X12_meets v_19 σ) fun s_20 =>
    k_26 s_20
  ) fun k_16 =>
  if v_1 = 0 then (
    calp (f_X12_isBoth x1 σ) fun v_22 =>
    if v_22 = 0 then (
      k_26 σ
    ) else (
      k_16
    )
  ) else (
    k_16
  )
def g_X12_meets : Nat → ((Int32 → Sto → Option Sto))
  | 0 => fun _ _ => none
  | d + 1 => b_X12_meets (g_X12_meets d)
def f_X12_meets (d : Nat) : Int32 → Sto → Option Sto := (g_X12_meets d)
def f_X12_unlike  (σ : Sto) : Option (Int32 × Sto) :=
  lt (sti σ 68 0 (0 : Int32)) fun s_1 =>
  itr (fun _ _ => none) (fun (a_7 : Int32 → Sto → Option (Int32 × Sto)) (x1_2 : Int32) (s_2 : Sto) => (
    if (s_2.1 47 0) ≤ x1_2 then (
      itr (fun _ _ => none) (fun (a_43 : Int32 → Sto → Option (Int32 × Sto)) (x1_4 : Int32) (s_4 : Sto) => (
        if (s_4.1 26 0) ≤ x1_4 then (
          some ((s_4.1 68 0), s_4)
        ) else (
          ix 40 x1_4 <| lt (s_4.1 46 x1_4.toNatClampNeg) fun v_6 =>
          jn (fun (s_7 : Sto) => (
            lt (x1_4 + 1) fun x1_8 =>
            a_43 x1_8 s_7
          )) fun k_71 =>
          if v_6 = (-1) then (
            k_71 s_4
          ) else (
            ix 40 x1_4 <| lt (s_4.1 46 x1_4.toNatClampNeg) fun v_10 =>
            cals (f_X12_meets 250 v_10 s_4) fun s_11 =>
            k_71 s_11
          )
        )
      )) LF (0 : Int32) s_2
    ) else (
      ix 400 x1_2 <| lt (s_2.1 44 x1_2.toNatClampNeg) fun v_12 =>
      jn (fun (s_13 : Sto) => (
        lt (x1_2 + 1) fun x1_14 =>
        a_7 x1_14 s_13
      )) fun k_35 =>
      if v_12 = (-1) then (
        k_35 s_2
      ) else (
        ix 400 x1_2 <| lt (s_2.1 44 x1_2.toNatClampNeg) fun v_16 =>
        cals (f_X12_meets 250 v_16 s_2) fun s_17 =>
        k_35 s_17
      )
    )
  )) LF (0 : Int32) s_1
def f_X12_countDead  (σ : Sto) : Option Int32 :=
  itr (fun _ _ => none) (fun (a_4 : Int32 → Int32 → Option Int32) (x1_1 : Int32) (x2_1 : Int32) => (
    if (σ.1 15 0) ≤ x2_1 then (
      some x1_1
    ) else (
      ix 40 x2_1 <| lt (σ.1 57 x2_1.toNatClampNeg) fun v_3 =>
      jn (fun (t0_4 : Int32) => (
        lt (x1_1 + t0_4) fun x1_5 =>
        lt (x2_1 + 1) fun x2_6 =>
        a_4 x1_5 x2_6
      )) fun k_27 =>
      if v_3 = 0 then (
        k_27 (0 : Int32)
      ) else (
        k_27 (1 : Int32)
      )
    )
  )) LF (0 : Int32) (0 : Int32)
def f_X12_count (x1 : Int32) (σ : Sto) : Option (Int32 × Sto) :=
  lt (sti σ 0 0 (0 : Int32)) fun s_1 =>
  if x1 = 12 then (
    some ((s_1.1 2 0), s_1)
  ) else (
    if (s_1.1 21 0) = 0 then (
      some (((-1000000) : Int32), s_1)
    ) else (
      if x1.toInt = 0 then (
        some ((s_1.1 15 0), s_1)
      ) else (
      if x1.toInt = 1 then (
        some ((s_1.1 26 0), s_1)
      ) else (
      if x1.toInt = 2 then (
        some ((s_1.1 32 0), s_1)
      ) else (
      if x1.toInt = 3 then (
        some ((s_1.1 16 0), s_1)
      ) else (
      if x1.toInt = 4 then (
        calp (f_X12_countLoops s_1) fun v_5 =>
        some (v_5, s_1)
      ) else (
      if x1.toInt = 5 then (
        calp (f_X12_countMerges s_1) fun v_6 =>
        some (v_6, s_1)
      ) else (
      if x1.toInt = 6 then (
        some ((s_1.1 36 0), s_1)
      ) else (
      if x1.toInt = 7 then (
        if (s_1.1 37 0) = 0 then (
          some ((0 : Int32), s_1)
        ) else (
          some ((1 : Int32), s_1)
        )
      ) else (
      if x1.toInt = 8 then (
        if (s_1.1 36 0) = (-1) then (
          some (((-1) : Int32), s_1)
        ) else (
          some ((s_1.1 62 0), s_1)
        )
      ) else (
      if x1.toInt = 9 then (
        some ((s_1.1 47 0), s_1)
      ) else (
      if x1.toInt = 10 then (
        some ((s_1.1 48 0), s_1)
      ) else (
      if x1.toInt = 11 then (
        some ((s_1.1 51 0), s_1)
      ) else (
      if x1.toInt = 13 then (
        calv (f_X12_unlike s_1) fun v_9 s_9 =>
        some (v_9, s_9)
      ) else (
      if x1.toInt = 14 then (
        calp (f_X12_countDead s_1) fun v_10 =>
        some (v_10, s_1)
      ) else (
        some (((-1000000) : Int32), s_1)
      )
      )
      )
      )
      )
      )
      )
      )
      )
      )
      )
      )
      )
      )
    )
  )
def f_X12_instruction_ (x1 : Int32) (x2 : Int32) (σ : Sto) : Option (Int32 × Sto) :=
  jn (fun (t0_1 : Int32) => (
    lt (sti σ 0 0 t0_1) fun s_2 =>
    if (s_2.1 0 0) ≤ 0 then (
      if x2.toInt = 0 then (
        ix 40 x1 <| lt (s_2.1 9 x1.toNatClampNeg) fun v_5 =>
        some (v_5, s_2)
      ) else (
      if x2.toInt = 1 then (
        ix 40 x1 <| lt (s_2.1 10 x1.toNatClampNeg) fun v_6 =>
        some (v_6, s_2)
      ) else (
      if x2.toInt = 2 then (
        ix 40 x1 <| lt (s_2.1 20 x1.toNatClampNeg) fun v_7 =>
        some (v_7, s_2)
      ) else (
      if x2.toInt = 3 then (
        ix 40 x1 <| lt (s_2.1 24 x1.toNatClampNeg) fun v_8 =>
        some (v_8, s_2)
      ) else (
      if x2.toInt = 4 then (
        calp (f_X12_handlerOf_handler (s_2.1 16 0) x1 s_2) fun v_9 =>
        some (v_9, s_2)
      ) else (
        ix 40 x1 <| lt (s_2.1 57 x1.toNatClampNeg) fun v_10 =>
        if v_10 = 0 then (
          some ((0 : Int32), s_2)
        ) else (
          some ((1 : Int32), s_2)
        )
      )
      )
      )
      )
      )
    ) else (
      some ((0 : Int32), s_2)
    )
  )) fun k_41 =>
  jn (
    k_41 (1 : Int32)
  ) fun k_40 =>
  if (σ.1 21 0) = 0 then (
    k_40
  ) else (
    calp (f_X12_isIn x1.toInt64 (0 : Int64) (((σ.1 15 0) - 1).toInt64)) fun v_14 =>
    if v_14 = 0 then (
      k_40
    ) else (
      calp (f_X12_isIn x2.toInt64 (0 : Int64) (5 : Int64)) fun v_16 =>
      if v_16 = 0 then (
        k_40
      ) else (
        k_41 (0 : Int32)
      )
    )
  )
def f_X12_isBlock (x1 : Int32) (σ : Sto) : Option Int32 :=
  jn (
    some (0 : Int32)
  ) fun k_27 =>
  if (σ.1 21 0) = 0 then (
    k_27
  ) else (
    calp (f_X12_isIn x1.toInt64 (0 : Int64) (((σ.1 26 0) - 1).toInt64)) fun v_3 =>
    if v_3 = 0 then (
      k_27
    ) else (
      some (1 : Int32)
    )
  )
def f_X12_ones (x1 : Int64) : Option Int32 :=
  itr (fun _ _ => none) (fun (a_4 : Int32 → Int32 → Option Int32) (x2_1 : Int32) (x3_1 : Int32) => (
    if 40 ≤ x3_1 then (
      some x2_1
    ) else (
      calp (f_X12_has x1 x3_1) fun v_3 =>
      jn (fun (t0_4 : Int32) => (
        lt (x2_1 + t0_4) fun x2_5 =>
        lt (x3_1 + 1) fun x3_6 =>
        a_4 x2_5 x3_6
      )) fun k_24 =>
      if v_3 = 0 then (
        k_24 (0 : Int32)
      ) else (
        k_24 (1 : Int32)
      )
    )
  )) LF (0 : Int32) (0 : Int32)
def f_X12_innermost (x1 : Int32) (σ : Sto) : Option Int32 :=
  itr (fun _ _ => none) (fun (a_4 : Int32 → Int32 → Option Int32) (x2_1 : Int32) (x3_1 : Int32) => (
    if (σ.1 26 0) ≤ x3_1 then (
      some x2_1
    ) else (
      ix 40 x3_1 <| lt (σ.2 1 x3_1.toNatClampNeg) fun v_3 =>
      calp (f_X12_has v_3 x1) fun v_4 =>
      jn (fun (x2_5 : Int32) => (
        lt (x3_1 + 1) fun x3_6 =>
        a_4 x2_5 x3_6
      )) fun k_53 =>
      if v_4 = 0 then (
        k_53 x2_1
      ) else (
        jn (
          k_53 x3_1
        ) fun k_51 =>
        if x2_1 = (-1) then (
          k_51
        ) else (
          ix 40 x3_1 <| lt (σ.2 1 x3_1.toNatClampNeg) fun v_10 =>
          calp (f_X12_ones v_10) fun v_11 =>
          ix 40 x2_1 <| lt (σ.2 1 x2_1.toNatClampNeg) fun v_12 =>
          calp (f_X12_ones v_12) fun v_13 =>
          if v_13 ≤ v_11 then (
            k_53 x2_1
          ) else (
            k_51
          )
        )
      )
    )
  )) LF ((-1) : Int32) (0 : Int32)
def f_X12_loopsOf (x1 : Int32) (σ : Sto) : Option Int32 :=
  itr (fun _ _ => none) (fun (a_4 : Int32 → Int32 → Option Int32) (x2_1 : Int32) (x3_1 : Int32) => (
    if (σ.1 26 0) ≤ x3_1 then (
      some x2_1
    ) else (
      ix 40 x3_1 <| lt (σ.2 1 x3_1.toNatClampNeg) fun v_3 =>
      calp (f_X12_has v_3 x1) fun v_4 =>
      jn (fun (t0_5 : Int32) => (
        lt (x2_1 + t0_5) fun x2_6 =>
        lt (x3_1 + 1) fun x3_7 =>
        a_4 x2_6 x3_7
      )) fun k_31 =>
      if v_4 = 0 then (
        k_31 (0 : Int32)
      ) else (
        k_31 (1 : Int32)
      )
    )
  )) LF (0 : Int32) (0 : Int32)
def f_X12_block (x1 : Int32) (x2 : Int32) (σ : Sto) : Option (Int32 × Sto) :=
  calp (f_X12_isBlock x1 σ) fun v_1 =>
  jn (fun (t0_2 : Int32) => (
    lt (sti σ 0 0 t0_2) fun s_3 =>
    if (s_3.1 0 0) ≤ 0 then (
      if x2.toInt = 0 then (
        ix 40 x1 <| lt (s_3.1 22 x1.toNatClampNeg) fun v_6 =>
        some (v_6, s_3)
      ) else (
      if x2.toInt = 1 then (
        ix 40 x1 <| lt (s_3.1 23 x1.toNatClampNeg) fun v_7 =>
        some (v_7, s_3)
      ) else (
      if x2.toInt = 2 then (
        ix 40 x1 <| lt (s_3.1 22 x1.toNatClampNeg) fun v_8 =>
        ix 40 v_8 <| lt (s_3.1 20 v_8.toNatClampNeg) fun v_9 =>
        some (v_9, s_3)
      ) else (
      if x2.toInt = 3 then (
        ix 40 x1 <| lt (s_3.1 33 x1.toNatClampNeg) fun v_10 =>
        some (v_10, s_3)
      ) else (
      if x2.toInt = 4 then (
        ix 40 x1 <| lt (s_3.1 34 x1.toNatClampNeg) fun v_11 =>
        some (v_11, s_3)
      ) else (
      if x2.toInt = 5 then (
        calp (f_X12_innermost x1 s_3) fun v_12 =>
        some (v_12, s_3)
      ) else (
      if x2.toInt = 6 then (
        calp (f_X12_loopsOf x1 s_3) fun v_13 =>
        some (v_13, s_3)
      ) else (
      if x2.toInt = 7 then (
        calp (f_X12_isMerge x1 s_3) fun v_14 =>
        if v_14 = 0 then (
          some ((0 : Int32), s_3)
        ) else (
          some ((1 : Int32), s_3)
        )
      ) else (
      if x2.toInt = 8 then (
        ix 40 x1 <| lt (s_3.2 1 x1.toNatClampNeg) fun v_16 =>
        if (lg_cmp v_16 (0 : Int64)) = 0 then (
          some ((0 : Int32), s_3)
        ) else (
          some ((1 : Int32), s_3)
        )
      ) else (
      if x2.toInt = 9 then (
        ix 41 (x1 + 1) <| lt (s_3.1 45 (x1 + 1).toNatClampNeg) fun v_18 =>
        ix 41 x1 <| lt (s_3.1 45 x1.toNatClampNeg) fun v_19 =>
        some ((v_18 - v_19), s_3)
      ) else (
      if x2.toInt = 10 then (
        ix 40 x1 <| lt (s_3.1 55 x1.toNatClampNeg) fun v_20 =>
        some (v_20, s_3)
      ) else (
      if x2.toInt = 11 then (
        ix 40 x1 <| lt (s_3.1 56 x1.toNatClampNeg) fun v_21 =>
        some (v_21, s_3)
      ) else (
        ix 40 x1 <| lt (s_3.1 25 x1.toNatClampNeg) fun v_22 =>
        some (v_22, s_3)
      )
      )
      )
      )
      )
      )
      )
      )
      )
      )
      )
      )
    ) else (
      some ((0 : Int32), s_3)
    )
  )) fun k_26 =>
  jn (
    k_26 (1 : Int32)
  ) fun k_25 =>
  if v_1 = 0 then (
    k_25
  ) else (
    calp (f_X12_isIn x2.toInt64 (0 : Int64) (12 : Int64)) fun v_25 =>
    if v_25 = 0 then (
      k_25
    ) else (
      k_26 (0 : Int32)
    )
  )
def f_X12_edge (x1 : Int32) (x2 : Int32) (σ : Sto) : Option (Int32 × Sto) :=
  lt (sti σ 0 0 (0 : Int32)) fun s_1 =>
  if (s_1.1 21 0) = 0 then (
    some (((-1000000) : Int32), s_1)
  ) else (
    calp (f_X12_isIn x1.toInt64 (0 : Int64) (((s_1.1 32 0) - 1).toInt64)) fun v_3 =>
    if v_3 = 0 then (
      some (((-1000000) : Int32), s_1)
    ) else (
      calp (f_X12_isIn x2.toInt64 (0 : Int64) (4 : Int64)) fun v_5 =>
      if v_5 = 0 then (
        some (((-1000000) : Int32), s_1)
      ) else (
        if x2.toInt = 0 then (
          ix 120 x1 <| lt (s_1.1 27 x1.toNatClampNeg) fun v_8 =>
          some (v_8, s_1)
        ) else (
        if x2.toInt = 1 then (
          ix 120 x1 <| lt (s_1.1 28 x1.toNatClampNeg) fun v_9 =>
          some (v_9, s_1)
        ) else (
        if x2.toInt = 2 then (
          ix 120 x1 <| lt (s_1.1 31 x1.toNatClampNeg) fun v_10 =>
          if v_10 = 0 then (
            some ((0 : Int32), s_1)
          ) else (
            some ((1 : Int32), s_1)
          )
        ) else (
        if x2.toInt = 3 then (
          ix 120 x1 <| lt (s_1.1 30 x1.toNatClampNeg) fun v_12 =>
          if v_12 = 0 then (
            some ((0 : Int32), s_1)
          ) else (
            some ((1 : Int32), s_1)
          )
        ) else (
          ix 120 x1 <| lt (s_1.1 29 x1.toNatClampNeg) fun v_14 =>
          if v_14 = 0 then (
            some ((0 : Int32), s_1)
          ) else (
            some ((1 : Int32), s_1)
          )
        )
        )
        )
        )
      )
    )
  )
def f_X12_dominates (x1 : Int32) (x2 : Int32) (σ : Sto) : Option (Int32 × Sto) :=
  lt (sti σ 0 0 (0 : Int32)) fun s_1 =>
  calp (f_X12_isBlock x1 s_1) fun v_2 =>
  jn (
    some ((0 : Int32), s_1)
  ) fun k_38 =>
  if v_2 = 0 then (
    k_38
  ) else (
    calp (f_X12_isBlock x2 s_1) fun v_5 =>
    if v_5 = 0 then (
      k_38
    ) else (
      ix 40 x2 <| lt (s_1.2 0 x2.toNatClampNeg) fun v_7 =>
      calp (f_X12_has v_7 x1) fun v_8 =>
      if v_8 = 0 then (
        k_38
      ) else (
        some ((1 : Int32), s_1)
      )
    )
  )
def f_X12_loop (x1 : Int32) (σ : Sto) : Option (Int64 × Sto) :=
  lt (sti σ 0 0 (0 : Int32)) fun s_1 =>
  calp (f_X12_isBlock x1 s_1) fun v_2 =>
  jn (
    some (((-1) : Int64), s_1)
  ) fun k_33 =>
  if v_2 = 0 then (
    k_33
  ) else (
    ix 40 x1 <| lt (s_1.2 1 x1.toNatClampNeg) fun v_5 =>
    if (lg_cmp v_5 (0 : Int64)) = 0 then (
      k_33
    ) else (
      ix 40 x1 <| lt (s_1.2 1 x1.toNatClampNeg) fun v_7 =>
      some (v_7, s_1)
    )
  )
def f_X12_writes (x1 : Int32) (σ : Sto) : Option Sto :=
  ix 2000 (σ.1 66 0) <| lt (sti σ 65 (σ.1 66 0).toNatClampNeg x1) fun s_1 =>
  lt (sti s_1 66 0 ((s_1.1 66 0) + 1)) fun s_2 =>
  some s_2
def b_X12_writesNumber (q_X12_writesNumber : Int32 → Sto → Option Sto) (x1 : Int32) (σ : Sto) : Option Sto :=
  jn (fun (s_1 : Sto) => (
    cals (f_X12_writes ((48 : Int32) + (x1 - x1 / 10 * 10)) s_1) fun s_2 =>
    some s_2
  )) fun k_14 =>
  if x1 ≤ 9 then (
    k_14 σ
  ) else (
    cals (q_X12_writesNumber (x1 / 10) σ) fun s_4 =>
    k_14 s_4
  )
def g_X12_writesNumber : Nat → ((Int32 → Sto → Option Sto))
  | 0 => fun _ _ => none
  | d + 1 => b_X12_writesNumber (g_X12_writesNumber d)
def f_X12_writesNumber (d : Nat) : Int32 → Sto → Option Sto := (g_X12_writesNumber d)
def f_X12_writesName (x1 : Int32) (x2 : Int32) (σ : Sto) : Option Sto :=
  cals (f_X12_writes x1 σ) fun s_1 =>
  cals (f_X12_writesNumber 250 x2 s_1) fun s_2 =>
  some s_2
def f_X12_writesWord_s110  (σ : Sto) : Option Sto :=
  itr (fun _ _ => none) (fun (a_2 : Int32 → Sto → Option Sto) (x2_1 : Int32) (s_1 : Sto) => (
    if 2 ≤ x2_1 then (
      some s_1
    ) else (
      ix 2 x2_1 <| lt (chS 110 x2_1) fun v_3 =>
      cals (f_X12_writes v_3 s_1) fun s_4 =>
      lt (x2_1 + 1) fun x2_5 =>
      a_2 x2_5 s_4
    )
  )) LF (0 : Int32) σ
def b_X12_spells (q_X12_spells : Int32 → Sto → Option Sto) (x1 : Int32) (σ : Sto) : Option Sto :=
  ix 6000 x1 <| lt (σ.1 38 x1.toNatClampNeg) fun v_1 =>
  if v_1.toInt = 0 then (
    ix 6000 x1 <| lt (σ.1 39 x1.toNatClampNeg) fun v_3 =>
    cals (f_X12_writesNumber 250 v_3 σ) fun s_4 =>
    some s_4
  ) else (
  if v_1.toInt = 1 then (
    ix 6000 x1 <| lt (σ.1 39 x1.toNatClampNeg) fun v_5 =>
    cals (f_X12_writes ((97 : Int32) + v_5) σ) fun s_6 =>
    some s_6
  ) else (
  if v_1.toInt = 2 then (
    ix 6000 x1 <| lt (σ.1 39 x1.toNatClampNeg) fun v_7 =>
    cals (f_X12_writesName (116 : Int32) v_7 σ) fun s_8 =>
    some s_8
  ) else (
  if v_1.toInt = 3 then (
    ix 6000 x1 <| lt (σ.1 39 x1.toNatClampNeg) fun v_9 =>
    cals (f_X12_writesName (120 : Int32) v_9 σ) fun s_10 =>
    some s_10
  ) else (
  if v_1.toInt = 4 then (
    cals (f_X12_writesWord_s110 σ) fun s_11 =>
    some s_11
  ) else (
  if v_1.toInt = 5 then (
    cals (f_X12_writes (33 : Int32) σ) fun s_12 =>
    ix 6000 x1 <| lt (s_12.1 39 x1.toNatClampNeg) fun v_13 =>
    cals (q_X12_spells v_13 s_12) fun s_14 =>
    some s_14
  ) else (
  if v_1.toInt = 6 then (
    cals (f_X12_writes (45 : Int32) σ) fun s_15 =>
    ix 6000 x1 <| lt (s_15.1 39 x1.toNatClampNeg) fun v_16 =>
    cals (q_X12_spells v_16 s_15) fun s_17 =>
    some s_17
  ) else (
    cals (f_X12_writes (40 : Int32) σ) fun s_18 =>
    ix 6000 x1 <| lt (s_18.1 39 x1.toNatClampNeg) fun v_19 =>
    cals (q_X12_spells v_19 s_18) fun s_20 =>
    ix 6000 x1 <| lt (s_20.1 38 x1.toNatClampNeg) fun v_21 =>
    cals (f_X12_writes v_21 s_20) fun s_22 =>
    ix 6000 x1 <| lt (s_22.1 40 x1.toNatClampNeg) fun v_23 =>
    cals (q_X12_spells v_23 s_22) fun s_24 =>
    cals (f_X12_writes (41 : Int32) s_24) fun s_25 =>
    some s_25
  )
  )
  )
  )
  )
  )
  )
def g_X12_spells : Nat → ((Int32 → Sto → Option Sto))
  | 0 => fun _ _ => none
  | d + 1 => b_X12_spells (g_X12_spells d)
def f_X12_spells (d : Nat) : Int32 → Sto → Option Sto := (g_X12_spells d)
def b_X12_within (q_X12_within : Int32 → Sto → Option Int32) (x1 : Int32) (σ : Sto) : Option Int32 :=
  calp (f_X12_isOne x1 σ) fun v_1 =>
  if v_1 = 0 then (
    calp (f_X12_isBoth x1 σ) fun v_3 =>
    if v_3 = 0 then (
      some (1 : Int32)
    ) else (
      ix 6000 x1 <| lt (σ.1 39 x1.toNatClampNeg) fun v_5 =>
      calp (q_X12_within v_5 σ) fun v_6 =>
      ix 6000 x1 <| lt (σ.1 40 x1.toNatClampNeg) fun v_7 =>
      calp (q_X12_within v_7 σ) fun v_8 =>
      some (((1 : Int32) + v_6) + v_8)
    )
  ) else (
    ix 6000 x1 <| lt (σ.1 39 x1.toNatClampNeg) fun v_9 =>
    calp (q_X12_within v_9 σ) fun v_10 =>
    some ((1 : Int32) + v_10)
  )
def g_X12_within : Nat → ((Int32 → Sto → Option Int32))
  | 0 => fun _ _ => none
  | d + 1 => b_X12_within (g_X12_within d)
def f_X12_within (d : Nat) : Int32 → Sto → Option Int32 := (g_X12_within d)
def f_X12_statement (x1 : Int32) (x2 : Int32) (x3 : Int32) (σ : Sto) : Option (Int32 × Sto) :=
  lt (sti σ 0 0 (0 : Int32)) fun s_1 =>
  calp (f_X12_isBlock x1 s_1) fun v_2 =>
  if v_2 = 0 then (
    some (((-1000000) : Int32), s_1)
  ) else (
    ix 41 (x1 + 1) <| lt (s_1.1 45 (x1 + 1).toNatClampNeg) fun v_4 =>
    ix 41 x1 <| lt (s_1.1 45 x1.toNatClampNeg) fun v_5 =>
    calp (f_X12_isIn x2.toInt64 (0 : Int64) (((v_4 - v_5) - 1).toInt64)) fun v_6 =>
    if v_6 = 0 then (
      some (((-1000000) : Int32), s_1)
    ) else (
      calp (f_X12_isIn x3.toInt64 (0 : Int64) (4 : Int64)) fun v_8 =>
      if v_8 = 0 then (
        some (((-1000000) : Int32), s_1)
      ) else (
        ix 41 x1 <| lt (s_1.1 45 x1.toNatClampNeg) fun v_10 =>
        lt (v_10 + x2) fun x4_11 =>
        ix 400 x4_11 <| lt (s_1.1 44 x4_11.toNatClampNeg) fun v_12 =>
        if x3 = 0 then (
          ix 400 x4_11 <| lt (s_1.1 42 x4_11.toNatClampNeg) fun v_14 =>
          some (v_14, s_1)
        ) else (
          if x3 = 1 then (
            ix 400 x4_11 <| lt (s_1.1 43 x4_11.toNatClampNeg) fun v_16 =>
            some (v_16, s_1)
          ) else (
            if v_12 = (-1) then (
              some ((0 : Int32), s_1)
            ) else (
              lt (sti s_1 66 0 (0 : Int32)) fun s_18 =>
              cals (f_X12_spells 250 v_12 s_18) fun s_19 =>
              if x3 = 2 then (
                some ((s_19.1 66 0), s_19)
              ) else (
                if x3 = 3 then (
                  calp (f_X12_hasEffects 250 v_12 s_19) fun v_22 =>
                  if v_22 = 0 then (
                    some ((0 : Int32), s_19)
                  ) else (
                    some ((1 : Int32), s_19)
                  )
                ) else (
                  calp (f_X12_within 250 v_12 s_19) fun v_24 =>
                  some (v_24, s_19)
                )
              )
            )
          )
        )
      )
    )
  )
def f_X12_told (x1 : Int32) (σ : Sto) : Option Int32 :=
  if x1 = (-1) then (
    some (σ.1 66 0)
  ) else (
    calp (f_X12_isIn x1.toInt64 (0 : Int64) (((σ.1 66 0) - 1).toInt64)) fun v_2 =>
    if v_2 = 0 then (
      some ((-1) : Int32)
    ) else (
      ix 2000 x1 <| lt (σ.1 65 x1.toNatClampNeg) fun v_4 =>
      some v_4
    )
  )
def f_X12_condition (x1 : Int32) (x2 : Int32) (σ : Sto) : Option (Int32 × Sto) :=
  lt (sti σ 0 0 (0 : Int32)) fun s_1 =>
  calp (f_X12_isBlock x1 s_1) fun v_2 =>
  if v_2 = 0 then (
    some (((-1) : Int32), s_1)
  ) else (
    ix 40 x1 <| lt (s_1.1 46 x1.toNatClampNeg) fun v_4 =>
    if v_4 = (-1) then (
      some (((-1) : Int32), s_1)
    ) else (
      lt (sti s_1 66 0 (0 : Int32)) fun s_6 =>
      ix 40 x1 <| lt (s_6.1 46 x1.toNatClampNeg) fun v_7 =>
      cals (f_X12_spells 250 v_7 s_6) fun s_8 =>
      calp (f_X12_told x2 s_8) fun v_9 =>
      some (v_9, s_8)
    )
  )
def f_X12_isLine (x1 : Int32) (σ : Sto) : Option Int32 :=
  jn (
    some (0 : Int32)
  ) fun k_35 =>
  if (σ.1 21 0) = 0 then (
    k_35
  ) else (
    if (σ.1 36 0) = (-1) then (
      k_35
    ) else (
      calp (f_X12_isIn x1.toInt64 (0 : Int64) (((σ.1 62 0) - 1).toInt64)) fun v_4 =>
      if v_4 = 0 then (
        k_35
      ) else (
        some (1 : Int32)
      )
    )
  )
def f_X12_line_ (x1 : Int32) (x2 : Int32) (σ : Sto) : Option (Int32 × Sto) :=
  lt (sti σ 0 0 (0 : Int32)) fun s_1 =>
  calp (f_X12_isLine x1 s_1) fun v_2 =>
  if v_2 = 0 then (
    some (((-1000000) : Int32), s_1)
  ) else (
    calp (f_X12_isIn x2.toInt64 (0 : Int64) (2 : Int64)) fun v_4 =>
    if v_4 = 0 then (
      some (((-1000000) : Int32), s_1)
    ) else (
      if x2 = 0 then (
        ix 1400 x1 <| lt (s_1.1 58 x1.toNatClampNeg) fun v_7 =>
        some (v_7, s_1)
      ) else (
        if x2 = 1 then (
          ix 1400 x1 <| lt (s_1.1 59 x1.toNatClampNeg) fun v_9 =>
          some (v_9, s_1)
        ) else (
          ix 1400 x1 <| lt (s_1.1 60 x1.toNatClampNeg) fun v_10 =>
          some (v_10, s_1)
        )
      )
    )
  )
def f_X12_writesWord_s111  (σ : Sto) : Option Sto :=
  itr (fun _ _ => none) (fun (a_2 : Int32 → Sto → Option Sto) (x2_1 : Int32) (s_1 : Sto) => (
    if 4 ≤ x2_1 then (
      some s_1
    ) else (
      ix 4 x2_1 <| lt (chS 111 x2_1) fun v_3 =>
      cals (f_X12_writes v_3 s_1) fun s_4 =>
      lt (x2_1 + 1) fun x2_5 =>
      a_2 x2_5 s_4
    )
  )) LF (0 : Int32) σ
def f_X12_writesWord_s112  (σ : Sto) : Option Sto :=
  itr (fun _ _ => none) (fun (a_2 : Int32 → Sto → Option Sto) (x2_1 : Int32) (s_1 : Sto) => (
    if 6 ≤ x2_1 then (
      some s_1
    ) else (
      ix 6 x2_1 <| lt (chS 112 x2_1) fun v_3 =>
      cals (f_X12_writes v_3 s_1) fun s_4 =>
      lt (x2_1 + 1) fun x2_5 =>
      a_2 x2_5 s_4
    )
  )) LF (0 : Int32) σ
def f_X12_writesWord_s113  (σ : Sto) : Option Sto :=
  itr (fun _ _ => none) (fun (a_2 : Int32 → Sto → Option Sto) (x2_1 : Int32) (s_1 : Sto) => (
    if 6 ≤ x2_1 then (
      some s_1
    ) else (
      ix 6 x2_1 <| lt (chS 113 x2_1) fun v_3 =>
      cals (f_X12_writes v_3 s_1) fun s_4 =>
      lt (x2_1 + 1) fun x2_5 =>
      a_2 x2_5 s_4
    )
  )) LF (0 : Int32) σ
def f_X12_spellsStatement (x1 : Int32) (σ : Sto) : Option Sto :=
  ix 400 x1 <| lt (σ.1 42 x1.toNatClampNeg) fun v_1 =>
  jn (fun (s_2 : Sto) => (
    ix 400 x1 <| lt (s_2.1 42 x1.toNatClampNeg) fun v_3 =>
    jn (fun (s_4 : Sto) => (
      ix 400 x1 <| lt (s_4.1 44 x1.toNatClampNeg) fun v_5 =>
      jn (fun (s_6 : Sto) => (
        cals (f_X12_writes (59 : Int32) s_6) fun s_7 =>
        some s_7
      )) fun k_160 =>
      if v_5 = (-1) then (
        k_160 s_4
      ) else (
        ix 400 x1 <| lt (s_4.1 44 x1.toNatClampNeg) fun v_9 =>
        cals (f_X12_spells 250 v_9 s_4) fun s_10 =>
        k_160 s_10
      )
    )) fun k_140 =>
    if 3 ≤ v_3 then (
      k_140 s_2
    ) else (
      cals (f_X12_writes (61 : Int32) s_2) fun s_12 =>
      k_140 s_12
    )
  )) fun k_124 =>
  if v_1.toInt = 0 then (
    ix 400 x1 <| lt (σ.1 43 x1.toNatClampNeg) fun v_14 =>
    cals (f_X12_writes ((97 : Int32) + v_14) σ) fun s_15 =>
    k_124 s_15
  ) else (
  if v_1.toInt = 1 then (
    ix 400 x1 <| lt (σ.1 43 x1.toNatClampNeg) fun v_16 =>
    cals (f_X12_writesName (116 : Int32) v_16 σ) fun s_17 =>
    k_124 s_17
  ) else (
  if v_1.toInt = 2 then (
    ix 400 x1 <| lt (σ.1 43 x1.toNatClampNeg) fun v_18 =>
    cals (f_X12_writesName (120 : Int32) v_18 σ) fun s_19 =>
    k_124 s_19
  ) else (
  if v_1.toInt = 3 then (
    cals (f_X12_writesWord_s111 σ) fun s_20 =>
    k_124 s_20
  ) else (
  if v_1.toInt = 5 then (
    cals (f_X12_writesWord_s112 σ) fun s_21 =>
    k_124 s_21
  ) else (
  if v_1.toInt = 6 then (
    cals (f_X12_writesWord_s113 σ) fun s_22 =>
    k_124 s_22
  ) else (
    k_124 σ
  )
  )
  )
  )
  )
  )
def f_X12_writesWord_s114  (σ : Sto) : Option Sto :=
  itr (fun _ _ => none) (fun (a_2 : Int32 → Sto → Option Sto) (x2_1 : Int32) (s_1 : Sto) => (
    if 5 ≤ x2_1 then (
      some s_1
    ) else (
      ix 5 x2_1 <| lt (chS 114 x2_1) fun v_3 =>
      cals (f_X12_writes v_3 s_1) fun s_4 =>
      lt (x2_1 + 1) fun x2_5 =>
      a_2 x2_5 s_4
    )
  )) LF (0 : Int32) σ
def f_X12_spellsBlock_s114 (x2 : Int32) (x3 : Int32) (σ : Sto) : Option Sto :=
  cals (f_X12_writesWord_s114 σ) fun s_1 =>
  cals (f_X12_writesName (66 : Int32) x2 s_1) fun s_2 =>
  cals (f_X12_writes x3 s_2) fun s_3 =>
  some s_3
def f_X12_writesWord_s115  (σ : Sto) : Option Sto :=
  itr (fun _ _ => none) (fun (a_2 : Int32 → Sto → Option Sto) (x2_1 : Int32) (s_1 : Sto) => (
    if 6 ≤ x2_1 then (
      some s_1
    ) else (
      ix 6 x2_1 <| lt (chS 115 x2_1) fun v_3 =>
      cals (f_X12_writes v_3 s_1) fun s_4 =>
      lt (x2_1 + 1) fun x2_5 =>
      a_2 x2_5 s_4
    )
  )) LF (0 : Int32) σ
def f_X12_spellsBlock_s115 (x2 : Int32) (x3 : Int32) (σ : Sto) : Option Sto :=
  cals (f_X12_writesWord_s115 σ) fun s_1 =>
  cals (f_X12_writesName (66 : Int32) x2 s_1) fun s_2 =>
  cals (f_X12_writes x3 s_2) fun s_3 =>
  some s_3
def f_X12_writesWord_s116  (σ : Sto) : Option Sto :=
  itr (fun _ _ => none) (fun (a_2 : Int32 → Sto → Option Sto) (x2_1 : Int32) (s_1 : Sto) => (
    if 3 ≤ x2_1 then (
      some s_1
    ) else (
      ix 3 x2_1 <| lt (chS 116 x2_1) fun v_3 =>
      cals (f_X12_writes v_3 s_1) fun s_4 =>
      lt (x2_1 + 1) fun x2_5 =>
      a_2 x2_5 s_4
    )
  )) LF (0 : Int32) σ
def f_X12_writesWord_s117  (σ : Sto) : Option Sto :=
  itr (fun _ _ => none) (fun (a_2 : Int32 → Sto → Option Sto) (x2_1 : Int32) (s_1 : Sto) => (
    if 5 ≤ x2_1 then (
      some s_1
    ) else (
      ix 5 x2_1 <| lt (chS 117 x2_1) fun v_3 =>
      cals (f_X12_writes v_3 s_1) fun s_4 =>
      lt (x2_1 + 1) fun x2_5 =>
      a_2 x2_5 s_4
    )
  )) LF (0 : Int32) σ
def f_X12_writesWord_s118  (σ : Sto) : Option Sto :=
  itr (fun _ _ => none) (fun (a_2 : Int32 → Sto → Option Sto) (x2_1 : Int32) (s_1 : Sto) => (
    if 6 ≤ x2_1 then (
      some s_1
    ) else (
      ix 6 x2_1 <| lt (chS 118 x2_1) fun v_3 =>
      cals (f_X12_writes v_3 s_1) fun s_4 =>
      lt (x2_1 + 1) fun x2_5 =>
      a_2 x2_5 s_4
    )
  )) LF (0 : Int32) σ
def f_X12_spellsBlock_s118 (x2 : Int32) (x3 : Int32) (σ : Sto) : Option Sto :=
  cals (f_X12_writesWord_s118 σ) fun s_1 =>
  cals (f_X12_writesName (66 : Int32) x2 s_1) fun s_2 =>
  cals (f_X12_writes x3 s_2) fun s_3 =>
  some s_3
def f_X12_writesWord_s119  (σ : Sto) : Option Sto :=
  itr (fun _ _ => none) (fun (a_2 : Int32 → Sto → Option Sto) (x2_1 : Int32) (s_1 : Sto) => (
    if 9 ≤ x2_1 then (
      some s_1
    ) else (
      ix 9 x2_1 <| lt (chS 119 x2_1) fun v_3 =>
      cals (f_X12_writes v_3 s_1) fun s_4 =>
      lt (x2_1 + 1) fun x2_5 =>
      a_2 x2_5 s_4
    )
  )) LF (0 : Int32) σ
def f_X12_spellsBlock_s119 (x2 : Int32) (x3 : Int32) (σ : Sto) : Option Sto :=
  cals (f_X12_writesWord_s119 σ) fun s_1 =>
  cals (f_X12_writesName (66 : Int32) x2 s_1) fun s_2 =>
  cals (f_X12_writes x3 s_2) fun s_3 =>
  some s_3
def f_X12_writesWord_s120  (σ : Sto) : Option Sto :=
  itr (fun _ _ => none) (fun (a_2 : Int32 → Sto → Option Sto) (x2_1 : Int32) (s_1 : Sto) => (
    if 5 ≤ x2_1 then (
      some s_1
    ) else (
      ix 5 x2_1 <| lt (chS 120 x2_1) fun v_3 =>
      cals (f_X12_writes v_3 s_1) fun s_4 =>
      lt (x2_1 + 1) fun x2_5 =>
      a_2 x2_5 s_4
    )
  )) LF (0 : Int32) σ
def f_X12_spellsBlock_s120 (x2 : Int32) (x3 : Int32) (σ : Sto) : Option Sto :=
  cals (f_X12_writesWord_s120 σ) fun s_1 =>
  cals (f_X12_writesName (66 : Int32) x2 s_1) fun s_2 =>
  cals (f_X12_writes x3 s_2) fun s_3 =>
  some s_3
def f_X12_writesWord_s121  (σ : Sto) : Option Sto :=
  itr (fun _ _ => none) (fun (a_2 : Int32 → Sto → Option Sto) (x2_1 : Int32) (s_1 : Sto) => (
    if 4 ≤ x2_1 then (
      some s_1
    ) else (
      ix 4 x2_1 <| lt (chS 121 x2_1) fun v_3 =>
      cals (f_X12_writes v_3 s_1) fun s_4 =>
      lt (x2_1 + 1) fun x2_5 =>
      a_2 x2_5 s_4
    )
  )) LF (0 : Int32) σ
def f_X12_writesWord_s122  (σ : Sto) : Option Sto :=
  itr (fun _ _ => none) (fun (a_2 : Int32 → Sto → Option Sto) (x2_1 : Int32) (s_1 : Sto) => (
    if 7 ≤ x2_1 then (
      some s_1
    ) else (
      ix 7 x2_1 <| lt (chS 122 x2_1) fun v_3 =>
      cals (f_X12_writes v_3 s_1) fun s_4 =>
      lt (x2_1 + 1) fun x2_5 =>
      a_2 x2_5 s_4
    )
  )) LF (0 : Int32) σ
def f_X12_spellsBlock_s122 (x2 : Int32) (x3 : Int32) (σ : Sto) : Option Sto :=
  cals (f_X12_writesWord_s122 σ) fun s_1 =>
  cals (f_X12_writesName (66 : Int32) x2 s_1) fun s_2 =>
  cals (f_X12_writes x3 s_2) fun s_3 =>
  some s_3
def f_X12_writesWord_s123  (σ : Sto) : Option Sto :=
  itr (fun _ _ => none) (fun (a_2 : Int32 → Sto → Option Sto) (x2_1 : Int32) (s_1 : Sto) => (
    if 0 ≤ x2_1 then (
      some s_1
    ) else (
      ix 0 x2_1 <| lt (chS 123 x2_1) fun v_3 =>
      cals (f_X12_writes v_3 s_1) fun s_4 =>
      lt (x2_1 + 1) fun x2_5 =>
      a_2 x2_5 s_4
    )
  )) LF (0 : Int32) σ
def f_X12_spellsBlock_s123 (x2 : Int32) (x3 : Int32) (σ : Sto) : Option Sto :=
  cals (f_X12_writesWord_s123 σ) fun s_1 =>
  cals (f_X12_writesName (66 : Int32) x2 s_1) fun s_2 =>
  cals (f_X12_writes x3 s_2) fun s_3 =>
  some s_3
def f_X12_spellsLine (x1 : Int32) (σ : Sto) : Option Sto :=
  lt (sti σ 66 0 (0 : Int32)) fun s_1 =>
  ix 1400 x1 <| lt (s_1.1 59 x1.toNatClampNeg) fun v_2 =>
  ix 1400 x1 <| lt (s_1.1 58 x1.toNatClampNeg) fun v_3 =>
  if v_3.toInt = 0 then (
    ix 1400 x1 <| lt (s_1.1 61 x1.toNatClampNeg) fun v_5 =>
    cals (f_X12_spellsStatement v_5 s_1) fun s_6 =>
    some s_6
  ) else (
  if v_3.toInt = 1 then (
    cals (f_X12_spellsBlock_s114 v_2 (123 : Int32) s_1) fun s_7 =>
    some s_7
  ) else (
  if v_3.toInt = 2 then (
    cals (f_X12_spellsBlock_s115 v_2 (123 : Int32) s_1) fun s_8 =>
    some s_8
  ) else (
  if v_3.toInt = 3 then (
    cals (f_X12_writesWord_s116 s_1) fun s_9 =>
    ix 40 v_2 <| lt (s_9.1 46 v_2.toNatClampNeg) fun v_10 =>
    cals (f_X12_spells 250 v_10 s_9) fun s_11 =>
    cals (f_X12_writes (123 : Int32) s_11) fun s_12 =>
    some s_12
  ) else (
  if v_3.toInt = 4 then (
    cals (f_X12_writesWord_s117 s_1) fun s_13 =>
    some s_13
  ) else (
  if v_3.toInt = 5 then (
    cals (f_X12_writes (125 : Int32) s_1) fun s_14 =>
    some s_14
  ) else (
  if v_3.toInt = 6 then (
    cals (f_X12_spellsBlock_s118 v_2 (59 : Int32) s_1) fun s_15 =>
    some s_15
  ) else (
  if v_3.toInt = 7 then (
    cals (f_X12_spellsBlock_s119 v_2 (59 : Int32) s_1) fun s_16 =>
    some s_16
  ) else (
  if v_3.toInt = 8 then (
    cals (f_X12_spellsBlock_s120 v_2 (59 : Int32) s_1) fun s_17 =>
    some s_17
  ) else (
  if v_3.toInt = 9 then (
    cals (f_X12_writesWord_s121 s_1) fun s_18 =>
    some s_18
  ) else (
  if v_3.toInt = 10 then (
    cals (f_X12_spellsBlock_s122 v_2 (59 : Int32) s_1) fun s_19 =>
    some s_19
  ) else (
    cals (f_X12_spellsBlock_s123 v_2 (58 : Int32) s_1) fun s_20 =>
    some s_20
  )
  )
  )
  )
  )
  )
  )
  )
  )
  )
  )
def f_X12_spell (x1 : Int32) (x2 : Int32) (σ : Sto) : Option (Int32 × Sto) :=
  lt (sti σ 0 0 (0 : Int32)) fun s_1 =>
  calp (f_X12_isLine x1 s_1) fun v_2 =>
  if v_2 = 0 then (
    some (((-1) : Int32), s_1)
  ) else (
    cals (f_X12_spellsLine x1 s_1) fun s_4 =>
    calp (f_X12_told x2 s_4) fun v_5 =>
    some (v_5, s_4)
  )
def f_X12_type (x1 : Int32) (x2 : Int32) (σ : Sto) : Option (Int32 × Sto) :=
  lt (sti σ 0 0 (0 : Int32)) fun s_1 =>
  if (s_1.1 21 0) = 0 then (
    some (((-1) : Int32), s_1)
  ) else (
    calp (f_X12_isIn x1.toInt64 (0 : Int64) (2 : Int64)) fun v_3 =>
    if v_3 = 0 then (
      some (((-1) : Int32), s_1)
    ) else (
      jn (fun (t0_5 : Int32) => (
        calp (f_X12_isIn x2.toInt64 (0 : Int64) ((t0_5 - 1).toInt64)) fun v_6 =>
        if v_6 = 0 then (
          some (((-1) : Int32), s_1)
        ) else (
          jn (
            some ((0 : Int32), s_1)
          ) fun k_109 =>
          jn (
            some ((1 : Int32), s_1)
          ) fun k_105 =>
          if x1 = 0 then (
            ix 6 x2 <| lt (s_1.1 52 x2.toNatClampNeg) fun v_11 =>
            if v_11 = 0 then (
              k_109
            ) else (
              k_105
            )
          ) else (
            if x1 = 1 then (
              ix 8 x2 <| lt (s_1.1 53 x2.toNatClampNeg) fun v_14 =>
              if v_14 = 0 then (
                k_109
              ) else (
                k_105
              )
            ) else (
              ix 400 x2 <| lt (s_1.1 54 x2.toNatClampNeg) fun v_16 =>
              if v_16 = 0 then (
                k_109
              ) else (
                k_105
              )
            )
          )
        )
      )) fun k_52 =>
      if x1 = 0 then (
        k_52 (6 : Int32)
      ) else (
        if x1 = 1 then (
          k_52 (s_1.1 51 0)
        ) else (
          k_52 (s_1.1 48 0)
        )
      )
    )
  )
def f_X12_begins (x1 : Int32) (x2 : Int32) (x3 : Int32) (x4 : Int32) (σ : Sto) : Option Sto :=
  itr (fun _ _ => none) (fun (a_3 : Int32 → Sto → Option Sto) (x5_1 : Int32) (s_1 : Sto) => (
    if 6 ≤ x5_1 then (
      lt (sti s_1 71 0 (0 : Int32)) fun s_3 =>
      lt (sti s_3 72 0 (0 : Int32)) fun s_4 =>
      lt (sti s_4 73 0 (0 : Int32)) fun s_5 =>
      lt (sti s_5 74 0 ((-1) : Int32)) fun s_6 =>
      lt (sti s_6 75 0 (0 : Int32)) fun s_7 =>
      lt (sti s_7 76 0 x3) fun s_8 =>
      lt (sti s_8 77 0 x4) fun s_9 =>
      some s_9
    ) else (
      jn (fun (t0_10 : Int32) => (
        ix 6 x5_1 <| lt (sti s_1 69 x5_1.toNatClampNeg t0_10) fun s_11 =>
        lt (x5_1 + 1) fun x5_12 =>
        a_3 x5_12 s_11
      )) fun k_36 =>
      if x5_1 = 0 then (
        k_36 x1
      ) else (
        if x5_1 = 1 then (
          k_36 x2
        ) else (
          k_36 (0 : Int32)
        )
      )
    )
  )) LF (0 : Int32) σ
def f_X12_caught (x1 : Int32) (σ : Sto) : Option (Int32 × Sto) :=
  lt (sti σ 78 0 (0 : Int32)) fun s_1 =>
  calp (f_X12_handlerOf_handler (s_1.1 16 0) x1 s_1) fun v_2 =>
  if v_2 = (-1) then (
    lt (sti s_1 74 0 (1 : Int32)) fun s_4 =>
    lt (sti s_4 75 0 (s_4.1 79 0)) fun s_5 =>
    some (x1, s_5)
  ) else (
    ix 8 (0 : Int32) <| lt (sti s_1 80 (0 : Int32).toNatClampNeg (s_1.1 79 0)) fun s_6 =>
    lt (sti s_6 81 0 (1 : Int32)) fun s_7 =>
    ix 9 (((3 : Int32) * v_2) + 2) <| lt (s_7.1 11 (((3 : Int32) * v_2) + 2).toNatClampNeg) fun v_8 =>
    some (v_8, s_7)
  )
def f_X12_input  (σ : Sto) : Option (Int32 × Sto) :=
  lt (sti σ 76 0 (((σ.1 76 0) * 1103515245) + 12345)) fun s_1 =>
  lt (sti s_1 72 0 ((s_1.1 72 0) + 1)) fun s_2 =>
  some ((((((s_2.1 76 0).toUInt32 >>> ((16 : Int32).toUInt32 &&& Int32.toUInt32 31)).toInt32) &&& 32767) - ((((s_2.1 76 0).toUInt32 >>> ((16 : Int32).toUInt32 &&& Int32.toUInt32 31)).toInt32) &&& 32767) / 5 * 5), s_2)
def f_X12_outputs (x1 : Int32) (σ : Sto) : Option Sto :=
  ix 8000 (σ.1 71 0) <| lt (sti σ 70 (σ.1 71 0).toNatClampNeg x1) fun s_1 =>
  lt (sti s_1 71 0 ((s_1.1 71 0) + 1)) fun s_2 =>
  some s_2
def f_X12_throwsIt (x1 : Int32) (σ : Sto) : Option Sto :=
  lt (sti σ 78 0 (1 : Int32)) fun s_1 =>
  lt (sti s_1 79 0 x1) fun s_2 =>
  some s_2
def f_X12_result (x1 : Int32) (x2 : Int32) (x3 : Int32) (σ : Sto) : Option (Int32 × Sto) :=
  if x1.toInt = 42 then (
    some ((x2 * x3), σ)
  ) else (
  if x1.toInt = 43 then (
    some ((x2 + x3), σ)
  ) else (
  if x1.toInt = 45 then (
    some ((x2 - x3), σ)
  ) else (
  if x1.toInt = 60 then (
    if x3 ≤ x2 then (
      some ((0 : Int32), σ)
    ) else (
      some ((1 : Int32), σ)
    )
  ) else (
  if x1.toInt = 61 then (
    if x2 = x3 then (
      some ((1 : Int32), σ)
    ) else (
      some ((0 : Int32), σ)
    )
  ) else (
    jn (fun (s_4 : Sto) => (
      if x3 = 0 then (
        some ((0 : Int32), s_4)
      ) else (
        if x1 = 47 then (
          nz x3 <|
          some ((x2 / x3), s_4)
        ) else (
          nz x3 <|
          some ((x2 - x2 / x3 * x3), s_4)
        )
      )
    )) fun k_96 =>
    if x3 = 0 then (
      cals (f_X12_throwsIt (99 : Int32) σ) fun s_10 =>
      k_96 s_10
    ) else (
      k_96 σ
    )
  )
  )
  )
  )
  )
def f_X12_next (x1 : Int32) (σ : Sto) : Option (Int32 × Sto) :=
  ix 40 x1 <| lt (σ.1 9 x1.toNatClampNeg) fun v_1 =>
  calp (f_X12_pops v_1) fun v_2 =>
  jn (fun (t0_3 : Int32) => (
    calp (f_X12_pops v_1) fun v_4 =>
    jn (fun (t0_5 : Int32) => (
      calp (f_X12_pops v_1) fun v_6 =>
      lt (sti σ 81 0 ((σ.1 81 0) - v_6)) fun s_7 =>
      lt (x1 + 1) fun x5_8 =>
      jn (fun (x5_9 : Int32) (x6_9 : Int32) (s_9 : Sto) => (
        calp (f_X12_pushes v_1) fun v_10 =>
        jn (fun (s_11 : Sto) => (
          calp (f_X12_pushes v_1) fun v_12 =>
          lt (sti s_11 81 0 ((s_11.1 81 0) + v_12)) fun s_13 =>
          if (s_13.1 78 0) = 0 then (
            some (x5_9, s_13)
          ) else (
            calv (f_X12_caught x1 s_13) fun v_15 s_15 =>
            some (v_15, s_15)
          )
        )) fun k_395 =>
        if v_10 = 1 then (
          ix 8 (s_9.1 81 0) <| lt (sti s_9 80 (s_9.1 81 0).toNatClampNeg x6_9) fun s_17 =>
          k_395 s_17
        ) else (
          k_395 s_9
        )
      )) fun k_376 =>
      if v_1.toInt = 33 then (
        jn (fun (t0_19 : Int32) => (
          k_376 x5_8 t0_19 s_7
        )) fun k_268 =>
        if t0_3 = 0 then (
          k_268 (1 : Int32)
        ) else (
          k_268 (0 : Int32)
        )
      ) else (
      if v_1.toInt = 100 ∨ v_1.toInt = 119 then (
        ix 8 (s_7.1 81 0) <| lt (sti s_7 80 (s_7.1 81 0).toNatClampNeg t0_3) fun s_21 =>
        jn (fun (t0_22 : Int32) => (
          ix 8 ((s_21.1 81 0) + 1) <| lt (sti s_21 80 ((s_21.1 81 0) + 1).toNatClampNeg t0_22) fun s_23 =>
          k_376 x5_8 (0 : Int32) s_23
        )) fun k_312 =>
        if v_1 = 100 then (
          k_312 t0_3
        ) else (
          k_312 t0_5
        )
      ) else (
      if v_1.toInt = 103 then (
        ix 40 x1 <| lt (s_7.1 10 x1.toNatClampNeg) fun v_25 =>
        k_376 v_25 (0 : Int32) s_7
      ) else (
      if v_1.toInt = 105 then (
        calv (f_X12_input s_7) fun v_26 s_26 =>
        k_376 x5_8 v_26 s_26
      ) else (
      if v_1.toInt = 107 then (
        ix 40 x1 <| lt (s_7.1 10 x1.toNatClampNeg) fun v_27 =>
        k_376 x5_8 v_27 s_7
      ) else (
      if v_1.toInt = 108 then (
        ix 40 x1 <| lt (s_7.1 10 x1.toNatClampNeg) fun v_28 =>
        ix 6 v_28 <| lt (s_7.1 69 v_28.toNatClampNeg) fun v_29 =>
        k_376 x5_8 v_29 s_7
      ) else (
      if v_1.toInt = 110 then (
        lt (-t0_3) fun x6_30 =>
        k_376 x5_8 x6_30 s_7
      ) else (
      if v_1.toInt = 111 then (
        cals (f_X12_outputs t0_3 s_7) fun s_31 =>
        k_376 x5_8 (0 : Int32) s_31
      ) else (
      if v_1.toInt = 112 then (
        k_376 x5_8 (0 : Int32) s_7
      ) else (
      if v_1.toInt = 114 then (
        lt (sti s_7 74 0 (0 : Int32)) fun s_32 =>
        k_376 x5_8 (0 : Int32) s_32
      ) else (
      if v_1.toInt = 115 then (
        ix 40 x1 <| lt (s_7.1 10 x1.toNatClampNeg) fun v_33 =>
        ix 6 v_33 <| lt (sti s_7 69 v_33.toNatClampNeg t0_3) fun s_34 =>
        k_376 x5_8 (0 : Int32) s_34
      ) else (
      if v_1.toInt = 116 then (
        cals (f_X12_throwsIt t0_3 s_7) fun s_35 =>
        k_376 x5_8 (0 : Int32) s_35
      ) else (
      if v_1.toInt = 122 then (
        jn (fun (t0_36 : Int32) => (
          k_376 t0_36 (0 : Int32) s_7
        )) fun k_342 =>
        if t0_3 = 0 then (
          ix 40 x1 <| lt (s_7.1 10 x1.toNatClampNeg) fun v_38 =>
          k_342 v_38
        ) else (
          k_342 x5_8
        )
      ) else (
        calv (f_X12_result v_1 t0_5 t0_3 s_7) fun v_39 s_39 =>
        k_376 x5_8 v_39 s_39
      )
      )
      )
      )
      )
      )
      )
      )
      )
      )
      )
      )
      )
    )) fun k_53 =>
    if v_4 ≤ 1 then (
      k_53 (0 : Int32)
    ) else (
      ix 8 ((σ.1 81 0) - 2) <| lt (σ.1 80 ((σ.1 81 0) - 2).toNatClampNeg) fun v_41 =>
      k_53 v_41
    )
  )) fun k_29 =>
  if v_2 ≤ 0 then (
    k_29 (0 : Int32)
  ) else (
    ix 8 ((σ.1 81 0) - 1) <| lt (σ.1 80 ((σ.1 81 0) - 1).toNatClampNeg) fun v_43 =>
    k_29 v_43
  )
def f_X12_enters  (σ : Sto) : Option Sto :=
  if (σ.1 73 0) = (σ.1 77 0) then (
    lt (sti σ 74 0 (2 : Int32)) fun s_2 =>
    some s_2
  ) else (
    lt (sti σ 73 0 ((σ.1 73 0) + 1)) fun s_3 =>
    some s_3
  )
def f_X12_runsCode  (σ : Sto) : Option Sto :=
  lt (sti σ 81 0 (0 : Int32)) fun s_1 =>
  lt (sti s_1 78 0 (0 : Int32)) fun s_2 =>
  itr (fun _ _ => none) (fun (a_12 : Int32 → Sto → Option Sto) (x1_3 : Int32) (s_3 : Sto) => (
    if (s_3.1 74 0) = (-1) then (
      ix 40 x1_3 <| lt (s_3.1 24 x1_3.toNatClampNeg) fun v_5 =>
      ix 40 v_5 <| lt (s_3.1 22 v_5.toNatClampNeg) fun v_6 =>
      jn (fun (s_7 : Sto) => (
        if (s_7.1 74 0) = (-1) then (
          calv (f_X12_next x1_3 s_7) fun v_9 s_9 =>
          a_12 v_9 s_9
        ) else (
          a_12 x1_3 s_7
        )
      )) fun k_39 =>
      if v_6 = x1_3 then (
        cals (f_X12_enters s_3) fun s_11 =>
        k_39 s_11
      ) else (
        k_39 s_3
      )
    ) else (
      some s_3
    )
  )) LF (0 : Int32) s_2
def b_X12_valueOf (q_X12_valueOf : Int32 → Sto → Option (Int32 × Sto)) (x1 : Int32) (σ : Sto) : Option (Int32 × Sto) :=
  ix 6000 x1 <| lt (σ.1 38 x1.toNatClampNeg) fun v_1 =>
  if v_1.toInt = 0 then (
    ix 6000 x1 <| lt (σ.1 39 x1.toNatClampNeg) fun v_3 =>
    some (v_3, σ)
  ) else (
  if v_1.toInt = 1 then (
    ix 6000 x1 <| lt (σ.1 39 x1.toNatClampNeg) fun v_4 =>
    ix 6 v_4 <| lt (σ.1 69 v_4.toNatClampNeg) fun v_5 =>
    some (v_5, σ)
  ) else (
  if v_1.toInt = 2 then (
    ix 6000 x1 <| lt (σ.1 39 x1.toNatClampNeg) fun v_6 =>
    ix 8 v_6 <| lt (σ.1 82 v_6.toNatClampNeg) fun v_7 =>
    some (v_7, σ)
  ) else (
  if v_1.toInt = 3 then (
    ix 6000 x1 <| lt (σ.1 39 x1.toNatClampNeg) fun v_8 =>
    ix 400 v_8 <| lt (σ.1 83 v_8.toNatClampNeg) fun v_9 =>
    some (v_9, σ)
  ) else (
  if v_1.toInt = 4 then (
    calv (f_X12_input σ) fun v_10 s_10 =>
    some (v_10, s_10)
  ) else (
  if v_1.toInt = 5 then (
    ix 6000 x1 <| lt (σ.1 39 x1.toNatClampNeg) fun v_11 =>
    calv (q_X12_valueOf v_11 σ) fun v_12 s_12 =>
    if v_12 = 0 then (
      some ((1 : Int32), s_12)
    ) else (
      some ((0 : Int32), s_12)
    )
  ) else (
  if v_1.toInt = 6 then (
    ix 6000 x1 <| lt (σ.1 39 x1.toNatClampNeg) fun v_14 =>
    calv (q_X12_valueOf v_14 σ) fun v_15 s_15 =>
    some ((-v_15), s_15)
  ) else (
    ix 6000 x1 <| lt (σ.1 39 x1.toNatClampNeg) fun v_16 =>
    calv (q_X12_valueOf v_16 σ) fun v_17 s_17 =>
    if (s_17.1 78 0) = 0 then (
      ix 6000 x1 <| lt (s_17.1 40 x1.toNatClampNeg) fun v_19 =>
      calv (q_X12_valueOf v_19 s_17) fun v_20 s_20 =>
      if (s_20.1 78 0) = 0 then (
        ix 6000 x1 <| lt (s_20.1 38 x1.toNatClampNeg) fun v_22 =>
        calv (f_X12_result v_22 v_17 v_20 s_20) fun v_23 s_23 =>
        some (v_23, s_23)
      ) else (
        some ((0 : Int32), s_20)
      )
    ) else (
      some ((0 : Int32), s_17)
    )
  )
  )
  )
  )
  )
  )
  )
def g_X12_valueOf : Nat → ((Int32 → Sto → Option (Int32 × Sto)))
  | 0 => fun _ _ => none
  | d + 1 => b_X12_valueOf (g_X12_valueOf d)
def f_X12_valueOf (d : Nat) : Int32 → Sto → Option (Int32 × Sto) := (g_X12_valueOf d)
def f_X12_endOf (x1 : Int32) (x2 : Int32) (σ : Sto) : Option Int32 :=
  itr (fun _ => none) (fun (a_2 : Int32 → Option Int32) (x3_1 : Int32) => (
    ix 1400 x3_1 <| lt (σ.1 58 x3_1.toNatClampNeg) fun v_2 =>
    jn (
      lt (x3_1 + 1) fun x3_4 =>
      a_2 x3_4
    ) fun k_32 =>
    if v_2 = 5 then (
      ix 1400 x3_1 <| lt (σ.1 61 x3_1.toNatClampNeg) fun v_6 =>
      if v_6 = x1 then (
        ix 1400 x3_1 <| lt (σ.1 59 x3_1.toNatClampNeg) fun v_8 =>
        if v_8 = x2 then (
          some x3_1
        ) else (
          k_32
        )
      ) else (
        k_32
      )
    ) else (
      k_32
    )
  )) LF (0 : Int32)
def f_X12_lineWith (x1 : Int32) (x2 : Int32) (σ : Sto) : Option Int32 :=
  itr (fun _ => none) (fun (a_2 : Int32 → Option Int32) (x3_1 : Int32) => (
    ix 1400 x3_1 <| lt (σ.1 58 x3_1.toNatClampNeg) fun v_2 =>
    jn (
      lt (x3_1 + 1) fun x3_4 =>
      a_2 x3_4
    ) fun k_22 =>
    if v_2 = x1 then (
      ix 1400 x3_1 <| lt (σ.1 59 x3_1.toNatClampNeg) fun v_6 =>
      if v_6 = x2 then (
        some x3_1
      ) else (
        k_22
      )
    ) else (
      k_22
    )
  )) LF (0 : Int32)
def f_X12_wayTo (x1 : Int32) (x2 : Int32) (σ : Sto) : Option Int32 :=
  calp (f_X12_edgeOf x1 x2 σ) fun v_1 =>
  ix 120 v_1 <| lt (σ.1 31 v_1.toNatClampNeg) fun v_2 =>
  if v_2 = 0 then (
    calp (f_X12_endOf (2 : Int32) x2 σ) fun v_4 =>
    some (v_4 + 1)
  ) else (
    calp (f_X12_lineWith (1 : Int32) x2 σ) fun v_5 =>
    some v_5
  )
def f_X12_caughtLine (x1 : Int32) (x2 : Int32) (σ : Sto) : Option (Int32 × Sto) :=
  lt (sti σ 78 0 (0 : Int32)) fun s_1 =>
  ix 40 x1 <| lt (s_1.1 25 x1.toNatClampNeg) fun v_2 =>
  if v_2 = (-1) then (
    lt (sti s_1 74 0 (1 : Int32)) fun s_4 =>
    lt (sti s_4 75 0 (s_4.1 79 0)) fun s_5 =>
    some (x2, s_5)
  ) else (
    ix 8 (0 : Int32) <| lt (sti s_1 82 (0 : Int32).toNatClampNeg (s_1.1 79 0)) fun s_6 =>
    ix 40 x1 <| lt (s_6.1 25 x1.toNatClampNeg) fun v_7 =>
    calp (f_X12_wayTo x1 v_7 s_6) fun v_8 =>
    some (v_8, s_6)
  )
def f_X12_puts (x1 : Int32) (x2 : Int32) (σ : Sto) : Option Sto :=
  ix 400 x1 <| lt (σ.1 42 x1.toNatClampNeg) fun v_1 =>
  if v_1.toInt = 0 then (
    ix 400 x1 <| lt (σ.1 43 x1.toNatClampNeg) fun v_3 =>
    ix 6 v_3 <| lt (sti σ 69 v_3.toNatClampNeg x2) fun s_4 =>
    some s_4
  ) else (
  if v_1.toInt = 1 then (
    ix 400 x1 <| lt (σ.1 43 x1.toNatClampNeg) fun v_5 =>
    ix 8 v_5 <| lt (sti σ 82 v_5.toNatClampNeg x2) fun s_6 =>
    some s_6
  ) else (
  if v_1.toInt = 2 then (
    ix 400 x1 <| lt (σ.1 43 x1.toNatClampNeg) fun v_7 =>
    ix 400 v_7 <| lt (sti σ 83 v_7.toNatClampNeg x2) fun s_8 =>
    some s_8
  ) else (
  if v_1.toInt = 3 then (
    cals (f_X12_outputs x2 σ) fun s_9 =>
    some s_9
  ) else (
  if v_1.toInt = 5 then (
    cals (f_X12_throwsIt x2 σ) fun s_10 =>
    some s_10
  ) else (
    some σ
  )
  )
  )
  )
  )
def f_X12_states_ (x1 : Int32) (x2 : Int32) (σ : Sto) : Option (Int32 × Sto) :=
  ix 400 x1 <| lt (σ.1 44 x1.toNatClampNeg) fun v_1 =>
  ix 400 x1 <| lt (σ.1 42 x1.toNatClampNeg) fun v_2 =>
  if v_2 = 6 then (
    lt (sti σ 74 0 (0 : Int32)) fun s_4 =>
    some (x2, s_4)
  ) else (
    calv (f_X12_valueOf 250 v_1 σ) fun v_5 s_5 =>
    jn (fun (s_6 : Sto) => (
      if (s_6.1 78 0) = 0 then (
        some ((x2 + 1), s_6)
      ) else (
        ix 1400 x2 <| lt (s_6.1 59 x2.toNatClampNeg) fun v_8 =>
        calv (f_X12_caughtLine v_8 x2 s_6) fun v_9 s_9 =>
        some (v_9, s_9)
      )
    )) fun k_46 =>
    if (s_5.1 78 0) = 0 then (
      cals (f_X12_puts x1 v_5 s_5) fun s_11 =>
      k_46 s_11
    ) else (
      k_46 s_5
    )
  )
def f_X12_otherwiseOf (x1 : Int32) (σ : Sto) : Option Int32 :=
  calp (f_X12_lineWith (3 : Int32) x1 σ) fun v_1 =>
  lt (v_1 + 1) fun x2_2 =>
  itr (fun _ => none) (fun (a_9 : Int32 → Option Int32) (x2_3 : Int32) => (
    ix 1400 x2_3 <| lt (σ.1 58 x2_3.toNatClampNeg) fun v_4 =>
    jn (
      some (x2_3 + 1)
    ) fun k_65 =>
    jn (
      ix 1400 x2_3 <| lt (σ.1 58 x2_3.toNatClampNeg) fun v_7 =>
      jn (
        lt (x2_3 + 1) fun x2_9 =>
        a_9 x2_9
      ) fun k_59 =>
      if v_7 = 5 then (
        ix 1400 x2_3 <| lt (σ.1 61 x2_3.toNatClampNeg) fun v_11 =>
        if v_11 = 3 then (
          ix 1400 x2_3 <| lt (σ.1 59 x2_3.toNatClampNeg) fun v_13 =>
          if v_13 = x1 then (
            k_65
          ) else (
            k_59
          )
        ) else (
          k_59
        )
      ) else (
        k_59
      )
    ) fun k_29 =>
    if v_4 = 4 then (
      ix 1400 x2_3 <| lt (σ.1 59 x2_3.toNatClampNeg) fun v_16 =>
      if v_16 = x1 then (
        k_65
      ) else (
        k_29
      )
    ) else (
      k_29
    )
  )) LF x2_2
def f_X12_nextLine (x1 : Int32) (σ : Sto) : Option (Int32 × Sto) :=
  ix 1400 x1 <| lt (σ.1 59 x1.toNatClampNeg) fun v_1 =>
  ix 1400 x1 <| lt (σ.1 58 x1.toNatClampNeg) fun v_2 =>
  if v_2.toInt = 0 then (
    ix 1400 x1 <| lt (σ.1 61 x1.toNatClampNeg) fun v_4 =>
    calv (f_X12_states_ v_4 x1 σ) fun v_5 s_5 =>
    some (v_5, s_5)
  ) else (
  if v_2.toInt = 3 then (
    ix 40 v_1 <| lt (σ.1 46 v_1.toNatClampNeg) fun v_6 =>
    calv (f_X12_valueOf 250 v_6 σ) fun v_7 s_7 =>
    if v_7 = 0 then (
      calp (f_X12_otherwiseOf v_1 s_7) fun v_9 =>
      some (v_9, s_7)
    ) else (
      some ((x1 + 1), s_7)
    )
  ) else (
  if v_2.toInt = 4 then (
    calp (f_X12_endOf (3 : Int32) v_1 σ) fun v_10 =>
    some ((v_10 + 1), σ)
  ) else (
  if v_2.toInt = 6 then (
    calp (f_X12_endOf (2 : Int32) v_1 σ) fun v_11 =>
    some ((v_11 + 1), σ)
  ) else (
  if v_2.toInt = 7 then (
    calp (f_X12_lineWith (1 : Int32) v_1 σ) fun v_12 =>
    some (v_12, σ)
  ) else (
  if v_2.toInt = 8 then (
    calp (f_X12_lineWith (11 : Int32) v_1 σ) fun v_13 =>
    some (v_13, σ)
  ) else (
  if v_2.toInt = 11 then (
    cals (f_X12_enters σ) fun s_14 =>
    some ((x1 + 1), s_14)
  ) else (
    some ((x1 + 1), σ)
  )
  )
  )
  )
  )
  )
  )
def f_X12_runsLines  (σ : Sto) : Option Sto :=
  lt (sti σ 78 0 (0 : Int32)) fun s_1 =>
  itr (fun _ _ => none) (fun (a_7 : Int32 → Sto → Option Sto) (x1_2 : Int32) (s_2 : Sto) => (
    if 8 ≤ x1_2 then (
      itr (fun _ _ => none) (fun (a_28 : Int32 → Sto → Option Sto) (x1_4 : Int32) (s_4 : Sto) => (
        if (s_4.1 48 0) ≤ x1_4 then (
          itr (fun _ _ => none) (fun (a_51 : Int32 → Sto → Option Sto) (x1_6 : Int32) (s_6 : Sto) => (
            if (s_6.1 74 0) = (-1) then (
              calv (f_X12_nextLine x1_6 s_6) fun v_8 s_8 =>
              a_51 v_8 s_8
            ) else (
              some s_6
            )
          )) LF (0 : Int32) s_4
        ) else (
          ix 400 x1_4 <| lt (sti s_4 83 x1_4.toNatClampNeg (0 : Int32)) fun s_9 =>
          lt (x1_4 + 1) fun x1_10 =>
          a_28 x1_10 s_9
        )
      )) LF (0 : Int32) s_2
    ) else (
      ix 8 x1_2 <| lt (sti s_2 82 x1_2.toNatClampNeg (0 : Int32)) fun s_11 =>
      lt (x1_2 + 1) fun x1_12 =>
      a_7 x1_12 s_11
    )
  )) LF (0 : Int32) s_1
def f_X12_hasRun (x1 : Int32) (x2 : Int32) (x3 : Int32) (x4 : Int32) (x5 : Int32) (σ : Sto) : Option (Int32 × Sto) :=
  if (σ.1 21 0) = 0 then (
    some ((0 : Int32), σ)
  ) else (
    calp (f_X12_isIn x1.toInt64 (0 : Int64) (1 : Int64)) fun v_2 =>
    if v_2 = 0 then (
      some ((0 : Int32), σ)
    ) else (
      jn (
        calp (f_X12_isIn x5.toInt64 (1 : Int64) (200 : Int64)) fun v_5 =>
        if v_5 = 0 then (
          some ((0 : Int32), σ)
        ) else (
          cals (f_X12_begins x2 x3 x4 x5 σ) fun s_7 =>
          if x1 = 0 then (
            cals (f_X12_runsCode s_7) fun s_9 =>
            some ((1 : Int32), s_9)
          ) else (
            cals (f_X12_runsLines s_7) fun s_10 =>
            some ((1 : Int32), s_10)
          )
        )
      ) fun k_30 =>
      if x1 = 1 then (
        if (σ.1 36 0) = (-1) then (
          some ((0 : Int32), σ)
        ) else (
          k_30
        )
      ) else (
        k_30
      )
    )
  )
def f_X12_folded  (σ : Sto) : Option Int32 :=
  itr (fun _ _ => none) (fun (a_4 : Int32 → Int32 → Option Int32) (x1_1 : Int32) (x2_1 : Int32) => (
    if (σ.1 71 0) ≤ x2_1 then (
      some x1_1
    ) else (
      ix 8000 x2_1 <| lt (σ.1 70 x2_1.toNatClampNeg) fun v_3 =>
      lt (((31 : Int32) * x1_1) + v_3) fun x1_4 =>
      lt (x2_1 + 1) fun x2_5 =>
      a_4 x1_4 x2_5
    )
  )) LF (0 : Int32) (0 : Int32)
def f_X12_run (x1 : Int32) (x2 : Int32) (x3 : Int32) (x4 : Int32) (x5 : Int32) (x6 : Int32) (σ : Sto) : Option (Int32 × Sto) :=
  lt (sti σ 0 0 (0 : Int32)) fun s_1 =>
  calp (f_X12_isIn x6.toInt64 (0 : Int64) (11 : Int64)) fun v_2 =>
  if v_2 = 0 then (
    some (((-1000000) : Int32), s_1)
  ) else (
    calv (f_X12_hasRun x1 x2 x3 x4 x5 s_1) fun v_4 s_4 =>
    if v_4 = 0 then (
      some (((-1000000) : Int32), s_4)
    ) else (
      if x6.toInt = 0 then (
        some ((s_4.1 71 0), s_4)
      ) else (
      if x6.toInt = 1 then (
        some ((s_4.1 74 0), s_4)
      ) else (
      if x6.toInt = 2 then (
        some ((s_4.1 75 0), s_4)
      ) else (
      if x6.toInt = 3 then (
        some ((s_4.1 72 0), s_4)
      ) else (
      if x6.toInt = 4 then (
        some ((s_4.1 73 0), s_4)
      ) else (
      if x6.toInt = 11 then (
        calp (f_X12_folded s_4) fun v_7 =>
        some (v_7, s_4)
      ) else (
        ix 6 (x6 - 5) <| lt (s_4.1 69 (x6 - 5).toNatClampNeg) fun v_8 =>
        some (v_8, s_4)
      )
      )
      )
      )
      )
      )
    )
  )
def f_X12_output (x1 : Int32) (x2 : Int32) (x3 : Int32) (x4 : Int32) (x5 : Int32) (x6 : Int32) (σ : Sto) : Option (Int32 × Sto) :=
  lt (sti σ 0 0 (0 : Int32)) fun s_1 =>
  jn (fun (s_2 : Sto) => (
    some (((-1000000) : Int32), s_2)
  )) fun k_43 =>
  if x6 < 0 then (
    k_43 s_1
  ) else (
    calv (f_X12_hasRun x1 x2 x3 x4 x5 s_1) fun v_4 s_4 =>
    if v_4 = 0 then (
      k_43 s_4
    ) else (
      if (s_4.1 71 0) ≤ x6 then (
        k_43 s_4
      ) else (
        ix 8000 x6 <| lt (s_4.1 70 x6.toNatClampNeg) fun v_7 =>
        some (v_7, s_4)
      )
    )
  )
def f_X12_comesTo (x1 : Int32) (σ : Sto) : Option (Int64 × Sto) :=
  lt (sti σ 0 0 (0 : Int32)) fun s_1 =>
  calp (f_X12_isBlock x1 s_1) fun v_2 =>
  if v_2 = 0 then (
    some (((-1) : Int64), s_1)
  ) else (
    itr (fun _ _ => none) (fun (a_22 : Int64 → Int32 → Option (Int64 × Sto)) (x2_4 : Int64) (x4_4 : Int32) => (
      if x4_4 = 0 then (
        some (x2_4, s_1)
      ) else (
        itr (fun _ _ _ => none) (fun (a_33 : Int64 → Int32 → Int32 → Option (Int64 × Sto)) (x2_6 : Int64) (x4_6 : Int32) (x5_6 : Int32) => (
          if (s_1.1 32 0) ≤ x5_6 then (
            a_22 x2_6 x4_6
          ) else (
            ix 120 x5_6 <| lt (s_1.1 28 x5_6.toNatClampNeg) fun v_8 =>
            jn (fun (x2_9 : Int64) (x4_9 : Int32) => (
              lt (x5_6 + 1) fun x5_10 =>
              a_33 x2_9 x4_9 x5_10
            )) fun k_99 =>
            jn (
              ix 120 x5_6 <| lt (s_1.1 27 x5_6.toNatClampNeg) fun v_12 =>
              calp (f_X12_has x2_6 v_12) fun v_13 =>
              if v_13 = 0 then (
                ix 120 x5_6 <| lt (s_1.1 27 x5_6.toNatClampNeg) fun v_15 =>
                lt (x2_6 ||| ((1 : Int64) <<< (v_15.toInt64 &&& 63))) fun x2_16 =>
                k_99 x2_16 (1 : Int32)
              ) else (
                k_99 x2_6 x4_6
              )
            ) fun k_67 =>
            if v_8 = x1 then (
              k_67
            ) else (
              ix 120 x5_6 <| lt (s_1.1 28 x5_6.toNatClampNeg) fun v_18 =>
              calp (f_X12_has x2_6 v_18) fun v_19 =>
              if v_19 = 0 then (
                k_99 x2_6 x4_6
              ) else (
                k_67
              )
            )
          )
        )) LF x2_4 (0 : Int32) (0 : Int32)
      )
    )) LF (0 : Int64) (1 : Int32)
  )
def f_X12_far (x1 : Int32) (x2 : Int32) (σ : Sto) : Option (Int32 × Sto) :=
  lt (sti σ 0 0 (0 : Int32)) fun s_1 =>
  calp (f_X12_isBlock x1 s_1) fun v_2 =>
  if v_2 = 0 then (
    some (((-1) : Int32), s_1)
  ) else (
    calp (f_X12_isBlock x2 s_1) fun v_4 =>
    if v_4 = 0 then (
      some (((-1) : Int32), s_1)
    ) else (
      lt ((1 : Int64) <<< (x1.toInt64 &&& 63)) fun x3_6 =>
      itr (fun _ _ => none) (fun (a_30 : Int64 → Int32 → Option (Int32 × Sto)) (x3_7 : Int64) (x5_7 : Int32) => (
        calp (f_X12_has x3_7 x2) fun v_8 =>
        if v_8 = 0 then (
          itr (fun _ _ => none) (fun (a_44 : Int64 → Int32 → Option (Int32 × Sto)) (x6_10 : Int64) (x8_10 : Int32) => (
            if (s_1.1 32 0) ≤ x8_10 then (
              if (lg_cmp x6_10 x3_7) = 0 then (
                some (((-1) : Int32), s_1)
              ) else (
                lt (x5_7 + 1) fun x5_13 =>
                a_30 x6_10 x5_13
              )
            ) else (
              ix 120 x8_10 <| lt (s_1.1 27 x8_10.toNatClampNeg) fun v_14 =>
              calp (f_X12_has x3_7 v_14) fun v_15 =>
              jn (fun (x6_16 : Int64) => (
                lt (x8_10 + 1) fun x8_17 =>
                a_44 x6_16 x8_17
              )) fun k_81 =>
              if v_15 = 0 then (
                k_81 x6_10
              ) else (
                ix 120 x8_10 <| lt (s_1.1 28 x8_10.toNatClampNeg) fun v_19 =>
                lt (x6_10 ||| ((1 : Int64) <<< (v_19.toInt64 &&& 63))) fun x6_20 =>
                k_81 x6_20
              )
            )
          )) LF x3_7 (0 : Int32)
        ) else (
          some (x5_7, s_1)
        )
      )) LF x3_6 (0 : Int32)
    )
  )
def f_X12_mostLoops  (σ : Sto) : Option Int32 :=
  itr (fun _ _ => none) (fun (a_4 : Int32 → Int32 → Option Int32) (x1_1 : Int32) (x2_1 : Int32) => (
    if (σ.1 26 0) ≤ x2_1 then (
      some x1_1
    ) else (
      calp (f_X12_loopsOf x2_1 σ) fun v_3 =>
      lt (if x1_1 < v_3 then v_3 else x1_1) fun v_4 =>
      lt (x2_1 + 1) fun x2_5 =>
      a_4 v_4 x2_5
    )
  )) LF (0 : Int32) (0 : Int32)
def f_X12_deepest  (σ : Sto) : Option Int32 :=
  itr (fun _ _ => none) (fun (a_4 : Int32 → Int32 → Option Int32) (x1_1 : Int32) (x2_1 : Int32) => (
    if (σ.1 62 0) ≤ x2_1 then (
      some x1_1
    ) else (
      ix 1400 x2_1 <| lt (σ.1 60 x2_1.toNatClampNeg) fun v_3 =>
      lt (if x1_1 < v_3 then v_3 else x1_1) fun v_4 =>
      lt (x2_1 + 1) fun x2_5 =>
      a_4 v_4 x2_5
    )
  )) LF (0 : Int32) (0 : Int32)
def f_X12_mostLines (x1 : Int32) (σ : Sto) : Option Int32 :=
  itr (fun _ _ => none) (fun (a_4 : Int32 → Int32 → Option Int32) (x2_1 : Int32) (x3_1 : Int32) => (
    if (σ.1 62 0) ≤ x3_1 then (
      some x2_1
    ) else (
      ix 1400 x3_1 <| lt (σ.1 58 x3_1.toNatClampNeg) fun v_3 =>
      jn (fun (t0_4 : Int32) => (
        lt (x2_1 + t0_4) fun x2_5 =>
        lt (x3_1 + 1) fun x3_6 =>
        a_4 x2_5 x3_6
      )) fun k_28 =>
      if v_3 = x1 then (
        k_28 (1 : Int32)
      ) else (
        k_28 (0 : Int32)
      )
    )
  )) LF (0 : Int32) (0 : Int32)
def f_X12_mostWithin  (σ : Sto) : Option Int32 :=
  itr (fun _ _ => none) (fun (a_4 : Int32 → Int32 → Option Int32) (x1_1 : Int32) (x2_1 : Int32) => (
    if (σ.1 47 0) ≤ x2_1 then (
      some x1_1
    ) else (
      ix 400 x2_1 <| lt (σ.1 44 x2_1.toNatClampNeg) fun v_3 =>
      jn (fun (x1_4 : Int32) => (
        lt (x2_1 + 1) fun x2_5 =>
        a_4 x1_4 x2_5
      )) fun k_37 =>
      if v_3 = (-1) then (
        k_37 x1_1
      ) else (
        ix 400 x2_1 <| lt (σ.1 44 x2_1.toNatClampNeg) fun v_7 =>
        calp (f_X12_within 250 v_7 σ) fun v_8 =>
        lt (if x1_1 < v_8 then v_8 else x1_1) fun v_9 =>
        k_37 v_9
      )
    )
  )) LF (0 : Int32) (0 : Int32)
def f_X12_mostOnStack  (σ : Sto) : Option Int32 :=
  itr (fun _ _ => none) (fun (a_4 : Int32 → Int32 → Option Int32) (x1_1 : Int32) (x2_1 : Int32) => (
    if (σ.1 15 0) ≤ x2_1 then (
      some x1_1
    ) else (
      calp (f_X12_isCome x2_1 σ) fun v_3 =>
      jn (fun (x1_4 : Int32) => (
        lt (x2_1 + 1) fun x2_5 =>
        a_4 x1_4 x2_5
      )) fun k_60 =>
      if v_3 = 0 then (
        k_60 x1_1
      ) else (
        ix 40 x2_1 <| lt (σ.1 20 x2_1.toNatClampNeg) fun v_7 =>
        ix 40 x2_1 <| lt (σ.1 20 x2_1.toNatClampNeg) fun v_8 =>
        ix 40 x2_1 <| lt (σ.1 9 x2_1.toNatClampNeg) fun v_9 =>
        calp (f_X12_pops v_9) fun v_10 =>
        ix 40 x2_1 <| lt (σ.1 9 x2_1.toNatClampNeg) fun v_11 =>
        calp (f_X12_pushes v_11) fun v_12 =>
        lt (if v_7 < ((v_8 - v_10) + v_12) then ((v_8 - v_10) + v_12) else v_7) fun v_13 =>
        lt (if x1_1 < v_13 then v_13 else x1_1) fun v_14 =>
        k_60 v_14
      )
    )
  )) LF (0 : Int32) (0 : Int32)
def f_X12_longestBlock  (σ : Sto) : Option Int32 :=
  itr (fun _ _ => none) (fun (a_4 : Int32 → Int32 → Option Int32) (x1_1 : Int32) (x2_1 : Int32) => (
    if (σ.1 26 0) ≤ x2_1 then (
      some x1_1
    ) else (
      ix 41 (x2_1 + 1) <| lt (σ.1 45 (x2_1 + 1).toNatClampNeg) fun v_3 =>
      ix 41 x2_1 <| lt (σ.1 45 x2_1.toNatClampNeg) fun v_4 =>
      ix 41 (x1_1 + 1) <| lt (σ.1 45 (x1_1 + 1).toNatClampNeg) fun v_5 =>
      ix 41 x1_1 <| lt (σ.1 45 x1_1.toNatClampNeg) fun v_6 =>
      jn (fun (x1_7 : Int32) => (
        lt (x2_1 + 1) fun x2_8 =>
        a_4 x1_7 x2_8
      )) fun k_47 =>
      if (v_3 - v_4) ≤ (v_5 - v_6) then (
        k_47 x1_1
      ) else (
        k_47 x2_1
      )
    )
  )) LF (0 : Int32) (1 : Int32)
def f_X12_truths  (σ : Sto) : Option Int32 :=
  itr (fun _ _ => none) (fun (a_4 : Int32 → Int32 → Option Int32) (x1_1 : Int32) (x2_1 : Int32) => (
    if 6 ≤ x2_1 then (
      itr (fun _ _ => none) (fun (a_35 : Int32 → Int32 → Option Int32) (x1_3 : Int32) (x2_3 : Int32) => (
        if (σ.1 51 0) ≤ x2_3 then (
          itr (fun _ _ => none) (fun (a_68 : Int32 → Int32 → Option Int32) (x1_5 : Int32) (x2_5 : Int32) => (
            if (σ.1 48 0) ≤ x2_5 then (
              some x1_5
            ) else (
              ix 400 x2_5 <| lt (σ.1 54 x2_5.toNatClampNeg) fun v_7 =>
              jn (fun (t0_8 : Int32) => (
                lt (x1_5 + t0_8) fun x1_9 =>
                lt (x2_5 + 1) fun x2_10 =>
                a_68 x1_9 x2_10
              )) fun k_91 =>
              if v_7 = 0 then (
                k_91 (0 : Int32)
              ) else (
                k_91 (1 : Int32)
              )
            )
          )) LF x1_3 (0 : Int32)
        ) else (
          ix 8 x2_3 <| lt (σ.1 53 x2_3.toNatClampNeg) fun v_12 =>
          jn (fun (t0_13 : Int32) => (
            lt (x1_3 + t0_13) fun x1_14 =>
            lt (x2_3 + 1) fun x2_15 =>
            a_35 x1_14 x2_15
          )) fun k_58 =>
          if v_12 = 0 then (
            k_58 (0 : Int32)
          ) else (
            k_58 (1 : Int32)
          )
        )
      )) LF x1_1 (0 : Int32)
    ) else (
      ix 6 x2_1 <| lt (σ.1 52 x2_1.toNatClampNeg) fun v_17 =>
      jn (fun (t0_18 : Int32) => (
        lt (x1_1 + t0_18) fun x1_19 =>
        lt (x2_1 + 1) fun x2_20 =>
        a_4 x1_19 x2_20
      )) fun k_25 =>
      if v_17 = 0 then (
        k_25 (0 : Int32)
      ) else (
        k_25 (1 : Int32)
      )
    )
  )) LF (0 : Int32) (0 : Int32)
def f_X12_most (x1 : Int32) (σ : Sto) : Option (Int32 × Sto) :=
  lt (sti σ 0 0 (0 : Int32)) fun s_1 =>
  if (s_1.1 21 0) = 0 then (
    some (((-1000000) : Int32), s_1)
  ) else (
    if x1.toInt = 0 then (
      calp (f_X12_mostLoops s_1) fun v_4 =>
      some (v_4, s_1)
    ) else (
    if x1.toInt = 1 then (
      if (s_1.1 36 0) = (-1) then (
        some (((-1) : Int32), s_1)
      ) else (
        calp (f_X12_deepest s_1) fun v_6 =>
        some (v_6, s_1)
      )
    ) else (
    if x1.toInt = 2 then (
      if (s_1.1 36 0) = (-1) then (
        some (((-1) : Int32), s_1)
      ) else (
        calp (f_X12_mostLines (6 : Int32) s_1) fun v_8 =>
        some (v_8, s_1)
      )
    ) else (
    if x1.toInt = 3 then (
      if (s_1.1 36 0) = (-1) then (
        some (((-1) : Int32), s_1)
      ) else (
        calp (f_X12_mostLines (7 : Int32) s_1) fun v_10 =>
        some (v_10, s_1)
      )
    ) else (
    if x1.toInt = 4 then (
      calp (f_X12_mostWithin s_1) fun v_11 =>
      some (v_11, s_1)
    ) else (
    if x1.toInt = 5 then (
      calp (f_X12_mostOnStack s_1) fun v_12 =>
      some (v_12, s_1)
    ) else (
    if x1.toInt = 6 then (
      calp (f_X12_longestBlock s_1) fun v_13 =>
      some (v_13, s_1)
    ) else (
    if x1.toInt = 7 then (
      calp (f_X12_truths s_1) fun v_14 =>
      some (v_14, s_1)
    ) else (
      some (((-1000000) : Int32), s_1)
    )
    )
    )
    )
    )
    )
    )
    )
  )
def f_X3_handlerOf (x1 : Int32) (σ : Sto) : Option Int32 :=
  itr (fun _ => none) (fun (a_2 : Int32 → Option Int32) (x2_1 : Int32) => (
    if (σ.1 5 0) ≤ x2_1 then (
      some ((-1) : Int32)
    ) else (
      ix 3 x2_1 <| lt (σ.1 9 x2_1.toNatClampNeg) fun v_3 =>
      jn (
        lt (x2_1 + 1) fun x2_5 =>
        a_2 x2_5
      ) fun k_32 =>
      if x1 < v_3 then (
        k_32
      ) else (
        ix 3 x2_1 <| lt (σ.1 10 x2_1.toNatClampNeg) fun v_7 =>
        if v_7 ≤ x1 then (
          k_32
        ) else (
          some x2_1
        )
      )
    )
  )) LF (0 : Int32)
def f_X11_isIn (x1 : Int64) (x2 : Int32) : Option Int32 :=
  if (lg_cmp (((x1.toUInt64 >>> (x2.toInt64.toUInt64 &&& Int64.toUInt64 63)).toInt64) &&& 1) (0 : Int64)) = 0 then (
    some (0 : Int32)
  ) else (
    some (1 : Int32)
  )
def f_X11_isBlock (x1 : Int32) (σ : Sto) : Option Int32 :=
  jn (
    some (0 : Int32)
  ) fun k_26 =>
  if (σ.1 0 0) = 0 then (
    k_26
  ) else (
    if x1 < 0 then (
      k_26
    ) else (
      if (σ.1 20 0) ≤ x1 then (
        k_26
      ) else (
        some (1 : Int32)
      )
    )
  )
def f_J13_bitCount_95d88 (x1 : Int64) : Option Int32 :=
  lt (x1 - (((x1.toUInt64 >>> ((1 : Int32).toInt64.toUInt64 &&& Int64.toUInt64 63)).toInt64) &&& 6148914691236517205)) fun x0_1 =>
  lt ((x0_1 &&& 3689348814741910323) + (((x0_1.toUInt64 >>> ((2 : Int32).toInt64.toUInt64 &&& Int64.toUInt64 63)).toInt64) &&& 3689348814741910323)) fun x0_2 =>
  lt ((x0_2 + ((x0_2.toUInt64 >>> ((4 : Int32).toInt64.toUInt64 &&& Int64.toUInt64 63)).toInt64)) &&& 1085102592571150095) fun x0_3 =>
  lt (x0_3 + ((x0_3.toUInt64 >>> ((8 : Int32).toInt64.toUInt64 &&& Int64.toUInt64 63)).toInt64)) fun x0_4 =>
  lt (x0_4 + ((x0_4.toUInt64 >>> ((16 : Int32).toInt64.toUInt64 &&& Int64.toUInt64 63)).toInt64)) fun x0_5 =>
  lt (x0_5 + ((x0_5.toUInt64 >>> ((32 : Int32).toInt64.toUInt64 &&& Int64.toUInt64 63)).toInt64)) fun x0_6 =>
  some (x0_6.toInt32 &&& 127)
def f_X8_innermost (x1 : Int32) (σ : Sto) : Option Int32 :=
  itr (fun _ _ => none) (fun (a_4 : Int32 → Int32 → Option Int32) (x2_1 : Int32) (x3_1 : Int32) => (
    if (σ.1 20 0) ≤ x3_1 then (
      some x2_1
    ) else (
      ix 40 x3_1 <| lt (σ.2 3 x3_1.toNatClampNeg) fun v_3 =>
      calp (f_X11_isIn v_3 x1) fun v_4 =>
      jn (fun (x2_5 : Int32) => (
        lt (x3_1 + 1) fun x3_6 =>
        a_4 x2_5 x3_6
      )) fun k_60 =>
      if v_4 = 0 then (
        k_60 x2_1
      ) else (
        jn (
          k_60 x3_1
        ) fun k_58 =>
        if x2_1 = (-1) then (
          k_58
        ) else (
          ix 40 x3_1 <| lt (σ.2 3 x3_1.toNatClampNeg) fun v_10 =>
          calp (f_J13_bitCount_95d88 v_10) fun v_11 =>
          ix 40 x2_1 <| lt (σ.2 3 x2_1.toNatClampNeg) fun v_12 =>
          calp (f_J13_bitCount_95d88 v_12) fun v_13 =>
          if v_13 ≤ v_11 then (
            k_60 x2_1
          ) else (
            k_58
          )
        )
      )
    )
  )) LF ((-1) : Int32) (0 : Int32)
def f_X8_loopsRound (x1 : Int32) (σ : Sto) : Option Int32 :=
  itr (fun _ _ => none) (fun (a_4 : Int32 → Int32 → Option Int32) (x2_1 : Int32) (x3_1 : Int32) => (
    if (σ.1 20 0) ≤ x3_1 then (
      some x2_1
    ) else (
      ix 40 x3_1 <| lt (σ.2 3 x3_1.toNatClampNeg) fun v_3 =>
      calp (f_X11_isIn v_3 x1) fun v_4 =>
      jn (fun (x2_5 : Int32) => (
        lt (x3_1 + 1) fun x3_6 =>
        a_4 x2_5 x3_6
      )) fun k_31 =>
      if v_4 = 0 then (
        k_31 x2_1
      ) else (
        lt (x2_1 + 1) fun x2_8 =>
        k_31 x2_8
      )
    )
  )) LF (0 : Int32) (0 : Int32)
def f_X11_bytesIn (x1 : Int32) : Option Int32 :=
  itr (fun _ _ => none) (fun (a_5 : Int32 → Int32 → Option Int32) (x1_1 : Int32) (x2_1 : Int32) => (
    if x2_1 < 0 then (
      some x1_1
    ) else (
      jn (fun (x1_3 : Int32) => (
        lt (x2_1 + (-8)) fun x2_4 =>
        a_5 x1_3 x2_4
      )) fun k_22 =>
      if (((x1.toUInt32 >>> (x2_1.toUInt32 &&& Int32.toUInt32 31)).toInt32) &&& 255) = 0 then (
        k_22 x1_1
      ) else (
        lt (x1_1 + 1) fun x1_6 =>
        k_22 x1_6
      )
    )
  )) LF (0 : Int32) (24 : Int32)
def f_X9_append (x1 : Int32) (σ : Sto) : Option Sto :=
  itr (fun _ _ => none) (fun (a_3 : Int32 → Sto → Option Sto) (x2_1 : Int32) (s_1 : Sto) => (
    if x2_1 < 0 then (
      some s_1
    ) else (
      lt (((x1.toUInt32 >>> (x2_1.toUInt32 &&& Int32.toUInt32 31)).toInt32) &&& 255) fun x3_3 =>
      jn (fun (s_4 : Sto) => (
        lt (x2_1 + (-8)) fun x2_5 =>
        a_3 x2_5 s_4
      )) fun k_50 =>
      if x3_3 = 0 then (
        k_50 s_1
      ) else (
        if 240 ≤ (s_1.1 2 0) then (
          k_50 s_1
        ) else (
          ix 240 (s_1.1 2 0) <| lt (sti s_1 1 (s_1.1 2 0).toNatClampNeg x3_3.toInt8.toInt32.toInt8.toInt32) fun s_8 =>
          lt (sti s_8 2 0 ((s_8.1 2 0) + 1)) fun s_9 =>
          k_50 s_9
        )
      )
    )
  )) LF (24 : Int32) σ
def f_X11_feed (x1 : Int32) (x2 : Int32) (x3 : Int32) (x4 : Int32) (x5 : Int32) (σ : Sto) : Option (Int32 × Sto) :=
  calp (f_X11_bytesIn x1) fun v_1 =>
  calp (f_X11_bytesIn x2) fun v_2 =>
  calp (f_X11_bytesIn x3) fun v_3 =>
  calp (f_X11_bytesIn x4) fun v_4 =>
  calp (f_X11_bytesIn x5) fun v_5 =>
  lt ((((v_1 + v_2) + v_3) + v_4) + v_5) fun x6_6 =>
  if ((σ.1 2 0) + x6_6) ≤ 240 then (
    cals (f_X9_append x1 σ) fun s_8 =>
    cals (f_X9_append x2 s_8) fun s_9 =>
    cals (f_X9_append x3 s_9) fun s_10 =>
    cals (f_X9_append x4 s_10) fun s_11 =>
    cals (f_X9_append x5 s_11) fun s_12 =>
    some ((s_12.1 2 0), s_12)
  ) else (
    some (((-1) : Int32), σ)
  )
def f_X11_end (x1 : Int32) (σ : Sto) : Option (Int32 × Sto) :=
  if x1 < 0 then (
    some ((0 : Int32), σ)
  ) else (
    if x1 ≤ (σ.1 2 0) then (
      lt (sti σ 2 0 x1) fun s_3 =>
      some ((1 : Int32), s_3)
    ) else (
      some ((0 : Int32), σ)
    )
  )
def f_X9_current  (σ : Sto) : Option Int32 :=
  if (σ.1 2 0) ≤ (σ.1 3 0) then (
    some (0 : Int32)
  ) else (
    ix 240 (σ.1 3 0) <| lt (σ.1 1 (σ.1 3 0).toNatClampNeg) fun v_2 =>
    some (v_2 &&& 255)
  )
def f_X9_skipBlanks  (σ : Sto) : Option Sto :=
  itr (fun _ => none) (fun (a_0 : Sto → Option Sto) (s_1 : Sto) => (
    if (s_1.1 2 0) ≤ (s_1.1 3 0) then (
      some s_1
    ) else (
      calp (f_X9_current s_1) fun v_3 =>
      if v_3 = 32 then (
        lt (sti s_1 3 0 ((s_1.1 3 0) + 1)) fun s_5 =>
        a_0 s_5
      ) else (
        some s_1
      )
    )
  )) LF σ
def f_X9_readNumber (x1 : Int32) (σ : Sto) : Option (Int32 × Sto) :=
  lt (sti σ 3 0 ((σ.1 3 0) + 1)) fun s_1 =>
  cals (f_X9_skipBlanks s_1) fun s_2 =>
  itr (fun _ _ => none) (fun (a_16 : Int32 → Sto → Option (Int32 × Sto)) (x2_3 : Int32) (s_3 : Sto) => (
    if (s_3.1 2 0) ≤ (s_3.1 3 0) then (
      some (x2_3, s_3)
    ) else (
      calp (f_X9_current s_3) fun v_5 =>
      if v_5 < 48 then (
        some (x2_3, s_3)
      ) else (
        calp (f_X9_current s_3) fun v_7 =>
        if 57 < v_7 then (
          some (x2_3, s_3)
        ) else (
          lt (if x2_3 < (0 : Int32) then (0 : Int32) else x2_3) fun v_9 =>
          calp (f_X9_current s_3) fun v_10 =>
          lt (((v_9 * 10) + v_10) - 48) fun x3_11 =>
          if x3_11 ≤ x1 then (
            lt (sti s_3 3 0 ((s_3.1 3 0) + 1)) fun s_13 =>
            a_16 x3_11 s_13
          ) else (
            some (((-1) : Int32), s_3)
          )
        )
      )
    )
  )) LF ((-1) : Int32) s_2
def f_X9_isAtComma  (σ : Sto) : Option (Int32 × Sto) :=
  cals (f_X9_skipBlanks σ) fun s_1 =>
  jn (
    some ((0 : Int32), s_1)
  ) fun k_28 =>
  if (s_1.1 2 0) ≤ (s_1.1 3 0) then (
    k_28
  ) else (
    calp (f_X9_current s_1) fun v_4 =>
    if v_4 = 44 then (
      some ((1 : Int32), s_1)
    ) else (
      k_28
    )
  )
def f_X9_readHandler_draft  (σ : Sto) : Option (Int32 × Sto) :=
  calp (f_X9_current σ) fun v_1 =>
  if v_1 = 104 then (
    if (σ.1 13 0) = 3 then (
      some ((0 : Int32), σ)
    ) else (
      calv (f_X9_readNumber (40 : Int32) σ) fun v_4 s_4 =>
      if v_4 = (-1) then (
        some ((0 : Int32), s_4)
      ) else (
        calv (f_X9_isAtComma s_4) fun v_6 s_6 =>
        if v_6 = 0 then (
          some ((0 : Int32), s_6)
        ) else (
          calv (f_X9_readNumber (40 : Int32) s_6) fun v_8 s_8 =>
          if v_8 = (-1) then (
            some ((0 : Int32), s_8)
          ) else (
            calv (f_X9_isAtComma s_8) fun v_10 s_10 =>
            if v_10 = 0 then (
              some ((0 : Int32), s_10)
            ) else (
              calv (f_X9_readNumber (40 : Int32) s_10) fun v_12 s_12 =>
              if v_12 = (-1) then (
                some ((0 : Int32), s_12)
              ) else (
                ix 3 (s_12.1 13 0) <| lt (sti s_12 17 (s_12.1 13 0).toNatClampNeg v_4) fun s_14 =>
                ix 3 (s_14.1 13 0) <| lt (sti s_14 18 (s_14.1 13 0).toNatClampNeg v_8) fun s_15 =>
                ix 3 (s_15.1 13 0) <| lt (sti s_15 19 (s_15.1 13 0).toNatClampNeg v_12) fun s_16 =>
                lt (sti s_16 13 0 ((s_16.1 13 0) + 1)) fun s_17 =>
                some ((1 : Int32), s_17)
              )
            )
          )
        )
      )
    )
  ) else (
    some ((0 : Int32), σ)
  )
def f_X11_isBinary (x1 : Int32) : Option Int32 :=
  if x1.toInt = 37 ∨ x1.toInt = 42 ∨ x1.toInt = 43 ∨ x1.toInt = 45 ∨ x1.toInt = 47 ∨ x1.toInt = 60 ∨ x1.toInt = 61 then (
    some (1 : Int32)
  ) else (
    some (0 : Int32)
  )
def f_X11_isBare (x1 : Int32) : Option Int32 :=
  if x1.toInt = 33 ∨ x1.toInt = 100 ∨ x1.toInt = 105 ∨ x1.toInt = 110 ∨ x1.toInt = 111 ∨ x1.toInt = 112 ∨ x1.toInt = 114 ∨ x1.toInt = 116 ∨ x1.toInt = 119 then (
    some (1 : Int32)
  ) else (
    calp (f_X11_isBinary x1) fun v_2 =>
    bz v_2 <|
    some v_2
  )
def f_X9_readLetter  (σ : Sto) : Option (Int32 × Sto) :=
  lt (sti σ 3 0 ((σ.1 3 0) + 1)) fun s_1 =>
  cals (f_X9_skipBlanks s_1) fun s_2 =>
  if (s_2.1 2 0) ≤ (s_2.1 3 0) then (
    some (((-1) : Int32), s_2)
  ) else (
    calp (f_X9_current s_2) fun v_4 =>
    if v_4 < 97 then (
      some (((-1) : Int32), s_2)
    ) else (
      calp (f_X9_current s_2) fun v_6 =>
      if v_6 ≤ 102 then (
        lt (sti s_2 3 0 ((s_2.1 3 0) + 1)) fun s_8 =>
        ix 240 ((s_8.1 3 0) - 1) <| lt (s_8.1 1 ((s_8.1 3 0) - 1).toNatClampNeg) fun v_9 =>
        some ((v_9 - 97), s_8)
      ) else (
        some (((-1) : Int32), s_2)
      )
    )
  )
def f_X9_readInstruction_draft  (σ : Sto) : Option (Int32 × Sto) :=
  calp (f_X9_current σ) fun v_1 =>
  if (σ.1 12 0) = 40 then (
    some ((0 : Int32), σ)
  ) else (
    calp (f_X11_isBare v_1) fun v_3 =>
    jn (fun (x3_4 : Int32) (s_4 : Sto) => (
      if x3_4 = (-1) then (
        some ((0 : Int32), s_4)
      ) else (
        ix 40 (s_4.1 12 0) <| lt (sti s_4 14 (s_4.1 12 0).toNatClampNeg v_1) fun s_6 =>
        ix 40 (s_6.1 12 0) <| lt (sti s_6 15 (s_6.1 12 0).toNatClampNeg x3_4) fun s_7 =>
        lt (sti s_7 12 0 ((s_7.1 12 0) + 1)) fun s_8 =>
        some ((1 : Int32), s_8)
      )
    )) fun k_99 =>
    if v_3 = 0 then (
      if v_1 = 107 then (
        calv (f_X9_readNumber (999 : Int32) σ) fun v_11 s_11 =>
        k_99 v_11 s_11
      ) else (
        jn (
          calv (f_X9_readNumber (39 : Int32) σ) fun v_13 s_13 =>
          k_99 v_13 s_13
        ) fun k_67 =>
        if v_1 = 103 then (
          k_67
        ) else (
          if v_1 = 122 then (
            k_67
          ) else (
            jn (
              calv (f_X9_readLetter σ) fun v_17 s_17 =>
              k_99 v_17 s_17
            ) fun k_89 =>
            if v_1 = 108 then (
              k_89
            ) else (
              if v_1 = 115 then (
                k_89
              ) else (
                some ((0 : Int32), σ)
              )
            )
          )
        )
      )
    ) else (
      lt (sti σ 3 0 ((σ.1 3 0) + 1)) fun s_20 =>
      k_99 (0 : Int32) s_20
    )
  )
def f_X9_read_draft  (σ : Sto) : Option (Int32 × Sto) :=
  lt (sti σ 3 0 (0 : Int32)) fun s_1 =>
  lt (sti s_1 12 0 (0 : Int32)) fun s_2 =>
  lt (sti s_2 13 0 (0 : Int32)) fun s_3 =>
  cals (f_X9_skipBlanks s_3) fun s_4 =>
  itr (fun _ _ => none) (fun (a_21 : Int32 → Sto → Option (Int32 × Sto)) (x2_5 : Int32) (s_5 : Sto) => (
    jn (
      if (s_5.1 12 0) = 0 then (
        some ((0 : Int32), s_5)
      ) else (
        itr (fun _ _ => none) (fun (a_78 : Int32 → Sto → Option (Int32 × Sto)) (x2_8 : Int32) (s_8 : Sto) => (
          if 3 < x2_8 then (
            some ((1 : Int32), s_8)
          ) else (
            if (s_8.1 2 0) ≤ (s_8.1 3 0) then (
              some ((1 : Int32), s_8)
            ) else (
              calv (f_X9_readHandler_draft s_8) fun v_11 s_11 =>
              if v_11 = 0 then (
                some ((0 : Int32), s_11)
              ) else (
                cals (f_X9_skipBlanks s_11) fun s_13 =>
                lt (x2_8 + 1) fun x2_14 =>
                a_78 x2_14 s_13
              )
            )
          )
        )) LF (0 : Int32) s_5
      )
    ) fun k_67 =>
    if 40 < x2_5 then (
      k_67
    ) else (
      if (s_5.1 2 0) ≤ (s_5.1 3 0) then (
        k_67
      ) else (
        calp (f_X9_current s_5) fun v_17 =>
        if v_17 = 104 then (
          k_67
        ) else (
          calv (f_X9_readInstruction_draft s_5) fun v_19 s_19 =>
          if v_19 = 0 then (
            some ((0 : Int32), s_19)
          ) else (
            cals (f_X9_skipBlanks s_19) fun s_21 =>
            lt (x2_5 + 1) fun x2_22 =>
            a_21 x2_22 s_21
          )
        )
      )
    )
  )) LF (0 : Int32) s_4
def f_X11_fault  (σ : Sto) : Option (Int32 × Sto) :=
  calv (f_X9_read_draft σ) fun v_1 s_1 =>
  if v_1 = 0 then (
    some ((s_1.1 3 0), s_1)
  ) else (
    some (((-1) : Int32), s_1)
  )
def f_X3_goesElsewhere_draft (x1 : Int32) (σ : Sto) : Option Int32 :=
  ix 40 x1 <| lt (σ.1 14 x1.toNatClampNeg) fun v_1 =>
  jn (
    some (1 : Int32)
  ) fun k_22 =>
  if v_1 = 103 then (
    k_22
  ) else (
    ix 40 x1 <| lt (σ.1 14 x1.toNatClampNeg) fun v_4 =>
    if v_4 = 122 then (
      k_22
    ) else (
      some (0 : Int32)
    )
  )
def f_X3_leadsInside_draft  (σ : Sto) : Option Int32 :=
  itr (fun _ => none) (fun (a_2 : Int32 → Option Int32) (x1_1 : Int32) => (
    if (σ.1 12 0) ≤ x1_1 then (
      itr (fun _ => none) (fun (a_41 : Int32 → Option Int32) (x1_3 : Int32) => (
        if (σ.1 13 0) ≤ x1_3 then (
          some (1 : Int32)
        ) else (
          ix 3 x1_3 <| lt (σ.1 17 x1_3.toNatClampNeg) fun v_5 =>
          ix 3 x1_3 <| lt (σ.1 18 x1_3.toNatClampNeg) fun v_6 =>
          if v_6 ≤ v_5 then (
            some (0 : Int32)
          ) else (
            ix 3 x1_3 <| lt (σ.1 18 x1_3.toNatClampNeg) fun v_8 =>
            if (σ.1 12 0) < v_8 then (
              some (0 : Int32)
            ) else (
              ix 3 x1_3 <| lt (σ.1 19 x1_3.toNatClampNeg) fun v_10 =>
              if v_10 < (σ.1 12 0) then (
                lt (x1_3 + 1) fun x1_12 =>
                a_41 x1_12
              ) else (
                some (0 : Int32)
              )
            )
          )
        )
      )) LF (0 : Int32)
    ) else (
      calp (f_X3_goesElsewhere_draft x1_1 σ) fun v_13 =>
      jn (
        lt (x1_1 + 1) fun x1_15 =>
        a_2 x1_15
      ) fun k_33 =>
      if v_13 = 0 then (
        k_33
      ) else (
        ix 40 x1_1 <| lt (σ.1 15 x1_1.toNatClampNeg) fun v_17 =>
        if v_17 < (σ.1 12 0) then (
          k_33
        ) else (
          some (0 : Int32)
        )
      )
    )
  )) LF (0 : Int32)
def f_X3_lowestOpen_draft (x1 : Int64) (σ : Sto) : Option Int32 :=
  itr (fun _ => none) (fun (a_2 : Int32 → Option Int32) (x3_1 : Int32) => (
    if (σ.1 12 0) ≤ x3_1 then (
      some ((-1) : Int32)
    ) else (
      ix 40 x3_1 <| lt (σ.1 16 x3_1.toNatClampNeg) fun v_3 =>
      jn (
        lt (x3_1 + 1) fun x3_5 =>
        a_2 x3_5
      ) fun k_30 =>
      if v_3 = (-1) then (
        k_30
      ) else (
        calp (f_X11_isIn x1 x3_1) fun v_7 =>
        if v_7 = 0 then (
          some x3_1
        ) else (
          k_30
        )
      )
    )
  )) LF (0 : Int32)
def f_X3_needs (x1 : Int32) : Option Int32 :=
  if x1.toInt = 33 ∨ x1.toInt = 100 ∨ x1.toInt = 110 ∨ x1.toInt = 111 ∨ x1.toInt = 112 ∨ x1.toInt = 115 ∨ x1.toInt = 116 ∨ x1.toInt = 122 then (
    some (1 : Int32)
  ) else (
  if x1.toInt = 119 then (
    some (2 : Int32)
  ) else (
    calp (f_X11_isBinary x1) fun v_2 =>
    if v_2 = 0 then (
      some (0 : Int32)
    ) else (
      some (2 : Int32)
    )
  )
  )
def f_X3_gives (x1 : Int32) : Option Int32 :=
  if x1.toInt = 33 ∨ x1.toInt = 105 ∨ x1.toInt = 107 ∨ x1.toInt = 108 ∨ x1.toInt = 110 then (
    some (1 : Int32)
  ) else (
  if x1.toInt = 100 ∨ x1.toInt = 119 then (
    some (2 : Int32)
  ) else (
    calp (f_X11_isBinary x1) fun v_2 =>
    if v_2 = 0 then (
      some (0 : Int32)
    ) else (
      some (1 : Int32)
    )
  )
  )
def f_X3_depthBehind_draft (x1 : Int32) (σ : Sto) : Option Int32 :=
  ix 40 x1 <| lt (σ.1 16 x1.toNatClampNeg) fun v_1 =>
  ix 40 x1 <| lt (σ.1 14 x1.toNatClampNeg) fun v_2 =>
  calp (f_X3_needs v_2) fun v_3 =>
  ix 40 x1 <| lt (σ.1 14 x1.toNatClampNeg) fun v_4 =>
  calp (f_X3_gives v_4) fun v_5 =>
  some ((v_1 - v_3) + v_5)
def f_X3_ends_draft (x1 : Int32) (σ : Sto) : Option Int32 :=
  ix 40 x1 <| lt (σ.1 14 x1.toNatClampNeg) fun v_1 =>
  jn (
    some (1 : Int32)
  ) fun k_22 =>
  if v_1 = 116 then (
    k_22
  ) else (
    ix 40 x1 <| lt (σ.1 14 x1.toNatClampNeg) fun v_4 =>
    if v_4 = 114 then (
      k_22
    ) else (
      some (0 : Int32)
    )
  )
def f_X3_goesOn_draft (x1 : Int32) (σ : Sto) : Option Int32 :=
  ix 40 x1 <| lt (σ.1 14 x1.toNatClampNeg) fun v_1 =>
  jn (
    some (0 : Int32)
  ) fun k_23 =>
  if v_1 = 103 then (
    k_23
  ) else (
    calp (f_X3_ends_draft x1 σ) fun v_4 =>
    if v_4 = 0 then (
      some (1 : Int32)
    ) else (
      k_23
    )
  )
def f_X3_canThrow_draft (x1 : Int32) (σ : Sto) : Option Int32 :=
  ix 40 x1 <| lt (σ.1 14 x1.toNatClampNeg) fun v_1 =>
  jn (
    some (1 : Int32)
  ) fun k_33 =>
  if v_1 = 47 then (
    k_33
  ) else (
    ix 40 x1 <| lt (σ.1 14 x1.toNatClampNeg) fun v_4 =>
    if v_4 = 37 then (
      k_33
    ) else (
      ix 40 x1 <| lt (σ.1 14 x1.toNatClampNeg) fun v_6 =>
      if v_6 = 116 then (
        k_33
      ) else (
        some (0 : Int32)
      )
    )
  )
def f_X3_arrive_draft (x1 : Int32) (x2 : Int32) (σ : Sto) : Option (Int32 × Sto) :=
  ix 40 x1 <| lt (σ.1 16 x1.toNatClampNeg) fun v_1 =>
  jn (fun (s_2 : Sto) => (
    ix 40 x1 <| lt (s_2.1 16 x1.toNatClampNeg) fun v_3 =>
    if v_3 = x2 then (
      some ((1 : Int32), s_2)
    ) else (
      some ((0 : Int32), s_2)
    )
  )) fun k_17 =>
  if v_1 = (-1) then (
    ix 40 x1 <| lt (sti σ 16 x1.toNatClampNeg x2) fun s_6 =>
    k_17 s_6
  ) else (
    k_17 σ
  )
def f_X3_handlerOf_draft (x1 : Int32) (σ : Sto) : Option Int32 :=
  itr (fun _ => none) (fun (a_2 : Int32 → Option Int32) (x2_1 : Int32) => (
    if (σ.1 13 0) ≤ x2_1 then (
      some ((-1) : Int32)
    ) else (
      ix 3 x2_1 <| lt (σ.1 17 x2_1.toNatClampNeg) fun v_3 =>
      jn (
        lt (x2_1 + 1) fun x2_5 =>
        a_2 x2_5
      ) fun k_32 =>
      if x1 < v_3 then (
        k_32
      ) else (
        ix 3 x2_1 <| lt (σ.1 18 x2_1.toNatClampNeg) fun v_7 =>
        if v_7 ≤ x1 then (
          k_32
        ) else (
          some x2_1
        )
      )
    )
  )) LF (0 : Int32)
def f_X3_goOver_draft (x1 : Int32) (σ : Sto) : Option (Int32 × Sto) :=
  ix 40 x1 <| lt (σ.1 16 x1.toNatClampNeg) fun v_1 =>
  ix 40 x1 <| lt (σ.1 14 x1.toNatClampNeg) fun v_2 =>
  calp (f_X3_needs v_2) fun v_3 =>
  if v_3 ≤ v_1 then (
    calp (f_X3_depthBehind_draft x1 σ) fun v_5 =>
    if v_5 ≤ 6 then (
      calp (f_X3_goesOn_draft x1 σ) fun v_7 =>
      jn (fun (s_8 : Sto) => (
        calp (f_X3_goesElsewhere_draft x1 s_8) fun v_9 =>
        jn (fun (s_10 : Sto) => (
          calp (f_X3_canThrow_draft x1 s_10) fun v_11 =>
          jn (fun (t0_12 : Int32) => (
            jn (fun (s_13 : Sto) => (
              some ((0 : Int32), s_13)
            )) fun k_133 =>
            if t0_12 = (-1) then (
              k_133 s_10
            ) else (
              ix 3 t0_12 <| lt (s_10.1 19 t0_12.toNatClampNeg) fun v_15 =>
              calv (f_X3_arrive_draft v_15 (1 : Int32) s_10) fun v_16 s_16 =>
              if v_16 = 0 then (
                some (((-6) : Int32), s_16)
              ) else (
                k_133 s_16
              )
            )
          )) fun k_113 =>
          if v_11 = 0 then (
            k_113 ((-1) : Int32)
          ) else (
            calp (f_X3_handlerOf_draft x1 s_10) fun v_19 =>
            k_113 v_19
          )
        )) fun k_96 =>
        if v_9 = 0 then (
          k_96 s_8
        ) else (
          ix 40 x1 <| lt (s_8.1 15 x1.toNatClampNeg) fun v_21 =>
          calv (f_X3_arrive_draft v_21 v_5 s_8) fun v_22 s_22 =>
          if v_22 = 0 then (
            some (((-6) : Int32), s_22)
          ) else (
            k_96 s_22
          )
        )
      )) fun k_71 =>
      if v_7 = 0 then (
        k_71 σ
      ) else (
        if (x1 + 1) < (σ.1 12 0) then (
          calv (f_X3_arrive_draft (x1 + 1) v_5 σ) fun v_26 s_26 =>
          if v_26 = 0 then (
            some (((-6) : Int32), s_26)
          ) else (
            k_71 s_26
          )
        ) else (
          some (((-3) : Int32), σ)
        )
      )
    ) else (
      some (((-5) : Int32), σ)
    )
  ) else (
    some (((-4) : Int32), σ)
  )
def f_X3_judge_draft  (σ : Sto) : Option (Int32 × Sto) :=
  calp (f_X3_leadsInside_draft σ) fun v_1 =>
  if v_1 = 0 then (
    some (((-2) : Int32), σ)
  ) else (
    itr (fun _ _ => none) (fun (a_12 : Int32 → Sto → Option (Int32 × Sto)) (x1_3 : Int32) (s_3 : Sto) => (
      if (s_3.1 12 0) ≤ x1_3 then (
        ix 40 (0 : Int32) <| lt (sti s_3 16 (0 : Int32).toNatClampNeg (0 : Int32)) fun s_5 =>
        itr (fun _ _ _ => none) (fun (a_44 : Int64 → Int32 → Sto → Option (Int32 × Sto)) (x1_6 : Int64) (x3_6 : Int32) (s_6 : Sto) => (
          if (s_6.1 12 0) ≤ x3_6 then (
            some ((0 : Int32), s_6)
          ) else (
            calp (f_X3_lowestOpen_draft x1_6 s_6) fun v_8 =>
            if v_8 = (-1) then (
              some ((0 : Int32), s_6)
            ) else (
              lt (x1_6 ||| ((1 : Int64) <<< (v_8.toInt64 &&& 63))) fun x1_10 =>
              calv (f_X3_goOver_draft v_8 s_6) fun v_11 s_11 =>
              if v_11 = 0 then (
                lt (x3_6 + 1) fun x3_13 =>
                a_44 x1_10 x3_13 s_11
              ) else (
                some (v_11, s_11)
              )
            )
          )
        )) LF (0 : Int64) (0 : Int32) s_5
      ) else (
        ix 40 x1_3 <| lt (sti s_3 16 x1_3.toNatClampNeg (((-1) : Int32))) fun s_14 =>
        lt (x1_3 + 1) fun x1_15 =>
        a_12 x1_15 s_14
      )
    )) LF (0 : Int32) σ
  )
def f_X3_copy_draft  (σ : Sto) : Option Sto :=
  lt (sti σ 4 0 (σ.1 12 0)) fun s_1 =>
  lt (sti s_1 5 0 (s_1.1 13 0)) fun s_2 =>
  lt (stc s_2 6 (va_cpy (s_2.1 14) (s_2.1 6) (0 : Int32).toNatClampNeg (0 : Int32).toNatClampNeg (40 : Int32).toNatClampNeg)) fun s_3 =>
  lt (stc s_3 7 (va_cpy (s_3.1 15) (s_3.1 7) (0 : Int32).toNatClampNeg (0 : Int32).toNatClampNeg (40 : Int32).toNatClampNeg)) fun s_4 =>
  lt (stc s_4 8 (va_cpy (s_4.1 16) (s_4.1 8) (0 : Int32).toNatClampNeg (0 : Int32).toNatClampNeg (40 : Int32).toNatClampNeg)) fun s_5 =>
  lt (stc s_5 9 (va_cpy (s_5.1 17) (s_5.1 9) (0 : Int32).toNatClampNeg (0 : Int32).toNatClampNeg (3 : Int32).toNatClampNeg)) fun s_6 =>
  lt (stc s_6 10 (va_cpy (s_6.1 18) (s_6.1 10) (0 : Int32).toNatClampNeg (0 : Int32).toNatClampNeg (3 : Int32).toNatClampNeg)) fun s_7 =>
  lt (stc s_7 11 (va_cpy (s_7.1 19) (s_7.1 11) (0 : Int32).toNatClampNeg (0 : Int32).toNatClampNeg (3 : Int32).toNatClampNeg)) fun s_8 =>
  some s_8
def f_X3_goesElsewhere (x1 : Int32) (σ : Sto) : Option Int32 :=
  ix 40 x1 <| lt (σ.1 6 x1.toNatClampNeg) fun v_1 =>
  jn (
    some (1 : Int32)
  ) fun k_22 =>
  if v_1 = 103 then (
    k_22
  ) else (
    ix 40 x1 <| lt (σ.1 6 x1.toNatClampNeg) fun v_4 =>
    if v_4 = 122 then (
      k_22
    ) else (
      some (0 : Int32)
    )
  )
def f_X3_ends (x1 : Int32) (σ : Sto) : Option Int32 :=
  ix 40 x1 <| lt (σ.1 6 x1.toNatClampNeg) fun v_1 =>
  jn (
    some (1 : Int32)
  ) fun k_22 =>
  if v_1 = 116 then (
    k_22
  ) else (
    ix 40 x1 <| lt (σ.1 6 x1.toNatClampNeg) fun v_4 =>
    if v_4 = 114 then (
      k_22
    ) else (
      some (0 : Int32)
    )
  )
def f_X0_markCuts  (σ : Sto) : Option Sto :=
  itr (fun _ _ => none) (fun (a_2 : Int32 → Sto → Option Sto) (x1_1 : Int32) (s_1 : Sto) => (
    if 40 < x1_1 then (
      itr (fun _ _ => none) (fun (a_23 : Int32 → Sto → Option Sto) (x1_3 : Int32) (s_3 : Sto) => (
        if (s_3.1 4 0) ≤ x1_3 then (
          itr (fun _ _ => none) (fun (a_113 : Int32 → Sto → Option Sto) (x1_5 : Int32) (s_5 : Sto) => (
            if (s_5.1 5 0) ≤ x1_5 then (
              some s_5
            ) else (
              ix 3 x1_5 <| lt (s_5.1 9 x1_5.toNatClampNeg) fun v_7 =>
              ix 41 v_7 <| lt (sti s_5 33 v_7.toNatClampNeg (1 : Int32)) fun s_8 =>
              ix 3 x1_5 <| lt (s_8.1 10 x1_5.toNatClampNeg) fun v_9 =>
              ix 41 v_9 <| lt (sti s_8 33 v_9.toNatClampNeg (1 : Int32)) fun s_10 =>
              ix 3 x1_5 <| lt (s_10.1 11 x1_5.toNatClampNeg) fun v_11 =>
              ix 41 v_11 <| lt (sti s_10 33 v_11.toNatClampNeg (1 : Int32)) fun s_12 =>
              lt (x1_5 + 1) fun x1_13 =>
              a_113 x1_13 s_12
            )
          )) LF (0 : Int32) s_3
        ) else (
          ix 40 x1_3 <| lt (s_3.1 8 x1_3.toNatClampNeg) fun v_14 =>
          jn (fun (s_15 : Sto) => (
            lt (x1_3 + 1) fun x1_16 =>
            a_23 x1_16 s_15
          )) fun k_105 =>
          if v_14 = (-1) then (
            k_105 s_3
          ) else (
            calp (f_X3_goesElsewhere x1_3 s_3) fun v_18 =>
            jn (fun (s_19 : Sto) => (
              calp (f_X3_ends x1_3 s_19) fun v_20 =>
              if v_20 = 0 then (
                k_105 s_19
              ) else (
                ix 41 (x1_3 + 1) <| lt (sti s_19 33 (x1_3 + 1).toNatClampNeg (1 : Int32)) fun s_22 =>
                k_105 s_22
              )
            )) fun k_85 =>
            if v_18 = 0 then (
              k_85 s_3
            ) else (
              ix 40 x1_3 <| lt (s_3.1 7 x1_3.toNatClampNeg) fun v_24 =>
              ix 41 v_24 <| lt (sti s_3 33 v_24.toNatClampNeg (1 : Int32)) fun s_25 =>
              ix 41 (x1_3 + 1) <| lt (sti s_25 33 (x1_3 + 1).toNatClampNeg (1 : Int32)) fun s_26 =>
              k_85 s_26
            )
          )
        )
      )) LF (0 : Int32) s_1
    ) else (
      ix 41 x1_1 <| lt (sti s_1 33 x1_1.toNatClampNeg (0 : Int32)) fun s_27 =>
      lt (x1_1 + 1) fun x1_28 =>
      a_2 x1_28 s_27
    )
  )) LF (0 : Int32) σ
def f_X3_goesOn (x1 : Int32) (σ : Sto) : Option Int32 :=
  ix 40 x1 <| lt (σ.1 6 x1.toNatClampNeg) fun v_1 =>
  jn (
    some (0 : Int32)
  ) fun k_23 =>
  if v_1 = 103 then (
    k_23
  ) else (
    calp (f_X3_ends x1 σ) fun v_4 =>
    if v_4 = 0 then (
      some (1 : Int32)
    ) else (
      k_23
    )
  )
def f_X3_canThrow (x1 : Int32) (σ : Sto) : Option Int32 :=
  ix 40 x1 <| lt (σ.1 6 x1.toNatClampNeg) fun v_1 =>
  jn (
    some (1 : Int32)
  ) fun k_33 =>
  if v_1 = 47 then (
    k_33
  ) else (
    ix 40 x1 <| lt (σ.1 6 x1.toNatClampNeg) fun v_4 =>
    if v_4 = 37 then (
      k_33
    ) else (
      ix 40 x1 <| lt (σ.1 6 x1.toNatClampNeg) fun v_6 =>
      if v_6 = 116 then (
        k_33
      ) else (
        some (0 : Int32)
      )
    )
  )
def f_X0_catcherOf (x1 : Int32) (σ : Sto) : Option Int32 :=
  ix 40 x1 <| lt (σ.1 21 x1.toNatClampNeg) fun v_1 =>
  itr (fun _ => none) (fun (a_7 : Int32 → Option Int32) (x2_2 : Int32) => (
    ix 40 x1 <| lt (σ.1 22 x1.toNatClampNeg) fun v_3 =>
    if v_3 < x2_2 then (
      some ((-1) : Int32)
    ) else (
      calp (f_X3_canThrow x2_2 σ) fun v_5 =>
      jn (fun (t0_6 : Int32) => (
        if t0_6 = (-1) then (
          lt (x2_2 + 1) fun x2_8 =>
          a_7 x2_8
        ) else (
          ix 3 t0_6 <| lt (σ.1 11 t0_6.toNatClampNeg) fun v_9 =>
          ix 40 v_9 <| lt (σ.1 23 v_9.toNatClampNeg) fun v_10 =>
          some v_10
        )
      )) fun k_40 =>
      if v_5 = 0 then (
        k_40 ((-1) : Int32)
      ) else (
        calp (f_X3_handlerOf x2_2 σ) fun v_12 =>
        k_40 v_12
      )
    )
  )) LF v_1
def f_X0_edgeTo (x1 : Int32) (x2 : Int32) (σ : Sto) : Option Int32 :=
  ix 41 x1 <| lt (σ.1 28 x1.toNatClampNeg) fun v_1 =>
  ix 41 x1 <| lt (σ.1 28 x1.toNatClampNeg) fun v_2 =>
  itr (fun _ _ => none) (fun (a_15 : Int32 → Int32 → Option Int32) (x3_3 : Int32) (x4_3 : Int32) => (
    if (σ.1 27 0) ≤ x4_3 then (
      some x3_3
    ) else (
      ix 120 x4_3 <| lt (σ.1 29 x4_3.toNatClampNeg) fun v_5 =>
      if v_5 = x1 then (
        ix 120 x4_3 <| lt (σ.1 30 x4_3.toNatClampNeg) fun v_7 =>
        jn (fun (x3_8 : Int32) => (
          lt (x4_3 + 1) fun x4_9 =>
          a_15 x3_8 x4_9
        )) fun k_49 =>
        if v_7 = x2 then (
          k_49 x4_3
        ) else (
          k_49 x3_3
        )
      ) else (
        some x3_3
      )
    )
  )) LF v_1 v_2
def f_X0_lead (x1 : Int32) (x2 : Int32) (x3 : Int32) (σ : Sto) : Option Sto :=
  if x2 = (-1) then (
    some σ
  ) else (
    ix 40 x1 <| lt (σ.2 0 x1.toNatClampNeg) fun v_2 =>
    calp (f_X11_isIn v_2 x2) fun v_3 =>
    if v_3 = 0 then (
      ix 40 x1 <| lt (σ.2 0 x1.toNatClampNeg) fun v_5 =>
      ix 40 x1 <| lt (stl σ 0 x1.toNatClampNeg ((v_5 ||| ((1 : Int64) <<< (x2.toInt64 &&& 63))))) fun s_6 =>
      ix 120 (s_6.1 27 0) <| lt (sti s_6 29 (s_6.1 27 0).toNatClampNeg x1) fun s_7 =>
      ix 120 (s_7.1 27 0) <| lt (sti s_7 30 (s_7.1 27 0).toNatClampNeg x2) fun s_8 =>
      bz x3 <|
      ix 120 (s_8.1 27 0) <| lt (sti s_8 31 (s_8.1 27 0).toNatClampNeg x3) fun s_9 =>
      lt (sti s_9 27 0 ((s_9.1 27 0) + 1)) fun s_11 =>
      some s_11
    ) else (
      calp (f_X0_edgeTo x1 x2 σ) fun v_12 =>
      ix 120 v_12 <| lt (σ.1 31 v_12.toNatClampNeg) fun v_13 =>
      jn (
        ix 120 v_12 <| lt (sti σ 31 v_12.toNatClampNeg (1 : Int32)) fun s_15 =>
        some s_15
      ) fun k_47 =>
      if v_13 = 0 then (
        if x3 = 0 then (
          ix 120 v_12 <| lt (sti σ 31 v_12.toNatClampNeg (0 : Int32)) fun s_18 =>
          some s_18
        ) else (
          k_47
        )
      ) else (
        k_47
      )
    )
  )
def f_X0_join (x1 : Int32) (σ : Sto) : Option Sto :=
  ix 40 x1 <| lt (σ.1 22 x1.toNatClampNeg) fun v_1 =>
  ix 41 x1 <| lt (sti σ 28 x1.toNatClampNeg (σ.1 27 0)) fun s_2 =>
  ix 40 x1 <| lt (stl s_2 0 x1.toNatClampNeg (0 : Int64)) fun s_3 =>
  ix 40 x1 <| lt (sti s_3 24 x1.toNatClampNeg (((-1) : Int32))) fun s_4 =>
  ix 40 x1 <| lt (sti s_4 25 x1.toNatClampNeg (((-1) : Int32))) fun s_5 =>
  calp (f_X3_goesOn v_1 s_5) fun v_6 =>
  jn (fun (s_7 : Sto) => (
    calp (f_X3_goesElsewhere v_1 s_7) fun v_8 =>
    jn (fun (s_9 : Sto) => (
      calp (f_X0_catcherOf x1 s_9) fun v_10 =>
      ix 40 x1 <| lt (sti s_9 26 x1.toNatClampNeg v_10) fun s_11 =>
      ix 40 x1 <| lt (s_11.1 26 x1.toNatClampNeg) fun v_12 =>
      if v_12 = (-1) then (
        some s_11
      ) else (
        ix 40 x1 <| lt (s_11.1 26 x1.toNatClampNeg) fun v_14 =>
        cals (f_X0_lead x1 v_14 (1 : Int32) s_11) fun s_15 =>
        some s_15
      )
    )) fun k_147 =>
    if v_8 = 0 then (
      k_147 s_7
    ) else (
      ix 40 v_1 <| lt (s_7.1 7 v_1.toNatClampNeg) fun v_17 =>
      ix 40 v_17 <| lt (s_7.1 23 v_17.toNatClampNeg) fun v_18 =>
      ix 40 x1 <| lt (s_7.1 24 x1.toNatClampNeg) fun v_19 =>
      jn (fun (s_20 : Sto) => (
        cals (f_X0_lead x1 v_18 (0 : Int32) s_20) fun s_21 =>
        k_147 s_21
      )) fun k_140 =>
      if v_19 = (-1) then (
        ix 40 x1 <| lt (sti s_7 24 x1.toNatClampNeg v_18) fun s_23 =>
        k_140 s_23
      ) else (
        ix 40 x1 <| lt (s_7.1 24 x1.toNatClampNeg) fun v_24 =>
        if v_18 = v_24 then (
          k_140 s_7
        ) else (
          ix 40 x1 <| lt (sti s_7 25 x1.toNatClampNeg v_18) fun s_26 =>
          k_140 s_26
        )
      )
    )
  )) fun k_77 =>
  if v_6 = 0 then (
    k_77 s_5
  ) else (
    ix 40 (v_1 + 1) <| lt (s_5.1 23 (v_1 + 1).toNatClampNeg) fun v_28 =>
    ix 40 x1 <| lt (sti s_5 24 x1.toNatClampNeg v_28) fun s_29 =>
    ix 40 (v_1 + 1) <| lt (s_29.1 23 (v_1 + 1).toNatClampNeg) fun v_30 =>
    cals (f_X0_lead x1 v_30 (0 : Int32) s_29) fun s_31 =>
    k_77 s_31
  )
def f_X3_depthBehind (x1 : Int32) (σ : Sto) : Option Int32 :=
  ix 40 x1 <| lt (σ.1 8 x1.toNatClampNeg) fun v_1 =>
  ix 40 x1 <| lt (σ.1 6 x1.toNatClampNeg) fun v_2 =>
  calp (f_X3_needs v_2) fun v_3 =>
  ix 40 x1 <| lt (σ.1 6 x1.toNatClampNeg) fun v_4 =>
  calp (f_X3_gives v_4) fun v_5 =>
  some ((v_1 - v_3) + v_5)
def f_X0_cut  (σ : Sto) : Option Sto :=
  cals (f_X0_markCuts σ) fun s_1 =>
  lt (sti s_1 20 0 (0 : Int32)) fun s_2 =>
  lt (sti s_2 32 0 (0 : Int32)) fun s_3 =>
  itr (fun _ _ => none) (fun (a_16 : Int32 → Sto → Option Sto) (x1_4 : Int32) (s_4 : Sto) => (
    if (s_4.1 4 0) ≤ x1_4 then (
      lt (sti s_4 27 0 (0 : Int32)) fun s_6 =>
      itr (fun _ _ => none) (fun (a_120 : Int32 → Sto → Option Sto) (x1_7 : Int32) (s_7 : Sto) => (
        if (s_7.1 20 0) ≤ x1_7 then (
          ix 41 (s_7.1 20 0) <| lt (sti s_7 28 (s_7.1 20 0).toNatClampNeg (s_7.1 27 0)) fun s_9 =>
          some s_9
        ) else (
          cals (f_X0_join x1_7 s_7) fun s_10 =>
          ix 40 x1_7 <| lt (s_10.1 21 x1_7.toNatClampNeg) fun v_11 =>
          ix 40 v_11 <| lt (s_10.1 8 v_11.toNatClampNeg) fun v_12 =>
          ix 40 x1_7 <| lt (s_10.1 22 x1_7.toNatClampNeg) fun v_13 =>
          calp (f_X3_depthBehind v_13 s_10) fun v_14 =>
          lt (if v_12 < v_14 then v_14 else v_12) fun v_15 =>
          lt (if (s_10.1 32 0) < v_15 then v_15 else (s_10.1 32 0)) fun v_16 =>
          lt (sti s_10 32 0 v_16) fun s_17 =>
          lt (x1_7 + 1) fun x1_18 =>
          a_120 x1_18 s_17
        )
      )) LF (0 : Int32) s_6
    ) else (
      ix 40 x1_4 <| lt (sti s_4 23 x1_4.toNatClampNeg (((-1) : Int32))) fun s_19 =>
      ix 40 x1_4 <| lt (s_19.1 8 x1_4.toNatClampNeg) fun v_20 =>
      jn (fun (s_21 : Sto) => (
        lt (x1_4 + 1) fun x1_22 =>
        a_16 x1_22 s_21
      )) fun k_107 =>
      if v_20 = (-1) then (
        k_107 s_19
      ) else (
        jn (fun (s_24 : Sto) => (
          ix 40 x1_4 <| lt (sti s_24 23 x1_4.toNatClampNeg (((s_24.1 20 0) - 1))) fun s_25 =>
          ix 40 ((s_25.1 20 0) - 1) <| lt (sti s_25 22 ((s_25.1 20 0) - 1).toNatClampNeg x1_4) fun s_26 =>
          k_107 s_26
        )) fun k_83 =>
        jn (
          ix 40 (s_19.1 20 0) <| lt (sti s_19 21 (s_19.1 20 0).toNatClampNeg x1_4) fun s_28 =>
          lt (sti s_28 20 0 ((s_28.1 20 0) + 1)) fun s_29 =>
          k_83 s_29
        ) fun k_63 =>
        if (s_19.1 20 0) = 0 then (
          k_63
        ) else (
          ix 41 x1_4 <| lt (s_19.1 33 x1_4.toNatClampNeg) fun v_31 =>
          if v_31 = 0 then (
            k_83 s_19
          ) else (
            k_63
          )
        )
      )
    )
  )) LF (0 : Int32) s_3
def f_X8_allAreComeTo  (σ : Sto) : Option (Int32 × Sto) :=
  ix 40 (0 : Int32) <| lt (sti σ 42 (0 : Int32).toNatClampNeg (0 : Int32)) fun s_1 =>
  ix 41 (0 : Int32) <| lt (s_1.1 28 (0 : Int32).toNatClampNeg) fun v_2 =>
  ix 40 (0 : Int32) <| lt (sti s_1 43 (0 : Int32).toNatClampNeg v_2) fun s_3 =>
  itr (fun _ _ _ _ _ => none) (fun (a_32 : Int64 → Int32 → Int32 → Int32 → Sto → Option (Int32 × Sto)) (x1_4 : Int64) (x3_4 : Int32) (x4_4 : Int32) (x5_4 : Int32) (s_4 : Sto) => (
    jn (
      if x3_4 = (s_4.1 20 0) then (
        some ((1 : Int32), s_4)
      ) else (
        some ((0 : Int32), s_4)
      )
    ) fun k_210 =>
    if 1000000 ≤ x5_4 then (
      k_210
    ) else (
      if x4_4 ≤ 0 then (
        k_210
      ) else (
        ix 40 (x4_4 - 1) <| lt (s_4.1 42 (x4_4 - 1).toNatClampNeg) fun v_9 =>
        ix 40 (x4_4 - 1) <| lt (s_4.1 43 (x4_4 - 1).toNatClampNeg) fun v_10 =>
        ix 41 (v_9 + 1) <| lt (s_4.1 28 (v_9 + 1).toNatClampNeg) fun v_11 =>
        jn (fun (x1_12 : Int64) (x3_12 : Int32) (x4_12 : Int32) (s_12 : Sto) => (
          lt (x5_4 + 1) fun x5_13 =>
          a_32 x1_12 x3_12 x4_12 x5_13 s_12
        )) fun k_204 =>
        if v_10 = v_11 then (
          lt (x4_4 + (-1)) fun x4_15 =>
          lt (x3_4 + 1) fun x3_16 =>
          ix 40 ((s_4.1 20 0) - x3_16) <| lt (sti s_4 39 ((s_4.1 20 0) - x3_16).toNatClampNeg v_9) fun s_17 =>
          ix 40 v_9 <| lt (sti s_17 40 v_9.toNatClampNeg (((s_17.1 20 0) - x3_16))) fun s_18 =>
          k_204 x1_4 x3_16 x4_15 s_18
        ) else (
          lt (x4_4 - 1) fun v_19 =>
          ix 40 v_19 <| lt (s_4.1 43 v_19.toNatClampNeg) fun v_20 =>
          ix 40 v_19 <| lt (sti s_4 43 v_19.toNatClampNeg (v_20 + 1)) fun s_21 =>
          ix 120 v_10 <| lt (s_21.1 30 v_10.toNatClampNeg) fun v_22 =>
          ix 120 v_10 <| lt (s_21.1 37 v_10.toNatClampNeg) fun v_23 =>
          if v_23 = 0 then (
            calp (f_X11_isIn x1_4 v_22) fun v_25 =>
            if v_25 = 0 then (
              lt (x1_4 ||| ((1 : Int64) <<< (v_22.toInt64 &&& 63))) fun x1_27 =>
              ix 40 x4_4 <| lt (sti s_21 42 x4_4.toNatClampNeg v_22) fun s_28 =>
              ix 41 v_22 <| lt (s_28.1 28 v_22.toNatClampNeg) fun v_29 =>
              ix 40 x4_4 <| lt (sti s_28 43 x4_4.toNatClampNeg v_29) fun s_30 =>
              lt (x4_4 + 1) fun x4_31 =>
              k_204 x1_27 x3_4 x4_31 s_30
            ) else (
              k_204 x1_4 x3_4 x4_4 s_21
            )
          ) else (
            k_204 x1_4 x3_4 x4_4 s_21
          )
        )
      )
    )
  )) LF (1 : Int64) (0 : Int32) (1 : Int32) (0 : Int32) s_3
def f_J6_numberOfTrailingZeros_0f7a4 (x1 : Int32) : Option Int32 :=
  lt ((x1 ^^^ (-1)) &&& (x1 - 1)) fun x0_1 =>
  if 0 < x0_1 then (
    jn (fun (x0_3 : Int32) (x1_3 : Int32) => (
      jn (fun (x0_4 : Int32) (x1_4 : Int32) => (
        jn (fun (x0_5 : Int32) (x1_5 : Int32) => (
          jn (fun (x0_6 : Int32) (x1_6 : Int32) => (
            some (x1_6 + ((x0_6.toUInt32 >>> ((1 : Int32).toUInt32 &&& Int32.toUInt32 31)).toInt32))
          )) fun k_74 =>
          if x0_5 ≤ 4 then (
            k_74 x0_5 x1_5
          ) else (
            lt (x1_5 + 2) fun x1_8 =>
            lt ((x0_5.toUInt32 >>> ((2 : Int32).toUInt32 &&& Int32.toUInt32 31)).toInt32) fun x0_9 =>
            k_74 x0_9 x1_8
          )
        )) fun k_62 =>
        if x0_4 ≤ 16 then (
          k_62 x0_4 x1_4
        ) else (
          lt (x1_4 + 4) fun x1_11 =>
          lt ((x0_4.toUInt32 >>> ((4 : Int32).toUInt32 &&& Int32.toUInt32 31)).toInt32) fun x0_12 =>
          k_62 x0_12 x1_11
        )
      )) fun k_49 =>
      if x0_3 ≤ 256 then (
        k_49 x0_3 x1_3
      ) else (
        lt (x1_3 + 8) fun x1_14 =>
        lt ((x0_3.toUInt32 >>> ((8 : Int32).toUInt32 &&& Int32.toUInt32 31)).toInt32) fun x0_15 =>
        k_49 x0_15 x1_14
      )
    )) fun k_34 =>
    if x0_1 ≤ 65536 then (
      k_34 x0_1 (1 : Int32)
    ) else (
      lt ((1 : Int32) + 16) fun x1_17 =>
      lt ((x0_1.toUInt32 >>> ((16 : Int32).toUInt32 &&& Int32.toUInt32 31)).toInt32) fun x0_18 =>
      k_34 x0_18 x1_17
    )
  ) else (
    some (x0_1 &&& 32)
  )
def f_J13_numberOfTrailingZeros_95d88 (x1 : Int64) : Option Int32 :=
  lt (x1.toInt32) fun x2_1 =>
  if x2_1 = 0 then (
    calp (f_J6_numberOfTrailingZeros_0f7a4 (((x1.toUInt64 >>> ((32 : Int32).toInt64.toUInt64 &&& Int64.toUInt64 63)).toInt64).toInt32)) fun v_3 =>
    some ((32 : Int32) + v_3)
  ) else (
    calp (f_J6_numberOfTrailingZeros_0f7a4 x2_1) fun v_4 =>
    some v_4
  )
def f_X8_sharedBefore (x1 : Int32) (σ : Sto) : Option Int64 :=
  lt (((1 : Int64) <<< ((σ.1 20 0).toInt64 &&& 63)) - 1) fun x2_1 =>
  ix 40 x1 <| lt (σ.2 5 x1.toNatClampNeg) fun v_2 =>
  calp (f_J13_bitCount_95d88 v_2) fun v_3 =>
  itr (fun _ _ _ => none) (fun (a_27 : Int64 → Int64 → Int32 → Option Int64) (x2_4 : Int64) (x4_4 : Int64) (x6_4 : Int32) => (
    if x6_4 ≤ 0 then (
      some x2_4
    ) else (
      calp (f_J13_numberOfTrailingZeros_95d88 x4_4) fun v_6 =>
      ix 40 v_6 <| lt (σ.2 1 v_6.toNatClampNeg) fun v_7 =>
      lt (x2_4 &&& v_7) fun x2_8 =>
      lt (x4_4 &&& (x4_4 - 1)) fun x4_9 =>
      lt (x6_4 + (-1)) fun x6_10 =>
      a_27 x2_8 x4_9 x6_10
    )
  )) LF x2_1 v_2 v_3
def f_X8_findDominators  (σ : Sto) : Option Sto :=
  itr (fun _ _ => none) (fun (a_2 : Int32 → Sto → Option Sto) (x1_1 : Int32) (s_1 : Sto) => (
    if (s_1.1 20 0) ≤ x1_1 then (
      itr (fun _ _ => none) (fun (a_45 : Int32 → Sto → Option Sto) (x1_3 : Int32) (s_3 : Sto) => (
        if (s_3.1 27 0) ≤ x1_3 then (
          ix 40 (0 : Int32) <| lt (stl s_3 1 (0 : Int32).toNatClampNeg (1 : Int64)) fun s_5 =>
          itr (fun _ _ _ => none) (fun (a_110 : Int32 → Int32 → Sto → Option Sto) (x1_6 : Int32) (x2_6 : Int32) (s_6 : Sto) => (
            if 1000000 ≤ x2_6 then (
              some s_6
            ) else (
              if x1_6 = 0 then (
                some s_6
              ) else (
                itr (fun _ _ _ => none) (fun (a_124 : Int32 → Int32 → Sto → Option Sto) (x1_9 : Int32) (x3_9 : Int32) (s_9 : Sto) => (
                  if (s_9.1 20 0) ≤ x3_9 then (
                    lt (x2_6 + 1) fun x2_11 =>
                    a_110 x1_9 x2_11 s_9
                  ) else (
                    ix 40 x3_9 <| lt (s_9.1 39 x3_9.toNatClampNeg) fun v_12 =>
                    calp (f_X8_sharedBefore v_12 s_9) fun v_13 =>
                    lt (v_13 ||| ((1 : Int64) <<< (v_12.toInt64 &&& 63))) fun x5_14 =>
                    jn (fun (t0_15 : Int32) => (
                      ix 40 v_12 <| lt (stl s_9 1 v_12.toNatClampNeg x5_14) fun s_16 =>
                      lt (x3_9 + 1) fun x3_17 =>
                      a_124 t0_15 x3_17 s_16
                    )) fun k_178 =>
                    jn (
                      k_178 (1 : Int32)
                    ) fun k_173 =>
                    if x1_9 = 0 then (
                      ix 40 v_12 <| lt (s_9.2 1 v_12.toNatClampNeg) fun v_20 =>
                      if (lg_cmp x5_14 v_20) = 0 then (
                        k_178 (0 : Int32)
                      ) else (
                        k_173
                      )
                    ) else (
                      k_173
                    )
                  )
                )) LF (0 : Int32) (1 : Int32) s_6
              )
            )
          )) LF (1 : Int32) (0 : Int32) s_5
        ) else (
          ix 120 x1_3 <| lt (s_3.1 37 x1_3.toNatClampNeg) fun v_22 =>
          jn (fun (s_23 : Sto) => (
            lt (x1_3 + 1) fun x1_24 =>
            a_45 x1_24 s_23
          )) fun k_93 =>
          if v_22 = 0 then (
            ix 120 x1_3 <| lt (s_3.1 30 x1_3.toNatClampNeg) fun v_26 =>
            ix 40 v_26 <| lt (s_3.2 5 v_26.toNatClampNeg) fun v_27 =>
            ix 120 x1_3 <| lt (s_3.1 29 x1_3.toNatClampNeg) fun v_28 =>
            ix 40 v_26 <| lt (stl s_3 5 v_26.toNatClampNeg ((v_27 ||| ((1 : Int64) <<< (v_28.toInt64 &&& 63))))) fun s_29 =>
            k_93 s_29
          ) else (
            k_93 s_3
          )
        )
      )) LF (0 : Int32) s_1
    ) else (
      ix 40 x1_1 <| lt (stl s_1 5 x1_1.toNatClampNeg (0 : Int64)) fun s_30 =>
      ix 40 x1_1 <| lt (stl s_30 1 x1_1.toNatClampNeg ((((1 : Int64) <<< ((s_30.1 20 0).toInt64 &&& 63)) - 1))) fun s_31 =>
      lt (x1_1 + 1) fun x1_32 =>
      a_2 x1_32 s_31
    )
  )) LF (0 : Int32) σ
def f_X8_isBack (x1 : Int32) (σ : Sto) : Option Int32 :=
  ix 120 x1 <| lt (σ.1 29 x1.toNatClampNeg) fun v_1 =>
  ix 40 v_1 <| lt (σ.2 1 v_1.toNatClampNeg) fun v_2 =>
  ix 120 x1 <| lt (σ.1 30 x1.toNatClampNeg) fun v_3 =>
  calp (f_X11_isIn v_2 v_3) fun v_4 =>
  bz v_4 <|
  some v_4
def f_X8_isReducedNow  (σ : Sto) : Option (Int32 × Sto) :=
  calv (f_X8_allAreComeTo σ) fun v_1 s_1 =>
  if v_1 = 0 then (
    some ((0 : Int32), s_1)
  ) else (
    cals (f_X8_findDominators s_1) fun s_3 =>
    itr (fun _ => none) (fun (a_15 : Int32 → Option (Int32 × Sto)) (x1_4 : Int32) => (
      if (s_3.1 27 0) ≤ x1_4 then (
        some ((1 : Int32), s_3)
      ) else (
        ix 120 x1_4 <| lt (s_3.1 30 x1_4.toNatClampNeg) fun v_6 =>
        ix 40 v_6 <| lt (s_3.1 40 v_6.toNatClampNeg) fun v_7 =>
        ix 120 x1_4 <| lt (s_3.1 29 x1_4.toNatClampNeg) fun v_8 =>
        ix 40 v_8 <| lt (s_3.1 40 v_8.toNatClampNeg) fun v_9 =>
        jn (fun (t0_10 : Int32) => (
          ix 120 x1_4 <| lt (s_3.1 37 x1_4.toNatClampNeg) fun v_11 =>
          jn (
            lt (x1_4 + 1) fun x1_13 =>
            a_15 x1_13
          ) fun k_86 =>
          if v_11 = 0 then (
            if t0_10 = 0 then (
              k_86
            ) else (
              calp (f_X8_isBack x1_4 s_3) fun v_16 =>
              if v_16 = 0 then (
                some ((0 : Int32), s_3)
              ) else (
                k_86
              )
            )
          ) else (
            k_86
          )
        )) fun k_62 =>
        if v_9 < v_7 then (
          k_62 (0 : Int32)
        ) else (
          k_62 (1 : Int32)
        )
      )
    )) LF (0 : Int32)
  )
def f_X8_findAbove  (σ : Sto) : Option Sto :=
  itr (fun _ _ => none) (fun (a_2 : Int32 → Sto → Option Sto) (x1_1 : Int32) (s_1 : Sto) => (
    if (s_1.1 20 0) ≤ x1_1 then (
      some s_1
    ) else (
      ix 40 x1_1 <| lt (sti s_1 41 x1_1.toNatClampNeg (((-1) : Int32))) fun s_3 =>
      ix 40 x1_1 <| lt (s_3.2 1 x1_1.toNatClampNeg) fun v_4 =>
      calp (f_J13_bitCount_95d88 v_4) fun v_5 =>
      lt (v_5 - 1) fun x2_6 =>
      itr (fun _ _ => none) (fun (a_34 : Int32 → Sto → Option Sto) (x3_7 : Int32) (s_7 : Sto) => (
        if (s_7.1 20 0) ≤ x3_7 then (
          lt (x1_1 + 1) fun x1_9 =>
          a_2 x1_9 s_7
        ) else (
          jn (fun (s_10 : Sto) => (
            lt (x3_7 + 1) fun x3_11 =>
            a_34 x3_11 s_10
          )) fun k_83 =>
          if x3_7 = x1_1 then (
            k_83 s_7
          ) else (
            ix 40 x1_1 <| lt (s_7.2 1 x1_1.toNatClampNeg) fun v_13 =>
            calp (f_X11_isIn v_13 x3_7) fun v_14 =>
            if v_14 = 0 then (
              k_83 s_7
            ) else (
              ix 40 x3_7 <| lt (s_7.2 1 x3_7.toNatClampNeg) fun v_16 =>
              calp (f_J13_bitCount_95d88 v_16) fun v_17 =>
              if v_17 = x2_6 then (
                ix 40 x1_1 <| lt (sti s_7 41 x1_1.toNatClampNeg x3_7) fun s_19 =>
                k_83 s_19
              ) else (
                k_83 s_7
              )
            )
          )
        )
      )) LF (0 : Int32) s_3
    )
  )) LF (0 : Int32) σ
def f_X8_comingBack (x1 : Int32) (x2 : Int32) (σ : Sto) : Option Int64 :=
  lt (((1 : Int64) <<< (x1.toInt64 &&& 63)) ||| ((1 : Int64) <<< (x2.toInt64 &&& 63))) fun x3_1 =>
  itr (fun _ _ _ => none) (fun (a_14 : Int64 → Int64 → Int32 → Option Int64) (x3_2 : Int64) (x5_2 : Int64) (x7_2 : Int32) => (
    if (σ.1 20 0) < x7_2 then (
      some x3_2
    ) else (
      if (lg_cmp x5_2 x3_2) = 0 then (
        some x3_2
      ) else (
        itr (fun _ _ => none) (fun (a_39 : Int64 → Int32 → Option Int64) (x3_5 : Int64) (x8_5 : Int32) => (
          if (σ.1 20 0) ≤ x8_5 then (
            lt (x7_2 + 1) fun x7_7 =>
            a_14 x3_5 x3_2 x7_7
          ) else (
            jn (fun (x3_8 : Int64) => (
              lt (x8_5 + 1) fun x8_9 =>
              a_39 x3_8 x8_9
            )) fun k_76 =>
            if x8_5 = x1 then (
              k_76 x3_5
            ) else (
              calp (f_X11_isIn x3_5 x8_5) fun v_11 =>
              if v_11 = 0 then (
                k_76 x3_5
              ) else (
                ix 40 x8_5 <| lt (σ.2 5 x8_5.toNatClampNeg) fun v_13 =>
                lt (x3_5 ||| v_13) fun x3_14 =>
                k_76 x3_14
              )
            )
          )
        )) LF x3_2 (0 : Int32)
      )
    )
  )) LF x3_1 (0 : Int64) (0 : Int32)
def f_X8_findLoops  (σ : Sto) : Option Sto :=
  lt (stl σ 2 0 (0 : Int64)) fun s_1 =>
  itr (fun _ _ => none) (fun (a_7 : Int32 → Sto → Option Sto) (x1_2 : Int32) (s_2 : Sto) => (
    if (s_2.1 20 0) ≤ x1_2 then (
      itr (fun _ _ => none) (fun (a_33 : Int32 → Sto → Option Sto) (x1_4 : Int32) (s_4 : Sto) => (
        if (s_4.1 27 0) ≤ x1_4 then (
          some s_4
        ) else (
          ix 120 x1_4 <| lt (s_4.1 38 x1_4.toNatClampNeg) fun v_6 =>
          jn (fun (s_7 : Sto) => (
            lt (x1_4 + 1) fun x1_8 =>
            a_33 x1_8 s_7
          )) fun k_107 =>
          if v_6 = 0 then (
            k_107 s_4
          ) else (
            ix 120 x1_4 <| lt (s_4.1 37 x1_4.toNatClampNeg) fun v_10 =>
            if v_10 = 0 then (
              ix 120 x1_4 <| lt (s_4.1 30 x1_4.toNatClampNeg) fun v_12 =>
              lt (stl s_4 2 0 ((s_4.2 2 0) ||| ((1 : Int64) <<< (v_12.toInt64 &&& 63)))) fun s_13 =>
              ix 40 v_12 <| lt (s_13.2 3 v_12.toNatClampNeg) fun v_14 =>
              ix 120 x1_4 <| lt (s_13.1 29 x1_4.toNatClampNeg) fun v_15 =>
              calp (f_X8_comingBack v_12 v_15 s_13) fun v_16 =>
              ix 40 v_12 <| lt (stl s_13 3 v_12.toNatClampNeg (v_14 ||| v_16)) fun s_17 =>
              k_107 s_17
            ) else (
              k_107 s_4
            )
          )
        )
      )) LF (0 : Int32) s_2
    ) else (
      ix 40 x1_2 <| lt (stl s_2 3 x1_2.toNatClampNeg (0 : Int64)) fun s_18 =>
      lt (x1_2 + 1) fun x1_19 =>
      a_7 x1_19 s_18
    )
  )) LF (0 : Int32) s_1
def f_X8_findMerges  (σ : Sto) : Option Sto :=
  lt (stl σ 4 0 (0 : Int64)) fun s_1 =>
  itr (fun _ _ _ => none) (fun (a_9 : Int64 → Int32 → Sto → Option Sto) (x1_2 : Int64) (x3_2 : Int32) (s_2 : Sto) => (
    if (s_2.1 27 0) ≤ x3_2 then (
      some s_2
    ) else (
      ix 120 x3_2 <| lt (s_2.1 30 x3_2.toNatClampNeg) fun v_4 =>
      lt ((1 : Int64) <<< (v_4.toInt64 &&& 63)) fun x4_5 =>
      ix 120 x3_2 <| lt (s_2.1 31 x3_2.toNatClampNeg) fun v_6 =>
      jn (fun (s_7 : Sto) => (
        ix 120 x3_2 <| lt (s_7.1 37 x3_2.toNatClampNeg) fun v_8 =>
        jn (fun (x1_9 : Int64) (s_9 : Sto) => (
          lt (x3_2 + 1) fun x3_10 =>
          a_9 x1_9 x3_10 s_9
        )) fun k_92 =>
        if v_8 = 0 then (
          ix 120 x3_2 <| lt (s_7.1 38 x3_2.toNatClampNeg) fun v_12 =>
          if v_12 = 0 then (
            lt (stl s_7 4 0 ((s_7.2 4 0) ||| (x1_2 &&& x4_5))) fun s_14 =>
            lt (x1_2 ||| x4_5) fun x1_15 =>
            k_92 x1_15 s_14
          ) else (
            k_92 x1_2 s_7
          )
        ) else (
          k_92 x1_2 s_7
        )
      )) fun k_56 =>
      if v_6 = 0 then (
        k_56 s_2
      ) else (
        lt (stl s_2 4 0 ((s_2.2 4 0) ||| x4_5)) fun s_17 =>
        k_56 s_17
      )
    )
  )) LF (0 : Int64) (0 : Int32) s_1
def f_X8_findCandidates  (σ : Sto) : Option Sto :=
  lt (sti σ 45 0 (0 : Int32)) fun s_1 =>
  itr (fun _ _ => none) (fun (a_7 : Int32 → Sto → Option Sto) (x1_2 : Int32) (s_2 : Sto) => (
    if (s_2.1 27 0) ≤ x1_2 then (
      some s_2
    ) else (
      ix 120 x1_2 <| lt (s_2.1 30 x1_2.toNatClampNeg) fun v_4 =>
      ix 40 v_4 <| lt (s_2.2 5 v_4.toNatClampNeg) fun v_5 =>
      calp (f_J13_bitCount_95d88 v_5) fun v_6 =>
      jn (fun (t0_7 : Int32) => (
        ix 120 x1_2 <| lt (s_2.1 31 x1_2.toNatClampNeg) fun v_8 =>
        jn (fun (s_9 : Sto) => (
          lt (x1_2 + 1) fun x1_10 =>
          a_7 x1_10 s_9
        )) fun k_89 =>
        if v_8 = 0 then (
          calp (f_X8_isBack x1_2 s_2) fun v_12 =>
          if v_12 = 0 then (
            if t0_7 = 0 then (
              ix 120 (s_2.1 45 0) <| lt (sti s_2 44 (s_2.1 45 0).toNatClampNeg x1_2) fun s_15 =>
              lt (sti s_15 45 0 ((s_15.1 45 0) + 1)) fun s_16 =>
              k_89 s_16
            ) else (
              k_89 s_2
            )
          ) else (
            k_89 s_2
          )
        ) else (
          k_89 s_2
        )
      )) fun k_44 =>
      if 2 ≤ v_6 then (
        k_44 (0 : Int32)
      ) else (
        k_44 (1 : Int32)
      )
    )
  )) LF (0 : Int32) s_1
def f_X8_oneJumpIsEnough  (σ : Sto) : Option (Int32 × Sto) :=
  itr (fun _ _ => none) (fun (a_2 : Int32 → Sto → Option (Int32 × Sto)) (x1_1 : Int32) (s_1 : Sto) => (
    if (s_1.1 45 0) ≤ x1_1 then (
      some ((0 : Int32), s_1)
    ) else (
      ix 120 x1_1 <| lt (s_1.1 44 x1_1.toNatClampNeg) fun v_3 =>
      ix 120 v_3 <| lt (sti s_1 37 v_3.toNatClampNeg (1 : Int32)) fun s_4 =>
      calv (f_X8_isReducedNow s_4) fun v_5 s_5 =>
      if v_5 = 0 then (
        ix 120 x1_1 <| lt (s_5.1 44 x1_1.toNatClampNeg) fun v_7 =>
        ix 120 v_7 <| lt (sti s_5 37 v_7.toNatClampNeg (0 : Int32)) fun s_8 =>
        lt (x1_1 + 1) fun x1_9 =>
        a_2 x1_9 s_8
      ) else (
        lt (sti s_5 36 0 (1 : Int32)) fun s_10 =>
        some ((1 : Int32), s_10)
      )
    )
  )) LF (0 : Int32) σ
def f_X8_twoJumpsAreEnough  (σ : Sto) : Option (Int32 × Sto) :=
  itr (fun _ _ => none) (fun (a_2 : Int32 → Sto → Option (Int32 × Sto)) (x1_1 : Int32) (s_1 : Sto) => (
    if (s_1.1 45 0) ≤ x1_1 then (
      some ((0 : Int32), s_1)
    ) else (
      ix 120 x1_1 <| lt (s_1.1 44 x1_1.toNatClampNeg) fun v_3 =>
      ix 120 v_3 <| lt (sti s_1 37 v_3.toNatClampNeg (1 : Int32)) fun s_4 =>
      lt (x1_1 + 1) fun x2_5 =>
      itr (fun _ _ => none) (fun (a_26 : Int32 → Sto → Option (Int32 × Sto)) (x2_6 : Int32) (s_6 : Sto) => (
        if (s_6.1 45 0) ≤ x2_6 then (
          ix 120 x1_1 <| lt (s_6.1 44 x1_1.toNatClampNeg) fun v_8 =>
          ix 120 v_8 <| lt (sti s_6 37 v_8.toNatClampNeg (0 : Int32)) fun s_9 =>
          lt (x1_1 + 1) fun x1_10 =>
          a_2 x1_10 s_9
        ) else (
          ix 120 x2_6 <| lt (s_6.1 44 x2_6.toNatClampNeg) fun v_11 =>
          ix 120 v_11 <| lt (sti s_6 37 v_11.toNatClampNeg (1 : Int32)) fun s_12 =>
          calv (f_X8_isReducedNow s_12) fun v_13 s_13 =>
          if v_13 = 0 then (
            ix 120 x2_6 <| lt (s_13.1 44 x2_6.toNatClampNeg) fun v_15 =>
            ix 120 v_15 <| lt (sti s_13 37 v_15.toNatClampNeg (0 : Int32)) fun s_16 =>
            lt (x2_6 + 1) fun x2_17 =>
            a_26 x2_17 s_16
          ) else (
            lt (sti s_13 36 0 (2 : Int32)) fun s_18 =>
            some ((1 : Int32), s_18)
          )
        )
      )) LF x2_5 s_4
    )
  )) LF (0 : Int32) σ
def f_X8_form  (σ : Sto) : Option Sto :=
  itr (fun _ _ => none) (fun (a_2 : Int32 → Sto → Option Sto) (x1_1 : Int32) (s_1 : Sto) => (
    if 120 ≤ x1_1 then (
      lt (sti s_1 36 0 (0 : Int32)) fun s_3 =>
      calv (f_X8_isReducedNow s_3) fun v_4 s_4 =>
      bz v_4 <|
      lt (sti s_4 35 0 v_4) fun s_5 =>
      lt (sti s_5 34 0 (0 : Int32)) fun s_7 =>
      jn (fun (s_8 : Sto) => (
        itr (fun _ _ => none) (fun (a_76 : Int32 → Sto → Option Sto) (x1_9 : Int32) (s_9 : Sto) => (
          if (s_9.1 27 0) ≤ x1_9 then (
            cals (f_X8_findAbove s_9) fun s_11 =>
            cals (f_X8_findLoops s_11) fun s_12 =>
            cals (f_X8_findMerges s_12) fun s_13 =>
            some s_13
          ) else (
            calp (f_X8_isBack x1_9 s_9) fun v_14 =>
            bz v_14 <|
            ix 120 x1_9 <| lt (sti s_9 38 x1_9.toNatClampNeg v_14) fun s_15 =>
            lt (x1_9 + 1) fun x1_17 =>
            a_76 x1_17 s_15
          )
        )) LF (0 : Int32) s_8
      )) fun k_74 =>
      if (s_7.1 35 0) = 0 then (
        cals (f_X8_findCandidates s_7) fun s_19 =>
        calv (f_X8_oneJumpIsEnough s_19) fun v_20 s_20 =>
        if v_20 = 0 then (
          calv (f_X8_twoJumpsAreEnough s_20) fun v_22 s_22 =>
          if v_22 = 0 then (
            lt (sti s_22 34 0 (1 : Int32)) fun s_24 =>
            calv (f_X8_isReducedNow s_24) fun v_25 s_25 =>
            k_74 s_25
          ) else (
            k_74 s_22
          )
        ) else (
          k_74 s_20
        )
      ) else (
        k_74 s_7
      )
    ) else (
      ix 120 x1_1 <| lt (sti s_1 37 x1_1.toNatClampNeg (0 : Int32)) fun s_26 =>
      lt (x1_1 + 1) fun x1_27 =>
      a_2 x1_27 s_26
    )
  )) LF (0 : Int32) σ
def f_X7_isName (x1 : Int32) (σ : Sto) : Option Int32 :=
  ix 512 x1 <| lt (σ.1 47 x1.toNatClampNeg) fun v_1 =>
  jn (
    some (1 : Int32)
  ) fun k_33 =>
  if v_1 = 108 then (
    k_33
  ) else (
    ix 512 x1 <| lt (σ.1 47 x1.toNatClampNeg) fun v_4 =>
    if v_4 = 84 then (
      k_33
    ) else (
      ix 512 x1 <| lt (σ.1 47 x1.toNatClampNeg) fun v_6 =>
      if v_6 = 88 then (
        k_33
      ) else (
        some (0 : Int32)
      )
    )
  )
def f_X11_isUnary (x1 : Int32) : Option Int32 :=
  jn (
    some (1 : Int32)
  ) fun k_12 =>
  if x1 = 33 then (
    k_12
  ) else (
    if x1 = 110 then (
      k_12
    ) else (
      some (0 : Int32)
    )
  )
def f_X1_tellWithin (x1 : Int32) (σ : Sto) : Option Sto :=
  ix 512 x1 <| lt (σ.1 47 x1.toNatClampNeg) fun v_1 =>
  calp (f_X11_isBinary v_1) fun v_2 =>
  jn (fun (s_3 : Sto) => (
    if v_2 = 0 then (
      some s_3
    ) else (
      ix 512 x1 <| lt (s_3.1 49 x1.toNatClampNeg) fun v_5 =>
      ix 512 v_5 <| lt (sti s_3 62 v_5.toNatClampNeg (1 : Int32)) fun s_6 =>
      some s_6
    )
  )) fun k_47 =>
  jn (
    ix 512 x1 <| lt (σ.1 48 x1.toNatClampNeg) fun v_8 =>
    ix 512 v_8 <| lt (sti σ 62 v_8.toNatClampNeg (1 : Int32)) fun s_9 =>
    k_47 s_9
  ) fun k_32 =>
  if v_2 = 0 then (
    ix 512 x1 <| lt (σ.1 47 x1.toNatClampNeg) fun v_11 =>
    calp (f_X11_isUnary v_11) fun v_12 =>
    if v_12 = 0 then (
      k_47 σ
    ) else (
      k_32
    )
  ) else (
    k_32
  )
def f_X1_countUnlike  (σ : Sto) : Option Sto :=
  itr (fun _ _ => none) (fun (a_2 : Int32 → Sto → Option Sto) (x1_1 : Int32) (s_1 : Sto) => (
    if (s_1.1 46 0) ≤ x1_1 then (
      itr (fun _ _ => none) (fun (a_28 : Int32 → Sto → Option Sto) (x1_3 : Int32) (s_3 : Sto) => (
        if (s_3.1 52 0) ≤ x1_3 then (
          itr (fun _ _ => none) (fun (a_66 : Int32 → Sto → Option Sto) (x1_5 : Int32) (s_5 : Sto) => (
            if (s_5.1 20 0) ≤ x1_5 then (
              lt (sti s_5 59 0 (0 : Int32)) fun s_7 =>
              lt ((s_7.1 46 0) - 1) fun x1_8 =>
              itr (fun _ _ => none) (fun (a_120 : Int32 → Sto → Option Sto) (x1_9 : Int32) (s_9 : Sto) => (
                if x1_9 < 0 then (
                  some s_9
                ) else (
                  ix 512 x1_9 <| lt (s_9.1 62 x1_9.toNatClampNeg) fun v_11 =>
                  jn (fun (s_12 : Sto) => (
                    lt (x1_9 + (-1)) fun x1_13 =>
                    a_120 x1_13 s_12
                  )) fun k_159 =>
                  if v_11 = 0 then (
                    k_159 s_9
                  ) else (
                    calp (f_X7_isName x1_9 s_9) fun v_15 =>
                    if v_15 = 0 then (
                      lt (sti s_9 59 0 ((s_9.1 59 0) + 1)) fun s_17 =>
                      cals (f_X1_tellWithin x1_9 s_17) fun s_18 =>
                      k_159 s_18
                    ) else (
                      k_159 s_9
                    )
                  )
                )
              )) LF x1_8 s_7
            ) else (
              ix 40 x1_5 <| lt (s_5.1 57 x1_5.toNatClampNeg) fun v_19 =>
              jn (fun (s_20 : Sto) => (
                lt (x1_5 + 1) fun x1_21 =>
                a_66 x1_21 s_20
              )) fun k_99 =>
              if v_19 = (-1) then (
                k_99 s_5
              ) else (
                ix 40 x1_5 <| lt (s_5.1 57 x1_5.toNatClampNeg) fun v_23 =>
                ix 512 v_23 <| lt (sti s_5 62 v_23.toNatClampNeg (1 : Int32)) fun s_24 =>
                k_99 s_24
              )
            )
          )) LF (0 : Int32) s_3
        ) else (
          ix 320 x1_3 <| lt (s_3.1 55 x1_3.toNatClampNeg) fun v_25 =>
          jn (fun (s_26 : Sto) => (
            lt (x1_3 + 1) fun x1_27 =>
            a_28 x1_27 s_26
          )) fun k_58 =>
          if v_25 = (-1) then (
            k_58 s_3
          ) else (
            ix 320 x1_3 <| lt (s_3.1 55 x1_3.toNatClampNeg) fun v_29 =>
            ix 512 v_29 <| lt (sti s_3 62 v_29.toNatClampNeg (1 : Int32)) fun s_30 =>
            k_58 s_30
          )
        )
      )) LF (0 : Int32) s_1
    ) else (
      ix 512 x1_1 <| lt (sti s_1 62 x1_1.toNatClampNeg (0 : Int32)) fun s_31 =>
      lt (x1_1 + 1) fun x1_32 =>
      a_2 x1_32 s_31
    )
  )) LF (0 : Int32) σ
def f_X7_hasEffects (x1 : Int32) (σ : Sto) : Option Int32 :=
  ix 512 x1 <| lt (σ.1 51 x1.toNatClampNeg) fun v_1 =>
  if (v_1 &&& 4096) = 0 then (
    some (0 : Int32)
  ) else (
    some (1 : Int32)
  )
def f_X1_add (x1 : Int32) (x2 : Int32) (x3 : Int32) (σ : Sto) : Option Sto :=
  if 320 ≤ (σ.1 52 0) then (
    some σ
  ) else (
    ix 320 (σ.1 52 0) <| lt (sti σ 53 (σ.1 52 0).toNatClampNeg x1) fun s_2 =>
    ix 320 (s_2.1 52 0) <| lt (sti s_2 54 (s_2.1 52 0).toNatClampNeg x2) fun s_3 =>
    ix 320 (s_3.1 52 0) <| lt (sti s_3 55 (s_3.1 52 0).toNatClampNeg x3) fun s_4 =>
    lt (sti s_4 52 0 ((s_4.1 52 0) + 1)) fun s_5 =>
    some s_5
  )
def f_X7_make (x1 : Int32) (x2 : Int32) (x3 : Int32) (σ : Sto) : Option (Int32 × Sto) :=
  itr (fun _ => none) (fun (a_3 : Int32 → Option (Int32 × Sto)) (x4_1 : Int32) => (
    if (σ.1 46 0) ≤ x4_1 then (
      if (σ.1 46 0) = 512 then (
        some ((0 : Int32), σ)
      ) else (
        ix 512 (σ.1 46 0) <| lt (sti σ 47 (σ.1 46 0).toNatClampNeg x1) fun s_4 =>
        ix 512 (s_4.1 46 0) <| lt (sti s_4 48 (s_4.1 46 0).toNatClampNeg x2) fun s_5 =>
        ix 512 (s_5.1 46 0) <| lt (sti s_5 49 (s_5.1 46 0).toNatClampNeg x3) fun s_6 =>
        ix 512 (s_6.1 46 0) <| lt (sti s_6 50 (s_6.1 46 0).toNatClampNeg (1 : Int32)) fun s_7 =>
        jn (fun (t0_8 : Int32) => (
          ix 512 (s_7.1 46 0) <| lt (sti s_7 51 (s_7.1 46 0).toNatClampNeg t0_8) fun s_9 =>
          jn (fun (s_10 : Sto) => (
            lt (sti s_10 46 0 ((s_10.1 46 0) + 1)) fun s_11 =>
            some (((s_11.1 46 0) - 1), s_11)
          )) fun k_330 =>
          if x1.toInt = 33 ∨ x1.toInt = 110 then (
            lt (s_9.1 46 0) fun v_13 =>
            ix 512 v_13 <| lt (s_9.1 50 v_13.toNatClampNeg) fun v_14 =>
            ix 512 x2 <| lt (s_9.1 50 x2.toNatClampNeg) fun v_15 =>
            ix 512 v_13 <| lt (sti s_9 50 v_13.toNatClampNeg (v_14 + v_15)) fun s_16 =>
            ix 512 x2 <| lt (s_16.1 51 x2.toNatClampNeg) fun v_17 =>
            ix 512 (s_16.1 46 0) <| lt (sti s_16 51 (s_16.1 46 0).toNatClampNeg v_17) fun s_18 =>
            k_330 s_18
          ) else (
          if x1.toInt = 84 then (
            ix 512 (s_9.1 46 0) <| lt (sti s_9 51 (s_9.1 46 0).toNatClampNeg (((1 : Int32) <<< (((6 : Int32) + x2) &&& 31)))) fun s_19 =>
            k_330 s_19
          ) else (
          if x1.toInt = 88 ∨ x1.toInt = 105 ∨ x1.toInt = 107 then (
            k_330 s_9
          ) else (
          if x1.toInt = 108 then (
            ix 512 (s_9.1 46 0) <| lt (sti s_9 51 (s_9.1 46 0).toNatClampNeg (((1 : Int32) <<< (x2 &&& 31)))) fun s_20 =>
            k_330 s_20
          ) else (
            lt (s_9.1 46 0) fun v_21 =>
            ix 512 v_21 <| lt (s_9.1 50 v_21.toNatClampNeg) fun v_22 =>
            ix 512 x2 <| lt (s_9.1 50 x2.toNatClampNeg) fun v_23 =>
            ix 512 x3 <| lt (s_9.1 50 x3.toNatClampNeg) fun v_24 =>
            ix 512 v_21 <| lt (sti s_9 50 v_21.toNatClampNeg ((v_22 + (v_23 + v_24)))) fun s_25 =>
            lt (s_25.1 46 0) fun v_26 =>
            ix 512 v_26 <| lt (s_25.1 51 v_26.toNatClampNeg) fun v_27 =>
            ix 512 x2 <| lt (s_25.1 51 x2.toNatClampNeg) fun v_28 =>
            ix 512 x3 <| lt (s_25.1 51 x3.toNatClampNeg) fun v_29 =>
            ix 512 v_26 <| lt (sti s_25 51 v_26.toNatClampNeg ((v_27 ||| (v_28 ||| v_29)))) fun s_30 =>
            k_330 s_30
          )
          )
          )
          )
        )) fun k_139 =>
        jn (
          k_139 (4096 : Int32)
        ) fun k_132 =>
        if x1 = 105 then (
          k_132
        ) else (
          if x1 = 47 then (
            k_132
          ) else (
            if x1 = 37 then (
              k_132
            ) else (
              k_139 (0 : Int32)
            )
          )
        )
      )
    ) else (
      ix 512 x4_1 <| lt (σ.1 47 x4_1.toNatClampNeg) fun v_35 =>
      jn (
        lt (x4_1 + 1) fun x4_37 =>
        a_3 x4_37
      ) fun k_48 =>
      if v_35 = x1 then (
        ix 512 x4_1 <| lt (σ.1 48 x4_1.toNatClampNeg) fun v_39 =>
        if v_39 = x2 then (
          ix 512 x4_1 <| lt (σ.1 49 x4_1.toNatClampNeg) fun v_41 =>
          if v_41 = x3 then (
            some (x4_1, σ)
          ) else (
            k_48
          )
        ) else (
          k_48
        )
      ) else (
        k_48
      )
    )
  )) LF (0 : Int32)
def f_X1_putAside (x1 : Int32) (σ : Sto) : Option (Int32 × Sto) :=
  cals (f_X1_add (2 : Int32) (σ.1 58 0) x1 σ) fun s_1 =>
  calv (f_X7_make (88 : Int32) (s_1.1 58 0) (0 : Int32) s_1) fun v_2 s_2 =>
  if 160 ≤ (s_2.1 58 0) then (
    some (v_2, s_2)
  ) else (
    lt (sti s_2 58 0 ((s_2.1 58 0) + 1)) fun s_4 =>
    some (v_2, s_4)
  )
def f_X7_slotBit (x1 : Int32) : Option Int32 :=
  some ((1 : Int32) <<< (((6 : Int32) + x1) &&& 31))
def f_X1_isNeededAbove (x1 : Int32) (x2 : Int32) (σ : Sto) : Option Int32 :=
  ix 40 x1 <| lt (σ.1 57 x1.toNatClampNeg) fun v_1 =>
  jn (fun (t0_2 : Int32) => (
    lt (x2 + 1) fun x4_3 =>
    itr (fun _ _ => none) (fun (a_34 : Int32 → Int32 → Option Int32) (x3_4 : Int32) (x4_4 : Int32) => (
      if (σ.1 61 0) ≤ x4_4 then (
        calp (f_X7_slotBit x2) fun v_6 =>
        if (x3_4 &&& v_6) = 0 then (
          some (0 : Int32)
        ) else (
          some (1 : Int32)
        )
      ) else (
        ix 8 x4_4 <| lt (σ.1 60 x4_4.toNatClampNeg) fun v_8 =>
        ix 512 v_8 <| lt (σ.1 51 v_8.toNatClampNeg) fun v_9 =>
        lt (x3_4 ||| v_9) fun x3_10 =>
        lt (x4_4 + 1) fun x4_11 =>
        a_34 x3_10 x4_11
      )
    )) LF t0_2 x4_3
  )) fun k_28 =>
  if v_1 = (-1) then (
    k_28 (0 : Int32)
  ) else (
    ix 40 x1 <| lt (σ.1 57 x1.toNatClampNeg) fun v_13 =>
    ix 512 v_13 <| lt (σ.1 51 v_13.toNatClampNeg) fun v_14 =>
    k_28 v_14
  )
def b_X7_replace (q_X7_replace : Int32 → Int32 → Int32 → Int32 → Sto → Option (Int32 × Sto)) (x1 : Int32) (x2 : Int32) (x3 : Int32) (x4 : Int32) (σ : Sto) : Option (Int32 × Sto) :=
  if 60 < x4 then (
    some (x1, σ)
  ) else (
    ix 512 x1 <| lt (σ.1 51 x1.toNatClampNeg) fun v_2 =>
    calp (f_X7_slotBit x2) fun v_3 =>
    if (v_2 &&& v_3) = 0 then (
      some (x1, σ)
    ) else (
      ix 512 x1 <| lt (σ.1 47 x1.toNatClampNeg) fun v_5 =>
      calp (f_X11_isBinary v_5) fun v_6 =>
      if v_6 = 0 then (
        ix 512 x1 <| lt (σ.1 47 x1.toNatClampNeg) fun v_8 =>
        calp (f_X11_isUnary v_8) fun v_9 =>
        if v_9 = 0 then (
          some (x3, σ)
        ) else (
          ix 512 x1 <| lt (σ.1 47 x1.toNatClampNeg) fun v_11 =>
          ix 512 x1 <| lt (σ.1 48 x1.toNatClampNeg) fun v_12 =>
          calv (q_X7_replace v_12 x2 x3 (x4 + 1) σ) fun v_13 s_13 =>
          calv (f_X7_make v_11 v_13 (0 : Int32) s_13) fun v_14 s_14 =>
          some (v_14, s_14)
        )
      ) else (
        ix 512 x1 <| lt (σ.1 48 x1.toNatClampNeg) fun v_15 =>
        calv (q_X7_replace v_15 x2 x3 (x4 + 1) σ) fun v_16 s_16 =>
        ix 512 x1 <| lt (s_16.1 49 x1.toNatClampNeg) fun v_17 =>
        calv (q_X7_replace v_17 x2 x3 (x4 + 1) s_16) fun v_18 s_18 =>
        ix 512 x1 <| lt (s_18.1 47 x1.toNatClampNeg) fun v_19 =>
        calv (f_X7_make v_19 v_16 v_18 s_18) fun v_20 s_20 =>
        some (v_20, s_20)
      )
    )
  )
def g_X7_replace : Nat → ((Int32 → Int32 → Int32 → Int32 → Sto → Option (Int32 × Sto)))
  | 0 => fun _ _ _ _ _ => none
  | d + 1 => b_X7_replace (g_X7_replace d)
def f_X7_replace (d : Nat) : Int32 → Int32 → Int32 → Int32 → Sto → Option (Int32 × Sto) := (g_X7_replace d)
def f_X1_replaceAbove (x1 : Int32) (x2 : Int32) (x3 : Int32) (σ : Sto) : Option Sto :=
  lt (x2 + 1) fun x4_1 =>
  itr (fun _ _ => none) (fun (a_5 : Int32 → Sto → Option Sto) (x4_2 : Int32) (s_2 : Sto) => (
    if (s_2.1 61 0) ≤ x4_2 then (
      ix 40 x1 <| lt (s_2.1 57 x1.toNatClampNeg) fun v_4 =>
      if v_4 = (-1) then (
        some s_2
      ) else (
        ix 40 x1 <| lt (s_2.1 57 x1.toNatClampNeg) fun v_6 =>
        calv (f_X7_replace 250 v_6 x2 x3 (0 : Int32) s_2) fun v_7 s_7 =>
        ix 40 x1 <| lt (sti s_7 57 x1.toNatClampNeg v_7) fun s_8 =>
        some s_8
      )
    ) else (
      ix 8 x4_2 <| lt (s_2.1 60 x4_2.toNatClampNeg) fun v_9 =>
      calv (f_X7_replace 250 v_9 x2 x3 (0 : Int32) s_2) fun v_10 s_10 =>
      ix 8 x4_2 <| lt (sti s_10 60 x4_2.toNatClampNeg v_10) fun s_11 =>
      lt (x4_2 + 1) fun x4_12 =>
      a_5 x4_12 s_11
    )
  )) LF x4_1 σ
def f_X1_handOver (x1 : Int32) (σ : Sto) : Option Sto :=
  itr (fun _ _ => none) (fun (a_2 : Int32 → Sto → Option Sto) (x2_1 : Int32) (s_1 : Sto) => (
    if (s_1.1 61 0) ≤ x2_1 then (
      ix 40 x1 <| lt (s_1.1 57 x1.toNatClampNeg) fun v_3 =>
      if v_3 = (-1) then (
        some s_1
      ) else (
        ix 40 x1 <| lt (s_1.1 57 x1.toNatClampNeg) fun v_5 =>
        calp (f_X7_hasEffects v_5 s_1) fun v_6 =>
        if v_6 = 0 then (
          some s_1
        ) else (
          ix 40 x1 <| lt (s_1.1 57 x1.toNatClampNeg) fun v_8 =>
          calv (f_X1_putAside v_8 s_1) fun v_9 s_9 =>
          ix 40 x1 <| lt (sti s_9 57 x1.toNatClampNeg v_9) fun s_10 =>
          some s_10
        )
      )
    ) else (
      calv (f_X7_make (84 : Int32) x2_1 (0 : Int32) s_1) fun v_11 s_11 =>
      ix 8 x2_1 <| lt (s_11.1 60 x2_1.toNatClampNeg) fun v_12 =>
      jn (fun (s_13 : Sto) => (
        lt (x2_1 + 1) fun x2_14 =>
        a_2 x2_14 s_13
      )) fun k_64 =>
      if v_12 = v_11 then (
        k_64 s_11
      ) else (
        calp (f_X1_isNeededAbove x1 x2_1 s_11) fun v_16 =>
        jn (fun (s_17 : Sto) => (
          ix 8 x2_1 <| lt (s_17.1 60 x2_1.toNatClampNeg) fun v_18 =>
          cals (f_X1_add (1 : Int32) x2_1 v_18 s_17) fun s_19 =>
          k_64 s_19
        )) fun k_52 =>
        if v_16 = 0 then (
          k_52 s_11
        ) else (
          calv (f_X1_putAside v_11 s_11) fun v_21 s_21 =>
          cals (f_X1_replaceAbove x1 x2_1 v_21 s_21) fun s_22 =>
          k_52 s_22
        )
      )
    )
  )) LF (0 : Int32) σ
def f_X1_pop  (σ : Sto) : Option (Int32 × Sto) :=
  jn (fun (s_1 : Sto) => (
    ix 8 (s_1.1 61 0) <| lt (s_1.1 60 (s_1.1 61 0).toNatClampNeg) fun v_2 =>
    some (v_2, s_1)
  )) fun k_17 =>
  if (σ.1 61 0) ≤ 0 then (
    k_17 σ
  ) else (
    lt (sti σ 61 0 ((σ.1 61 0) - 1)) fun s_4 =>
    k_17 s_4
  )
def f_X1_push (x1 : Int32) (σ : Sto) : Option Sto :=
  if 8 ≤ (σ.1 61 0) then (
    some σ
  ) else (
    ix 8 (σ.1 61 0) <| lt (sti σ 60 (σ.1 61 0).toNatClampNeg x1) fun s_2 =>
    lt (sti s_2 61 0 ((s_2.1 61 0) + 1)) fun s_3 =>
    some s_3
  )
def f_X1_spill (x1 : Int32) (σ : Sto) : Option Sto :=
  itr (fun _ _ => none) (fun (a_2 : Int32 → Sto → Option Sto) (x2_1 : Int32) (s_1 : Sto) => (
    if (s_1.1 61 0) ≤ x2_1 then (
      some s_1
    ) else (
      ix 8 x2_1 <| lt (s_1.1 60 x2_1.toNatClampNeg) fun v_3 =>
      ix 512 v_3 <| lt (s_1.1 51 v_3.toNatClampNeg) fun v_4 =>
      jn (fun (s_5 : Sto) => (
        lt (x2_1 + 1) fun x2_6 =>
        a_2 x2_6 s_5
      )) fun k_45 =>
      if (v_4 &&& x1) = 0 then (
        k_45 s_1
      ) else (
        ix 8 x2_1 <| lt (s_1.1 60 x2_1.toNatClampNeg) fun v_8 =>
        calv (f_X1_putAside v_8 s_1) fun v_9 s_9 =>
        ix 8 x2_1 <| lt (sti s_9 60 x2_1.toNatClampNeg v_9) fun s_10 =>
        k_45 s_10
      )
    )
  )) LF (0 : Int32) σ
def f_X1_twice  (σ : Sto) : Option Sto :=
  calv (f_X1_pop σ) fun v_1 s_1 =>
  ix 512 v_1 <| lt (s_1.1 47 v_1.toNatClampNeg) fun v_2 =>
  jn (fun (x1_3 : Int32) (s_3 : Sto) => (
    cals (f_X1_push x1_3 s_3) fun s_4 =>
    cals (f_X1_push x1_3 s_4) fun s_5 =>
    some s_5
  )) fun k_43 =>
  if v_2 = 107 then (
    k_43 v_1 s_1
  ) else (
    calp (f_X7_isName v_1 s_1) fun v_7 =>
    if v_7 = 0 then (
      cals (f_X1_spill (4096 : Int32) s_1) fun s_9 =>
      calv (f_X1_putAside v_1 s_9) fun v_10 s_10 =>
      k_43 v_10 s_10
    ) else (
      k_43 v_1 s_1
    )
  )
def f_X1_state (x1 : Int32) (x2 : Int32) (x3 : Int32) (σ : Sto) : Option Sto :=
  jn (fun (t0_1 : Int32) => (
    cals (f_X1_spill ((4096 : Int32) ||| t0_1) σ) fun s_2 =>
    cals (f_X1_add x1 x2 x3 s_2) fun s_3 =>
    some s_3
  )) fun k_11 =>
  if x1 = 0 then (
    k_11 ((1 : Int32) <<< (x2 &&& 31))
  ) else (
    k_11 (0 : Int32)
  )
def f_X1_drop (x1 : Int32) (σ : Sto) : Option Sto :=
  calp (f_X7_hasEffects x1 σ) fun v_1 =>
  if v_1 = 0 then (
    some σ
  ) else (
    cals (f_X1_spill (4096 : Int32) σ) fun s_3 =>
    cals (f_X1_add (4 : Int32) ((-1) : Int32) x1 s_3) fun s_4 =>
    some s_4
  )
def f_X1_exchange  (σ : Sto) : Option Sto :=
  calv (f_X1_pop σ) fun v_1 s_1 =>
  jn (fun (s_2 : Sto) => (
    calv (f_X1_pop s_2) fun v_3 s_3 =>
    cals (f_X1_push v_1 s_3) fun s_4 =>
    cals (f_X1_push v_3 s_4) fun s_5 =>
    some s_5
  )) fun k_51 =>
  if (s_1.1 61 0) ≤ 0 then (
    k_51 s_1
  ) else (
    calp (f_X7_hasEffects v_1 s_1) fun v_7 =>
    if v_7 = 0 then (
      k_51 s_1
    ) else (
      ix 8 ((s_1.1 61 0) - 1) <| lt (s_1.1 60 ((s_1.1 61 0) - 1).toNatClampNeg) fun v_9 =>
      calp (f_X7_hasEffects v_9 s_1) fun v_10 =>
      if v_10 = 0 then (
        k_51 s_1
      ) else (
        cals (f_X1_spill (4096 : Int32) s_1) fun s_12 =>
        k_51 s_12
      )
    )
  )
def f_X3_chooses (x1 : Int32) (σ : Sto) : Option Int32 :=
  ix 40 x1 <| lt (σ.1 6 x1.toNatClampNeg) fun v_1 =>
  jn (
    some (0 : Int32)
  ) fun k_27 =>
  if v_1 = 122 then (
    ix 40 x1 <| lt (σ.1 7 x1.toNatClampNeg) fun v_4 =>
    if v_4 = (x1 + 1) then (
      k_27
    ) else (
      some (1 : Int32)
    )
  ) else (
    k_27
  )
def f_X1_operate (x1 : Int32) (σ : Sto) : Option Sto :=
  calv (f_X1_pop σ) fun v_1 s_1 =>
  calp (f_X11_isBinary x1) fun v_2 =>
  if v_2 = 0 then (
    calv (f_X7_make x1 v_1 (0 : Int32) s_1) fun v_4 s_4 =>
    cals (f_X1_push v_4 s_4) fun s_5 =>
    some s_5
  ) else (
    calv (f_X1_pop s_1) fun v_6 s_6 =>
    calv (f_X7_make x1 v_6 v_1 s_6) fun v_7 s_7 =>
    cals (f_X1_push v_7 s_7) fun s_8 =>
    some s_8
  )
def f_X1_step (x1 : Int32) (x2 : Int32) (σ : Sto) : Option Sto :=
  ix 40 x2 <| lt (σ.1 6 x2.toNatClampNeg) fun v_1 =>
  ix 40 x2 <| lt (σ.1 7 x2.toNatClampNeg) fun v_2 =>
  if v_1.toInt = 100 then (
    cals (f_X1_twice σ) fun s_4 =>
    some s_4
  ) else (
  if v_1.toInt = 103 then (
    some σ
  ) else (
  if v_1.toInt = 105 ∨ v_1.toInt = 107 ∨ v_1.toInt = 108 then (
    calv (f_X7_make v_1 v_2 (0 : Int32) σ) fun v_5 s_5 =>
    cals (f_X1_push v_5 s_5) fun s_6 =>
    some s_6
  ) else (
  if v_1.toInt = 111 then (
    calv (f_X1_pop σ) fun v_7 s_7 =>
    cals (f_X1_state (3 : Int32) ((-1) : Int32) v_7 s_7) fun s_8 =>
    some s_8
  ) else (
  if v_1.toInt = 112 then (
    calv (f_X1_pop σ) fun v_9 s_9 =>
    cals (f_X1_drop v_9 s_9) fun s_10 =>
    some s_10
  ) else (
  if v_1.toInt = 114 then (
    cals (f_X1_state (6 : Int32) ((-1) : Int32) ((-1) : Int32) σ) fun s_11 =>
    some s_11
  ) else (
  if v_1.toInt = 115 then (
    calv (f_X1_pop σ) fun v_12 s_12 =>
    cals (f_X1_state (0 : Int32) v_2 v_12 s_12) fun s_13 =>
    some s_13
  ) else (
  if v_1.toInt = 116 then (
    calv (f_X1_pop σ) fun v_14 s_14 =>
    cals (f_X1_state (5 : Int32) ((-1) : Int32) v_14 s_14) fun s_15 =>
    some s_15
  ) else (
  if v_1.toInt = 119 then (
    cals (f_X1_exchange σ) fun s_16 =>
    some s_16
  ) else (
  if v_1.toInt = 122 then (
    calp (f_X3_chooses x2 σ) fun v_17 =>
    if v_17 = 0 then (
      calv (f_X1_pop σ) fun v_19 s_19 =>
      cals (f_X1_drop v_19 s_19) fun s_20 =>
      some s_20
    ) else (
      calv (f_X1_pop σ) fun v_21 s_21 =>
      ix 40 x1 <| lt (sti s_21 57 x1.toNatClampNeg v_21) fun s_22 =>
      some s_22
    )
  ) else (
    cals (f_X1_operate v_1 σ) fun s_23 =>
    some s_23
  )
  )
  )
  )
  )
  )
  )
  )
  )
  )
def f_X1_lift  (σ : Sto) : Option Sto :=
  lt (sti σ 52 0 (0 : Int32)) fun s_1 =>
  lt (sti s_1 58 0 (0 : Int32)) fun s_2 =>
  lt (sti s_2 46 0 (0 : Int32)) fun s_3 =>
  itr (fun _ _ => none) (fun (a_20 : Int32 → Sto → Option Sto) (x1_4 : Int32) (s_4 : Sto) => (
    if (s_4.1 20 0) ≤ x1_4 then (
      ix 41 (s_4.1 20 0) <| lt (sti s_4 56 (s_4.1 20 0).toNatClampNeg (s_4.1 52 0)) fun s_6 =>
      cals (f_X1_countUnlike s_6) fun s_7 =>
      some s_7
    ) else (
      ix 41 x1_4 <| lt (sti s_4 56 x1_4.toNatClampNeg (s_4.1 52 0)) fun s_8 =>
      ix 40 x1_4 <| lt (sti s_8 57 x1_4.toNatClampNeg (((-1) : Int32))) fun s_9 =>
      lt (sti s_9 61 0 (0 : Int32)) fun s_10 =>
      itr (fun _ _ => none) (fun (a_55 : Int32 → Sto → Option Sto) (x2_11 : Int32) (s_11 : Sto) => (
        ix 40 x1_4 <| lt (s_11.1 21 x1_4.toNatClampNeg) fun v_12 =>
        ix 40 v_12 <| lt (s_11.1 8 v_12.toNatClampNeg) fun v_13 =>
        if v_13 ≤ x2_11 then (
          ix 40 x1_4 <| lt (s_11.1 21 x1_4.toNatClampNeg) fun v_15 =>
          itr (fun _ _ => none) (fun (a_107 : Int32 → Sto → Option Sto) (x2_16 : Int32) (s_16 : Sto) => (
            ix 40 x1_4 <| lt (s_16.1 22 x1_4.toNatClampNeg) fun v_17 =>
            if v_17 < x2_16 then (
              ix 40 x1_4 <| lt (s_16.1 22 x1_4.toNatClampNeg) fun v_19 =>
              calp (f_X3_ends v_19 s_16) fun v_20 =>
              jn (fun (s_21 : Sto) => (
                lt (x1_4 + 1) fun x1_22 =>
                a_20 x1_22 s_21
              )) fun k_156 =>
              if v_20 = 0 then (
                cals (f_X1_handOver x1_4 s_16) fun s_24 =>
                k_156 s_24
              ) else (
                k_156 s_16
              )
            ) else (
              cals (f_X1_step x1_4 x2_16 s_16) fun s_25 =>
              lt (x2_16 + 1) fun x2_26 =>
              a_107 x2_26 s_25
            )
          )) LF v_15 s_11
        ) else (
          calv (f_X7_make (84 : Int32) x2_11 (0 : Int32) s_11) fun v_27 s_27 =>
          cals (f_X1_push v_27 s_27) fun s_28 =>
          lt (x2_11 + 1) fun x2_29 =>
          a_55 x2_29 s_28
        )
      )) LF (0 : Int32) s_10
    )
  )) LF (0 : Int32) s_3
def f_X10_assumeAll  (σ : Sto) : Option Sto :=
  itr (fun _ _ => none) (fun (a_2 : Int32 → Sto → Option Sto) (x1_1 : Int32) (s_1 : Sto) => (
    if 6 ≤ x1_1 then (
      itr (fun _ _ => none) (fun (a_32 : Int32 → Sto → Option Sto) (x1_3 : Int32) (s_3 : Sto) => (
        if 6 ≤ x1_3 then (
          itr (fun _ _ => none) (fun (a_53 : Int32 → Sto → Option Sto) (x1_5 : Int32) (s_5 : Sto) => (
            if 160 ≤ x1_5 then (
              itr (fun _ _ => none) (fun (a_75 : Int32 → Sto → Option Sto) (x1_7 : Int32) (s_7 : Sto) => (
                if (s_7.1 27 0) ≤ x1_7 then (
                  some s_7
                ) else (
                  ix 120 x1_7 <| lt (s_7.1 31 x1_7.toNatClampNeg) fun v_9 =>
                  jn (fun (s_10 : Sto) => (
                    lt (x1_7 + 1) fun x1_11 =>
                    a_75 x1_11 s_10
                  )) fun k_105 =>
                  if v_9 = 0 then (
                    k_105 s_7
                  ) else (
                    ix 6 (0 : Int32) <| lt (sti s_7 64 (0 : Int32).toNatClampNeg (0 : Int32)) fun s_13 =>
                    k_105 s_13
                  )
                )
              )) LF (0 : Int32) s_5
            ) else (
              ix 160 x1_5 <| lt (sti s_5 65 x1_5.toNatClampNeg (1 : Int32)) fun s_14 =>
              lt (x1_5 + 1) fun x1_15 =>
              a_53 x1_15 s_14
            )
          )) LF (0 : Int32) s_3
        ) else (
          ix 6 x1_3 <| lt (sti s_3 64 x1_3.toNatClampNeg (1 : Int32)) fun s_16 =>
          lt (x1_3 + 1) fun x1_17 =>
          a_32 x1_17 s_16
        )
      )) LF (0 : Int32) s_1
    ) else (
      jn (fun (t0_18 : Int32) => (
        bz t0_18 <|
        ix 6 x1_1 <| lt (sti s_1 63 x1_1.toNatClampNeg t0_18) fun s_19 =>
        lt (x1_1 + 1) fun x1_21 =>
        a_2 x1_21 s_19
      )) fun k_23 =>
      if x1_1 ≤ 1 then (
        k_23 (0 : Int32)
      ) else (
        k_23 (1 : Int32)
      )
    )
  )) LF (0 : Int32) σ
def f_X10_holds (x1 : Int32) (σ : Sto) : Option Int32 :=
  ix 512 x1 <| lt (σ.1 48 x1.toNatClampNeg) fun v_1 =>
  ix 512 x1 <| lt (σ.1 47 x1.toNatClampNeg) fun v_2 =>
  if v_2.toInt = 33 ∨ v_2.toInt = 60 ∨ v_2.toInt = 61 then (
    some (1 : Int32)
  ) else (
  if v_2.toInt = 84 then (
    ix 6 v_1 <| lt (σ.1 64 v_1.toNatClampNeg) fun v_4 =>
    bz v_4 <|
    some v_4
  ) else (
  if v_2.toInt = 88 then (
    jn (
      some (0 : Int32)
    ) fun k_131 =>
    if 160 ≤ v_1 then (
      k_131
    ) else (
      ix 160 v_1 <| lt (σ.1 65 v_1.toNatClampNeg) fun v_8 =>
      if v_8 = 0 then (
        k_131
      ) else (
        some (1 : Int32)
      )
    )
  ) else (
  if v_2.toInt = 107 then (
    if 1 < v_1 then (
      some (0 : Int32)
    ) else (
      some (1 : Int32)
    )
  ) else (
  if v_2.toInt = 108 then (
    ix 6 v_1 <| lt (σ.1 63 v_1.toNatClampNeg) fun v_11 =>
    bz v_11 <|
    some v_11
  ) else (
    some (0 : Int32)
  )
  )
  )
  )
  )
def f_X10_isTaken (x1 : Int32) (σ : Sto) : Option Int32 :=
  ix 320 x1 <| lt (σ.1 54 x1.toNatClampNeg) fun v_1 =>
  ix 320 x1 <| lt (σ.1 53 x1.toNatClampNeg) fun v_2 =>
  if v_2.toInt = 0 then (
    ix 6 v_1 <| lt (σ.1 63 v_1.toNatClampNeg) fun v_4 =>
    bz v_4 <|
    some v_4
  ) else (
  if v_2.toInt = 1 then (
    ix 6 v_1 <| lt (σ.1 64 v_1.toNatClampNeg) fun v_6 =>
    bz v_6 <|
    some v_6
  ) else (
    jn (
      some (0 : Int32)
    ) fun k_78 =>
    if 160 ≤ v_1 then (
      k_78
    ) else (
      ix 160 v_1 <| lt (σ.1 65 v_1.toNatClampNeg) fun v_10 =>
      if v_10 = 0 then (
        k_78
      ) else (
        some (1 : Int32)
      )
    )
  )
  )
def f_X10_deny (x1 : Int32) (σ : Sto) : Option Sto :=
  ix 320 x1 <| lt (σ.1 54 x1.toNatClampNeg) fun v_1 =>
  ix 320 x1 <| lt (σ.1 53 x1.toNatClampNeg) fun v_2 =>
  if v_2.toInt = 0 then (
    ix 6 v_1 <| lt (sti σ 63 v_1.toNatClampNeg (0 : Int32)) fun s_4 =>
    some s_4
  ) else (
  if v_2.toInt = 1 then (
    ix 6 v_1 <| lt (sti σ 64 v_1.toNatClampNeg (0 : Int32)) fun s_5 =>
    some s_5
  ) else (
    ix 160 v_1 <| lt (sti σ 65 v_1.toNatClampNeg (0 : Int32)) fun s_6 =>
    some s_6
  )
  )
def f_X10_judge  (σ : Sto) : Option Sto :=
  cals (f_X10_assumeAll σ) fun s_1 =>
  itr (fun _ _ _ => none) (fun (a_8 : Int32 → Int32 → Sto → Option Sto) (x1_2 : Int32) (x2_2 : Int32) (s_2 : Sto) => (
    if 1000000 ≤ x2_2 then (
      some s_2
    ) else (
      if x1_2 = 0 then (
        some s_2
      ) else (
        itr (fun _ _ _ => none) (fun (a_22 : Int32 → Int32 → Sto → Option Sto) (x1_5 : Int32) (x3_5 : Int32) (s_5 : Sto) => (
          if (s_5.1 52 0) ≤ x3_5 then (
            lt (x2_2 + 1) fun x2_7 =>
            a_8 x1_5 x2_7 s_5
          ) else (
            ix 320 x3_5 <| lt (s_5.1 53 x3_5.toNatClampNeg) fun v_8 =>
            jn (fun (t0_9 : Int32) => (
              jn (fun (x1_10 : Int32) (s_10 : Sto) => (
                lt (x3_5 + 1) fun x3_11 =>
                a_22 x1_10 x3_11 s_10
              )) fun k_89 =>
              if t0_9 = 0 then (
                k_89 x1_5 s_5
              ) else (
                ix 320 x3_5 <| lt (s_5.1 55 x3_5.toNatClampNeg) fun v_13 =>
                calp (f_X10_holds v_13 s_5) fun v_14 =>
                if v_14 = 0 then (
                  calp (f_X10_isTaken x3_5 s_5) fun v_16 =>
                  if v_16 = 0 then (
                    k_89 x1_5 s_5
                  ) else (
                    cals (f_X10_deny x3_5 s_5) fun s_18 =>
                    k_89 (1 : Int32) s_18
                  )
                ) else (
                  k_89 x1_5 s_5
                )
              )
            )) fun k_51 =>
            if 2 < v_8 then (
              k_51 (0 : Int32)
            ) else (
              k_51 (1 : Int32)
            )
          )
        )) LF (0 : Int32) (0 : Int32) s_2
      )
    )
  )) LF (1 : Int32) (0 : Int32) s_1
def f_X4_flowThrough (x1 : Int32) (σ : Sto) : Option Sto :=
  ix 40 x1 <| lt (sti σ 67 x1.toNatClampNeg (0 : Int32)) fun s_1 =>
  ix 41 x1 <| lt (s_1.1 28 x1.toNatClampNeg) fun v_2 =>
  itr (fun _ _ => none) (fun (a_17 : Int32 → Sto → Option Sto) (x2_3 : Int32) (s_3 : Sto) => (
    ix 41 (x1 + 1) <| lt (s_3.1 28 (x1 + 1).toNatClampNeg) fun v_4 =>
    if v_4 ≤ x2_3 then (
      ix 40 x1 <| lt (s_3.1 26 x1.toNatClampNeg) fun v_6 =>
      jn (fun (t0_7 : Int32) => (
        ix 40 x1 <| lt (s_3.1 67 x1.toNatClampNeg) fun v_8 =>
        ix 40 x1 <| lt (s_3.1 22 x1.toNatClampNeg) fun v_9 =>
        itr (fun _ _ _ => none) (fun (a_111 : Int32 → Int32 → Sto → Option Sto) (x3_10 : Int32) (x4_10 : Int32) (s_10 : Sto) => (
          ix 40 x1 <| lt (s_10.1 21 x1.toNatClampNeg) fun v_11 =>
          if x4_10 < v_11 then (
            ix 40 x1 <| lt (sti s_10 66 x1.toNatClampNeg (x3_10 ||| t0_7)) fun s_13 =>
            some s_13
          ) else (
            ix 40 x4_10 <| lt (s_10.1 7 x4_10.toNatClampNeg) fun v_14 =>
            lt ((1 : Int32) <<< (v_14 &&& 31)) fun x5_15 =>
            ix 40 x4_10 <| lt (s_10.1 6 x4_10.toNatClampNeg) fun v_16 =>
            jn (fun (x3_17 : Int32) (s_17 : Sto) => (
              lt (x4_10 + (-1)) fun x4_18 =>
              a_111 x3_17 x4_18 s_17
            )) fun k_206 =>
            if v_16 = 108 then (
              lt (x3_10 ||| x5_15) fun x3_20 =>
              k_206 x3_20 s_10
            ) else (
              ix 40 x4_10 <| lt (s_10.1 6 x4_10.toNatClampNeg) fun v_21 =>
              if v_21 = 115 then (
                jn (fun (s_23 : Sto) => (
                  lt ((x3_10 &&& (x5_15 ^^^ (-1))) ||| t0_7) fun x3_24 =>
                  k_206 x3_24 s_23
                )) fun k_197 =>
                if (x3_10 &&& x5_15) = 0 then (
                  lt (stl s_10 6 0 ((s_10.2 6 0) ||| ((1 : Int64) <<< (x4_10.toInt64 &&& 63)))) fun s_26 =>
                  k_197 s_26
                ) else (
                  k_197 s_10
                )
              ) else (
                k_206 x3_10 s_10
              )
            )
          )
        )) LF v_8 v_9 s_3
      )) fun k_92 =>
      if v_6 = (-1) then (
        k_92 (0 : Int32)
      ) else (
        ix 40 x1 <| lt (s_3.1 26 x1.toNatClampNeg) fun v_28 =>
        ix 40 v_28 <| lt (s_3.1 66 v_28.toNatClampNeg) fun v_29 =>
        k_92 v_29
      )
    ) else (
      ix 40 x1 <| lt (s_3.1 67 x1.toNatClampNeg) fun v_30 =>
      ix 120 x2_3 <| lt (s_3.1 30 x2_3.toNatClampNeg) fun v_31 =>
      ix 40 v_31 <| lt (s_3.1 66 v_31.toNatClampNeg) fun v_32 =>
      ix 40 x1 <| lt (sti s_3 67 x1.toNatClampNeg (v_30 ||| v_32)) fun s_33 =>
      lt (x2_3 + 1) fun x2_34 =>
      a_17 x2_34 s_33
    )
  )) LF v_2 s_1
def f_X4_flow  (σ : Sto) : Option Sto :=
  itr (fun _ _ => none) (fun (a_2 : Int32 → Sto → Option Sto) (x1_1 : Int32) (s_1 : Sto) => (
    if (s_1.1 20 0) ≤ x1_1 then (
      itr (fun _ _ _ => none) (fun (a_30 : Int32 → Int32 → Sto → Option Sto) (x1_3 : Int32) (x2_3 : Int32) (s_3 : Sto) => (
        if 1000000 ≤ x2_3 then (
          some s_3
        ) else (
          if x1_3 = 0 then (
            some s_3
          ) else (
            lt (stl s_3 6 0 (0 : Int64)) fun s_6 =>
            lt ((s_6.1 20 0) - 1) fun x3_7 =>
            itr (fun _ _ _ => none) (fun (a_57 : Int32 → Int32 → Sto → Option Sto) (x1_8 : Int32) (x3_8 : Int32) (s_8 : Sto) => (
              if x3_8 < 0 then (
                lt (x2_3 + 1) fun x2_10 =>
                a_30 x1_8 x2_10 s_8
              ) else (
                ix 40 x3_8 <| lt (s_8.1 66 x3_8.toNatClampNeg) fun v_11 =>
                cals (f_X4_flowThrough x3_8 s_8) fun s_12 =>
                jn (fun (t0_13 : Int32) => (
                  lt (x3_8 + (-1)) fun x3_14 =>
                  a_57 t0_13 x3_14 s_12
                )) fun k_94 =>
                jn (
                  k_94 (1 : Int32)
                ) fun k_89 =>
                if x1_8 = 0 then (
                  ix 40 x3_8 <| lt (s_12.1 66 x3_8.toNatClampNeg) fun v_17 =>
                  if v_17 = v_11 then (
                    k_94 (0 : Int32)
                  ) else (
                    k_89
                  )
                ) else (
                  k_89
                )
              )
            )) LF (0 : Int32) x3_7 s_6
          )
        )
      )) LF (1 : Int32) (0 : Int32) s_1
    ) else (
      ix 40 x1_1 <| lt (sti s_1 66 x1_1.toNatClampNeg (0 : Int32)) fun s_19 =>
      lt (x1_1 + 1) fun x1_20 =>
      a_2 x1_20 s_19
    )
  )) LF (0 : Int32) σ
def f_X2_add (x1 : Int32) (x2 : Int32) (x3 : Int32) (σ : Sto) : Option Sto :=
  if 800 ≤ (σ.1 68 0) then (
    some σ
  ) else (
    ix 800 (σ.1 68 0) <| lt (sti σ 69 (σ.1 68 0).toNatClampNeg x1) fun s_2 =>
    ix 800 (s_2.1 68 0) <| lt (sti s_2 70 (s_2.1 68 0).toNatClampNeg x2) fun s_3 =>
    ix 800 (s_3.1 68 0) <| lt (sti s_3 71 (s_3.1 68 0).toNatClampNeg (s_3.1 77 0)) fun s_4 =>
    ix 800 (s_4.1 68 0) <| lt (sti s_4 72 (s_4.1 68 0).toNatClampNeg x3) fun s_5 =>
    lt (sti s_5 68 0 ((s_5.1 68 0) + 1)) fun s_6 =>
    some s_6
  )
def f_X2_openLine (x1 : Int32) (x2 : Int32) (σ : Sto) : Option Sto :=
  cals (f_X2_add x1 x2 ((-1) : Int32) σ) fun s_1 =>
  lt (sti s_1 77 0 ((s_1.1 77 0) + 1)) fun s_2 =>
  some s_2
def f_X2_tellStatements (x1 : Int32) (σ : Sto) : Option Sto :=
  cals (f_X2_add (11 : Int32) x1 ((-1) : Int32) σ) fun s_1 =>
  ix 40 x1 <| lt (s_1.1 26 x1.toNatClampNeg) fun v_2 =>
  jn (fun (t0_3 : Int32) => (
    jn (fun (s_4 : Sto) => (
      ix 41 x1 <| lt (s_4.1 56 x1.toNatClampNeg) fun v_5 =>
      itr (fun _ _ => none) (fun (a_48 : Int32 → Sto → Option Sto) (x3_6 : Int32) (s_6 : Sto) => (
        ix 41 (x1 + 1) <| lt (s_6.1 56 (x1 + 1).toNatClampNeg) fun v_7 =>
        if v_7 ≤ x3_6 then (
          if t0_3 = 0 then (
            some s_6
          ) else (
            lt (sti s_6 77 0 ((s_6.1 77 0) - 1)) fun s_10 =>
            ix 40 x1 <| lt (s_10.1 26 x1.toNatClampNeg) fun v_11 =>
            cals (f_X2_add (10 : Int32) v_11 ((-1) : Int32) s_10) fun s_12 =>
            some s_12
          )
        ) else (
          cals (f_X2_add (0 : Int32) x1 x3_6 s_6) fun s_13 =>
          lt (x3_6 + 1) fun x3_14 =>
          a_48 x3_14 s_13
        )
      )) LF v_5 s_4
    )) fun k_38 =>
    if t0_3 = 0 then (
      k_38 s_1
    ) else (
      cals (f_X2_openLine (9 : Int32) x1 s_1) fun s_16 =>
      k_38 s_16
    )
  )) fun k_26 =>
  if v_2 = (-1) then (
    k_26 (0 : Int32)
  ) else (
    k_26 (1 : Int32)
  )
def f_X2_closeLine (x1 : Int32) (σ : Sto) : Option Sto :=
  lt (sti σ 77 0 ((σ.1 77 0) - 1)) fun s_1 =>
  cals (f_X2_add (5 : Int32) x1 ((-1) : Int32) s_1) fun s_2 =>
  some s_2
def f_X2_isMergeUnder (x1 : Int32) (x2 : Int32) (σ : Sto) : Option Int32 :=
  calp (f_X11_isIn (σ.2 4 0) x1) fun v_1 =>
  jn (
    some (0 : Int32)
  ) fun k_31 =>
  if v_1 = 0 then (
    k_31
  ) else (
    ix 40 x1 <| lt (σ.1 41 x1.toNatClampNeg) fun v_4 =>
    if v_4 = x2 then (
      some (1 : Int32)
    ) else (
      k_31
    )
  )
def b_X2_goOn (q_X2_goOn : Int32 → Int32 → Int32 → Sto → Option Sto) (q_X2_tellEnd : Int32 → Int32 → Sto → Option Sto) (q_X2_tell : Int32 → Int32 → Sto → Option Sto) (x1 : Int32) (x2 : Int32) (x3 : Int32) (σ : Sto) : Option Sto :=
  if x2 = (-1) then (
    some σ
  ) else (
    calp (f_X0_edgeTo x1 x2 σ) fun v_2 =>
    ix 120 v_2 <| lt (σ.1 37 v_2.toNatClampNeg) fun v_3 =>
    if v_3 = 0 then (
      ix 120 v_2 <| lt (σ.1 38 v_2.toNatClampNeg) fun v_5 =>
      if v_5 = 0 then (
        calp (f_X11_isIn (σ.2 4 0) x2) fun v_7 =>
        if v_7 = 0 then (
          cals (q_X2_tell x2 (x3 + 1) σ) fun s_9 =>
          some s_9
        ) else (
          cals (f_X2_add (6 : Int32) x2 ((-1) : Int32) σ) fun s_10 =>
          some s_10
        )
      ) else (
        cals (f_X2_add (7 : Int32) x2 ((-1) : Int32) σ) fun s_11 =>
        some s_11
      )
    ) else (
      cals (f_X2_add (8 : Int32) x2 ((-1) : Int32) σ) fun s_12 =>
      some s_12
    )
  )
def b_X2_tellEnd (q_X2_goOn : Int32 → Int32 → Int32 → Sto → Option Sto) (q_X2_tellEnd : Int32 → Int32 → Sto → Option Sto) (q_X2_tell : Int32 → Int32 → Sto → Option Sto) (x1 : Int32) (x2 : Int32) (σ : Sto) : Option Sto :=
  ix 40 x1 <| lt (σ.1 25 x1.toNatClampNeg) fun v_1 =>
  if v_1 = (-1) then (
    ix 40 x1 <| lt (σ.1 24 x1.toNatClampNeg) fun v_3 =>
    cals (q_X2_goOn x1 v_3 x2 σ) fun s_4 =>
    some s_4
  ) else (
    cals (f_X2_openLine (3 : Int32) x1 σ) fun s_5 =>
    ix 40 x1 <| lt (s_5.1 24 x1.toNatClampNeg) fun v_6 =>
    cals (q_X2_goOn x1 v_6 x2 s_5) fun s_7 =>
    lt (sti s_7 77 0 ((s_7.1 77 0) - 1)) fun s_8 =>
    cals (f_X2_openLine (4 : Int32) x1 s_8) fun s_9 =>
    cals (q_X2_goOn x1 v_1 x2 s_9) fun s_10 =>
    cals (f_X2_closeLine x1 s_10) fun s_11 =>
    some s_11
  )
def b_X2_tell (q_X2_goOn : Int32 → Int32 → Int32 → Sto → Option Sto) (q_X2_tellEnd : Int32 → Int32 → Sto → Option Sto) (q_X2_tell : Int32 → Int32 → Sto → Option Sto) (x1 : Int32) (x2 : Int32) (σ : Sto) : Option Sto :=
  if x2 ≤ 60 then (
    calp (f_X11_isIn (σ.2 2 0) x1) fun v_2 =>
    jn (fun (s_3 : Sto) => (
      lt ((s_3.1 20 0) - 1) fun x4_4 =>
      itr (fun _ _ => none) (fun (a_40 : Int32 → Sto → Option Sto) (x4_5 : Int32) (s_5 : Sto) => (
        if x4_5 < 0 then (
          cals (f_X2_tellStatements x1 s_5) fun s_7 =>
          cals (q_X2_tellEnd x1 x2 s_7) fun s_8 =>
          itr (fun _ _ => none) (fun (a_98 : Int32 → Sto → Option Sto) (x4_9 : Int32) (s_9 : Sto) => (
            if (s_9.1 20 0) ≤ x4_9 then (
              if v_2 = 0 then (
                some s_9
              ) else (
                cals (f_X2_closeLine x1 s_9) fun s_12 =>
                some s_12
              )
            ) else (
              ix 40 x4_9 <| lt (s_9.1 39 x4_9.toNatClampNeg) fun v_13 =>
              calp (f_X2_isMergeUnder v_13 x1 s_9) fun v_14 =>
              jn (fun (s_15 : Sto) => (
                lt (x4_9 + 1) fun x4_16 =>
                a_98 x4_16 s_15
              )) fun k_159 =>
              if v_14 = 0 then (
                k_159 s_9
              ) else (
                ix 40 x4_9 <| lt (s_9.1 39 x4_9.toNatClampNeg) fun v_18 =>
                cals (f_X2_closeLine v_18 s_9) fun s_19 =>
                ix 40 x4_9 <| lt (s_19.1 39 x4_9.toNatClampNeg) fun v_20 =>
                cals (q_X2_tell v_20 (x2 + 1) s_19) fun s_21 =>
                k_159 s_21
              )
            )
          )) LF (0 : Int32) s_8
        ) else (
          ix 40 x4_5 <| lt (s_5.1 39 x4_5.toNatClampNeg) fun v_22 =>
          calp (f_X2_isMergeUnder v_22 x1 s_5) fun v_23 =>
          jn (fun (s_24 : Sto) => (
            lt (x4_5 + (-1)) fun x4_25 =>
            a_40 x4_25 s_24
          )) fun k_78 =>
          if v_23 = 0 then (
            k_78 s_5
          ) else (
            ix 40 x4_5 <| lt (s_5.1 39 x4_5.toNatClampNeg) fun v_27 =>
            cals (f_X2_openLine (2 : Int32) v_27 s_5) fun s_28 =>
            k_78 s_28
          )
        )
      )) LF x4_4 s_3
    )) fun k_29 =>
    if v_2 = 0 then (
      k_29 σ
    ) else (
      cals (f_X2_openLine (1 : Int32) x1 σ) fun s_30 =>
      k_29 s_30
    )
  ) else (
    some σ
  )
def g_X2_goOn : Nat → (Int32 → Int32 → Int32 → Sto → Option Sto) × (Int32 → Int32 → Sto → Option Sto) × (Int32 → Int32 → Sto → Option Sto)
  | 0 => (fun _ _ _ _ => none, fun _ _ _ => none, fun _ _ _ => none)
  | d + 1 => (b_X2_goOn (g_X2_goOn d).1 (g_X2_goOn d).2.1 (g_X2_goOn d).2.2, b_X2_tellEnd (g_X2_goOn d).1 (g_X2_goOn d).2.1 (g_X2_goOn d).2.2, b_X2_tell (g_X2_goOn d).1 (g_X2_goOn d).2.1 (g_X2_goOn d).2.2)
def f_X2_goOn (d : Nat) : Int32 → Int32 → Int32 → Sto → Option Sto := (g_X2_goOn d).1
def f_X2_tellEnd (d : Nat) : Int32 → Int32 → Sto → Option Sto := (g_X2_goOn d).2.1
def f_X2_tell (d : Nat) : Int32 → Int32 → Sto → Option Sto := (g_X2_goOn d).2.2
def f_X2_mark (x1 : Int32) (σ : Sto) : Option Sto :=
  ix 800 x1 <| lt (σ.1 69 x1.toNatClampNeg) fun v_1 =>
  if v_1 = 11 then (
    ix 800 x1 <| lt (σ.1 70 x1.toNatClampNeg) fun v_3 =>
    ix 40 v_3 <| lt (sti σ 73 v_3.toNatClampNeg x1) fun s_4 =>
    some s_4
  ) else (
    ix 800 x1 <| lt (σ.1 69 x1.toNatClampNeg) fun v_5 =>
    if v_5 = 1 then (
      ix 800 x1 <| lt (σ.1 70 x1.toNatClampNeg) fun v_7 =>
      ix 40 v_7 <| lt (sti σ 74 v_7.toNatClampNeg x1) fun s_8 =>
      some s_8
    ) else (
      ix 800 x1 <| lt (σ.1 69 x1.toNatClampNeg) fun v_9 =>
      if v_9 = 5 then (
        ix 800 x1 <| lt (σ.1 72 x1.toNatClampNeg) fun v_11 =>
        if v_11 = 2 then (
          ix 800 x1 <| lt (σ.1 70 x1.toNatClampNeg) fun v_13 =>
          ix 40 v_13 <| lt (sti σ 75 v_13.toNatClampNeg x1) fun s_14 =>
          some s_14
        ) else (
          some σ
        )
      ) else (
        some σ
      )
    )
  )
def f_X2_match  (σ : Sto) : Option Sto :=
  itr (fun _ _ _ => none) (fun (a_4 : Int32 → Int32 → Sto → Option Sto) (x1_1 : Int32) (x2_1 : Int32) (s_1 : Sto) => (
    if (s_1.1 68 0) ≤ x2_1 then (
      some s_1
    ) else (
      ix 800 x2_1 <| lt (s_1.1 69 x2_1.toNatClampNeg) fun v_3 =>
      jn (fun (x1_4 : Int32) (s_4 : Sto) => (
        cals (f_X2_mark x2_1 s_4) fun s_5 =>
        lt (x2_1 + 1) fun x2_6 =>
        a_4 x1_4 x2_6 s_5
      )) fun k_163 =>
      if v_3.toInt = 1 ∨ v_3.toInt = 2 ∨ v_3.toInt = 3 ∨ v_3.toInt = 9 then (
        if 120 ≤ x1_1 then (
          k_163 x1_1 s_1
        ) else (
          ix 120 x1_1 <| lt (sti s_1 76 x1_1.toNatClampNeg x2_1) fun s_9 =>
          lt (x1_1 + 1) fun x1_10 =>
          k_163 x1_10 s_9
        )
      ) else (
      if v_3.toInt = 4 then (
        if x1_1 ≤ 0 then (
          k_163 x1_1 s_1
        ) else (
          ix 120 (x1_1 - 1) <| lt (s_1.1 76 (x1_1 - 1).toNatClampNeg) fun v_12 =>
          ix 800 v_12 <| lt (sti s_1 72 v_12.toNatClampNeg x2_1) fun s_13 =>
          ix 120 (x1_1 - 1) <| lt (sti s_13 76 (x1_1 - 1).toNatClampNeg x2_1) fun s_14 =>
          k_163 x1_1 s_14
        )
      ) else (
      if v_3.toInt = 5 ∨ v_3.toInt = 10 then (
        if x1_1 ≤ 0 then (
          k_163 x1_1 s_1
        ) else (
          lt (x1_1 + (-1)) fun x1_16 =>
          ix 120 x1_16 <| lt (s_1.1 76 x1_16.toNatClampNeg) fun v_17 =>
          ix 800 v_17 <| lt (sti s_1 72 v_17.toNatClampNeg x2_1) fun s_18 =>
          ix 120 x1_16 <| lt (s_18.1 76 x1_16.toNatClampNeg) fun v_19 =>
          ix 800 v_19 <| lt (s_18.1 69 v_19.toNatClampNeg) fun v_20 =>
          ix 800 x2_1 <| lt (sti s_18 72 x2_1.toNatClampNeg v_20) fun s_21 =>
          k_163 x1_16 s_21
        )
      ) else (
        k_163 x1_1 s_1
      )
      )
      )
    )
  )) LF (0 : Int32) (0 : Int32) σ
def f_X2_endsAnyway (x1 : Int32) (σ : Sto) : Option Int32 :=
  lt (x1 + 1) fun x2_1 =>
  itr (fun _ _ => none) (fun (a_6 : Int32 → Int32 → Option Int32) (x2_2 : Int32) (x3_2 : Int32) => (
    if (σ.1 68 0) ≤ x3_2 then (
      some (0 : Int32)
    ) else (
      if (σ.1 68 0) ≤ x2_2 then (
        some (0 : Int32)
      ) else (
        ix 800 x2_2 <| lt (σ.1 69 x2_2.toNatClampNeg) fun v_5 =>
        jn (fun (x2_6 : Int32) => (
          lt (x3_2 + 1) fun x3_7 =>
          a_6 x2_6 x3_7
        )) fun k_86 =>
        if v_5 = 4 then (
          ix 800 x2_2 <| lt (σ.1 72 x2_2.toNatClampNeg) fun v_9 =>
          lt (v_9 + 1) fun x2_10 =>
          k_86 x2_10
        ) else (
          ix 800 x2_2 <| lt (σ.1 69 x2_2.toNatClampNeg) fun v_11 =>
          if v_11 = 5 then (
            ix 800 x2_2 <| lt (σ.1 72 x2_2.toNatClampNeg) fun v_13 =>
            jn (
              lt (x2_2 + 1) fun x2_15 =>
              k_86 x2_15
            ) fun k_83 =>
            if v_13 = 2 then (
              ix 800 x2_2 <| lt (σ.1 70 x2_2.toNatClampNeg) fun v_17 =>
              ix 800 x1 <| lt (σ.1 70 x1.toNatClampNeg) fun v_18 =>
              if v_17 = v_18 then (
                some (1 : Int32)
              ) else (
                k_83
              )
            ) else (
              k_83
            )
          ) else (
            some (0 : Int32)
          )
        )
      )
    )
  )) LF x2_1 (0 : Int32)
def f_X2_leaveOut  (σ : Sto) : Option Sto :=
  itr (fun _ _ => none) (fun (a_2 : Int32 → Sto → Option Sto) (x1_1 : Int32) (s_1 : Sto) => (
    if (s_1.1 68 0) ≤ x1_1 then (
      itr (fun _ _ => none) (fun (a_45 : Int32 → Sto → Option Sto) (x1_3 : Int32) (s_3 : Sto) => (
        if (s_3.1 68 0) ≤ (x1_3 + 1) then (
          some s_3
        ) else (
          ix 800 x1_3 <| lt (s_3.1 69 x1_3.toNatClampNeg) fun v_5 =>
          jn (fun (s_6 : Sto) => (
            lt (x1_3 + 1) fun x1_7 =>
            a_45 x1_7 s_6
          )) fun k_98 =>
          if v_5 = 4 then (
            ix 800 (x1_3 + 1) <| lt (s_3.1 69 (x1_3 + 1).toNatClampNeg) fun v_9 =>
            if v_9 = 12 then (
              ix 800 x1_3 <| lt (s_3.1 72 x1_3.toNatClampNeg) fun v_11 =>
              if v_11 = (x1_3 + 2) then (
                ix 800 x1_3 <| lt (sti s_3 69 x1_3.toNatClampNeg (12 : Int32)) fun s_13 =>
                k_98 s_13
              ) else (
                k_98 s_3
              )
            ) else (
              k_98 s_3
            )
          ) else (
            k_98 s_3
          )
        )
      )) LF (0 : Int32) s_1
    ) else (
      ix 800 x1_1 <| lt (s_1.1 69 x1_1.toNatClampNeg) fun v_14 =>
      jn (fun (s_15 : Sto) => (
        lt (x1_1 + 1) fun x1_16 =>
        a_2 x1_16 s_15
      )) fun k_37 =>
      if v_14 = 6 then (
        calp (f_X2_endsAnyway x1_1 s_1) fun v_18 =>
        if v_18 = 0 then (
          k_37 s_1
        ) else (
          ix 800 x1_1 <| lt (sti s_1 69 x1_1.toNatClampNeg (12 : Int32)) fun s_20 =>
          k_37 s_20
        )
      ) else (
        k_37 s_1
      )
    )
  )) LF (0 : Int32) σ
def f_X2_close  (σ : Sto) : Option Sto :=
  itr (fun _ _ _ => none) (fun (a_4 : Int32 → Int32 → Sto → Option Sto) (x1_1 : Int32) (x2_1 : Int32) (s_1 : Sto) => (
    if (s_1.1 68 0) ≤ x2_1 then (
      lt (sti s_1 68 0 x1_1) fun s_3 =>
      some s_3
    ) else (
      ix 800 x2_1 <| lt (s_1.1 69 x2_1.toNatClampNeg) fun v_4 =>
      jn (fun (x1_5 : Int32) (s_5 : Sto) => (
        lt (x2_1 + 1) fun x2_6 =>
        a_4 x1_5 x2_6 s_5
      )) fun k_74 =>
      if v_4 = 12 then (
        k_74 x1_1 s_1
      ) else (
        ix 800 x2_1 <| lt (s_1.1 69 x2_1.toNatClampNeg) fun v_8 =>
        ix 800 x1_1 <| lt (sti s_1 69 x1_1.toNatClampNeg v_8) fun s_9 =>
        ix 800 x2_1 <| lt (s_9.1 70 x2_1.toNatClampNeg) fun v_10 =>
        ix 800 x1_1 <| lt (sti s_9 70 x1_1.toNatClampNeg v_10) fun s_11 =>
        ix 800 x2_1 <| lt (s_11.1 71 x2_1.toNatClampNeg) fun v_12 =>
        ix 800 x1_1 <| lt (sti s_11 71 x1_1.toNatClampNeg v_12) fun s_13 =>
        ix 800 x2_1 <| lt (s_13.1 72 x2_1.toNatClampNeg) fun v_14 =>
        ix 800 x1_1 <| lt (sti s_13 72 x1_1.toNatClampNeg v_14) fun s_15 =>
        lt (x1_1 + 1) fun x1_16 =>
        k_74 x1_16 s_15
      )
    )
  )) LF (0 : Int32) (0 : Int32) σ
def f_X2_tellAll  (σ : Sto) : Option Sto :=
  lt (sti σ 68 0 (0 : Int32)) fun s_1 =>
  lt (sti s_1 77 0 (0 : Int32)) fun s_2 =>
  cals (f_X2_tell 250 (0 : Int32) (0 : Int32) s_2) fun s_3 =>
  cals (f_X2_match s_3) fun s_4 =>
  cals (f_X2_leaveOut s_4) fun s_5 =>
  cals (f_X2_close s_5) fun s_6 =>
  cals (f_X2_match s_6) fun s_7 =>
  some s_7
def f_X11_adoptDraft  (σ : Sto) : Option Sto :=
  cals (f_X3_copy_draft σ) fun s_1 =>
  cals (f_X0_cut s_1) fun s_2 =>
  cals (f_X8_form s_2) fun s_3 =>
  cals (f_X1_lift s_3) fun s_4 =>
  cals (f_X10_judge s_4) fun s_5 =>
  cals (f_X4_flow s_5) fun s_6 =>
  lt (sti s_6 68 0 (0 : Int32)) fun s_7 =>
  jn (fun (s_8 : Sto) => (
    lt (sti s_8 0 0 (1 : Int32)) fun s_9 =>
    some s_9
  )) fun k_71 =>
  if (s_7.1 34 0) = 0 then (
    cals (f_X2_tellAll s_7) fun s_11 =>
    k_71 s_11
  ) else (
    k_71 s_7
  )
def f_X11_code  (σ : Sto) : Option (Int32 × Sto) :=
  calv (f_X9_read_draft σ) fun v_1 s_1 =>
  if v_1 = 0 then (
    some (((-1) : Int32), s_1)
  ) else (
    calv (f_X3_judge_draft s_1) fun v_3 s_3 =>
    if v_3 = 0 then (
      lt (sti s_3 2 0 (0 : Int32)) fun s_5 =>
      cals (f_X11_adoptDraft s_5) fun s_6 =>
      some ((s_6.1 20 0), s_6)
    ) else (
      some (v_3, s_3)
    )
  )
def f_X11_isInstruction (x1 : Int32) (x2 : Int32) : Option Int32 :=
  if x1.toInt = 103 ∨ x1.toInt = 122 then (
    jn (
      some (0 : Int32)
    ) fun k_99 =>
    if x2 < 0 then (
      k_99
    ) else (
      if 40 ≤ x2 then (
        k_99
      ) else (
        some (1 : Int32)
      )
    )
  ) else (
  if x1.toInt = 107 then (
    jn (
      some (0 : Int32)
    ) fun k_67 =>
    if x2 < 0 then (
      k_67
    ) else (
      if 999 < x2 then (
        k_67
      ) else (
        some (1 : Int32)
      )
    )
  ) else (
  if x1.toInt = 108 ∨ x1.toInt = 115 then (
    jn (
      some (0 : Int32)
    ) fun k_83 =>
    if x2 < 0 then (
      k_83
    ) else (
      if 6 ≤ x2 then (
        k_83
      ) else (
        some (1 : Int32)
      )
    )
  ) else (
    calp (f_X11_isBare x1) fun v_11 =>
    jn (
      some (0 : Int32)
    ) fun k_116 =>
    if v_11 = 0 then (
      k_116
    ) else (
      if x2 = 0 then (
        some (1 : Int32)
      ) else (
        k_116
      )
    )
  )
  )
  )
def f_X3_copy_draft_listing  (σ : Sto) : Option Sto :=
  lt (sti σ 12 0 (σ.1 4 0)) fun s_1 =>
  lt (sti s_1 13 0 (s_1.1 5 0)) fun s_2 =>
  lt (stc s_2 14 (va_cpy (s_2.1 6) (s_2.1 14) (0 : Int32).toNatClampNeg (0 : Int32).toNatClampNeg (40 : Int32).toNatClampNeg)) fun s_3 =>
  lt (stc s_3 15 (va_cpy (s_3.1 7) (s_3.1 15) (0 : Int32).toNatClampNeg (0 : Int32).toNatClampNeg (40 : Int32).toNatClampNeg)) fun s_4 =>
  lt (stc s_4 16 (va_cpy (s_4.1 8) (s_4.1 16) (0 : Int32).toNatClampNeg (0 : Int32).toNatClampNeg (40 : Int32).toNatClampNeg)) fun s_5 =>
  lt (stc s_5 17 (va_cpy (s_5.1 9) (s_5.1 17) (0 : Int32).toNatClampNeg (0 : Int32).toNatClampNeg (3 : Int32).toNatClampNeg)) fun s_6 =>
  lt (stc s_6 18 (va_cpy (s_6.1 10) (s_6.1 18) (0 : Int32).toNatClampNeg (0 : Int32).toNatClampNeg (3 : Int32).toNatClampNeg)) fun s_7 =>
  lt (stc s_7 19 (va_cpy (s_7.1 11) (s_7.1 19) (0 : Int32).toNatClampNeg (0 : Int32).toNatClampNeg (3 : Int32).toNatClampNeg)) fun s_8 =>
  some s_8
def f_X11_put (x1 : Int32) (x2 : Int32) (x3 : Int32) (σ : Sto) : Option (Int32 × Sto) :=
  if (σ.1 0 0) = 0 then (
    some (((-1) : Int32), σ)
  ) else (
    if x1 < 0 then (
      some (((-1) : Int32), σ)
    ) else (
      if (σ.1 4 0) ≤ x1 then (
        some (((-1) : Int32), σ)
      ) else (
        calp (f_X11_isInstruction x2 x3) fun v_4 =>
        if v_4 = 0 then (
          some (((-1) : Int32), σ)
        ) else (
          cals (f_X3_copy_draft_listing σ) fun s_6 =>
          ix 40 x1 <| lt (sti s_6 14 x1.toNatClampNeg x2) fun s_7 =>
          ix 40 x1 <| lt (sti s_7 15 x1.toNatClampNeg x3) fun s_8 =>
          calv (f_X3_judge_draft s_8) fun v_9 s_9 =>
          if v_9 = 0 then (
            cals (f_X11_adoptDraft s_9) fun s_11 =>
            some ((s_11.1 20 0), s_11)
          ) else (
            some (v_9, s_9)
          )
        )
      )
    )
  )
def f_X11_count (x1 : Int32) (σ : Sto) : Option Int32 :=
  if x1 = 12 then (
    some (σ.1 2 0)
  ) else (
    if (σ.1 0 0) = 0 then (
      some ((-1000000) : Int32)
    ) else (
      if x1.toInt = 0 then (
        some (σ.1 4 0)
      ) else (
      if x1.toInt = 1 then (
        some (σ.1 20 0)
      ) else (
      if x1.toInt = 2 then (
        some (σ.1 27 0)
      ) else (
      if x1.toInt = 3 then (
        some (σ.1 5 0)
      ) else (
      if x1.toInt = 4 then (
        calp (f_J13_bitCount_95d88 (σ.2 2 0)) fun v_4 =>
        some v_4
      ) else (
      if x1.toInt = 5 then (
        calp (f_J13_bitCount_95d88 (σ.2 4 0)) fun v_5 =>
        some v_5
      ) else (
      if x1.toInt = 6 then (
        if (σ.1 34 0) = 0 then (
          some (σ.1 36 0)
        ) else (
          some ((-1) : Int32)
        )
      ) else (
      if x1.toInt = 7 then (
        if (σ.1 35 0) = 0 then (
          some (0 : Int32)
        ) else (
          some (1 : Int32)
        )
      ) else (
      if x1.toInt = 8 then (
        if (σ.1 34 0) = 0 then (
          some (σ.1 68 0)
        ) else (
          some ((-1) : Int32)
        )
      ) else (
      if x1.toInt = 9 then (
        some (σ.1 52 0)
      ) else (
      if x1.toInt = 10 then (
        some (σ.1 58 0)
      ) else (
      if x1.toInt = 11 then (
        some (σ.1 32 0)
      ) else (
      if x1.toInt = 13 then (
        some (σ.1 59 0)
      ) else (
      if x1.toInt = 14 then (
        calp (f_J13_bitCount_95d88 (σ.2 6 0)) fun v_9 =>
        some v_9
      ) else (
        some ((-1000000) : Int32)
      )
      )
      )
      )
      )
      )
      )
      )
      )
      )
      )
      )
      )
      )
    )
  )
def f_X11_edge (x1 : Int32) (x2 : Int32) (σ : Sto) : Option Int32 :=
  if (σ.1 0 0) = 0 then (
    some ((-1000000) : Int32)
  ) else (
    if x1 < 0 then (
      some ((-1000000) : Int32)
    ) else (
      if x1 < (σ.1 27 0) then (
        if x2.toInt = 0 then (
          ix 120 x1 <| lt (σ.1 29 x1.toNatClampNeg) fun v_5 =>
          some v_5
        ) else (
        if x2.toInt = 1 then (
          ix 120 x1 <| lt (σ.1 30 x1.toNatClampNeg) fun v_6 =>
          some v_6
        ) else (
        if x2.toInt = 2 then (
          ix 120 x1 <| lt (σ.1 38 x1.toNatClampNeg) fun v_7 =>
          if v_7 = 0 then (
            some (0 : Int32)
          ) else (
            some (1 : Int32)
          )
        ) else (
        if x2.toInt = 3 then (
          ix 120 x1 <| lt (σ.1 37 x1.toNatClampNeg) fun v_9 =>
          if v_9 = 0 then (
            some (0 : Int32)
          ) else (
            some (1 : Int32)
          )
        ) else (
        if x2.toInt = 4 then (
          ix 120 x1 <| lt (σ.1 31 x1.toNatClampNeg) fun v_11 =>
          if v_11 = 0 then (
            some (0 : Int32)
          ) else (
            some (1 : Int32)
          )
        ) else (
          some ((-1000000) : Int32)
        )
        )
        )
        )
        )
      ) else (
        some ((-1000000) : Int32)
      )
    )
  )
def f_X11_dominates (x1 : Int32) (x2 : Int32) (σ : Sto) : Option Int32 :=
  calp (f_X11_isBlock x1 σ) fun v_1 =>
  jn (
    some (0 : Int32)
  ) fun k_36 =>
  if v_1 = 0 then (
    k_36
  ) else (
    calp (f_X11_isBlock x2 σ) fun v_4 =>
    if v_4 = 0 then (
      k_36
    ) else (
      ix 40 x2 <| lt (σ.2 1 x2.toNatClampNeg) fun v_6 =>
      calp (f_X11_isIn v_6 x1) fun v_7 =>
      if v_7 = 0 then (
        k_36
      ) else (
        some (1 : Int32)
      )
    )
  )
def f_X11_loop (x1 : Int32) (σ : Sto) : Option Int64 :=
  calp (f_X11_isBlock x1 σ) fun v_1 =>
  jn (
    some ((-1) : Int64)
  ) fun k_34 =>
  if v_1 = 0 then (
    k_34
  ) else (
    calp (f_X11_isIn (σ.2 2 0) x1) fun v_4 =>
    if v_4 = 0 then (
      k_34
    ) else (
      ix 40 x1 <| lt (σ.2 3 x1.toNatClampNeg) fun v_6 =>
      some v_6
    )
  )
def f_X6_writeSign (x1 : Int32) (σ : Sto) : Option Sto :=
  jn (fun (s_1 : Sto) => (
    lt (sti s_1 94 0 ((s_1.1 94 0) + 1)) fun s_2 =>
    some s_2
  )) fun k_20 =>
  if 400 ≤ (σ.1 94 0) then (
    k_20 σ
  ) else (
    ix 400 (σ.1 94 0) <| lt (sti σ 93 (σ.1 94 0).toNatClampNeg x1) fun s_4 =>
    k_20 s_4
  )
def f_X6_writeNumber (x1 : Int32) (σ : Sto) : Option Sto :=
  jn (fun (s_1 : Sto) => (
    jn (fun (s_2 : Sto) => (
      cals (f_X6_writeSign ((48 : Int32) + (x1 - x1 / 10 * 10)) s_2) fun s_3 =>
      some s_3
    )) fun k_37 =>
    if x1 ≤ 9 then (
      k_37 s_1
    ) else (
      cals (f_X6_writeSign ((48 : Int32) + ((x1 / 10) - (x1 / 10) / 10 * 10)) s_1) fun s_5 =>
      k_37 s_5
    )
  )) fun k_17 =>
  if x1 ≤ 99 then (
    k_17 σ
  ) else (
    cals (f_X6_writeSign ((48 : Int32) + (x1 / 100)) σ) fun s_7 =>
    k_17 s_7
  )
def f_X6_writeName (x1 : Int32) (x2 : Int32) (σ : Sto) : Option Sto :=
  cals (f_X6_writeSign x1 σ) fun s_1 =>
  cals (f_X6_writeNumber x2 s_1) fun s_2 =>
  some s_2
def f_X6_write_s18  (σ : Sto) : Option Sto :=
  itr (fun _ _ => none) (fun (a_2 : Int32 → Sto → Option Sto) (x2_1 : Int32) (s_1 : Sto) => (
    if 2 ≤ x2_1 then (
      some s_1
    ) else (
      ix 2 x2_1 <| lt (chS 18 x2_1) fun v_3 =>
      cals (f_X6_writeSign v_3 s_1) fun s_4 =>
      lt (x2_1 + 1) fun x2_5 =>
      a_2 x2_5 s_4
    )
  )) LF (0 : Int32) σ
def f_X6_write_s19  (σ : Sto) : Option Sto :=
  itr (fun _ _ => none) (fun (a_2 : Int32 → Sto → Option Sto) (x2_1 : Int32) (s_1 : Sto) => (
    if 1 ≤ x2_1 then (
      some s_1
    ) else (
      ix 1 x2_1 <| lt (chS 19 x2_1) fun v_3 =>
      cals (f_X6_writeSign v_3 s_1) fun s_4 =>
      lt (x2_1 + 1) fun x2_5 =>
      a_2 x2_5 s_4
    )
  )) LF (0 : Int32) σ
def f_X6_write_s20  (σ : Sto) : Option Sto :=
  itr (fun _ _ => none) (fun (a_2 : Int32 → Sto → Option Sto) (x2_1 : Int32) (s_1 : Sto) => (
    if 1 ≤ x2_1 then (
      some s_1
    ) else (
      ix 1 x2_1 <| lt (chS 20 x2_1) fun v_3 =>
      cals (f_X6_writeSign v_3 s_1) fun s_4 =>
      lt (x2_1 + 1) fun x2_5 =>
      a_2 x2_5 s_4
    )
  )) LF (0 : Int32) σ
def b_X6_writeExpression (q_X6_writeExpression : Int32 → Int32 → Sto → Option Sto) (x1 : Int32) (x2 : Int32) (σ : Sto) : Option Sto :=
  if x1 = (-1) then (
    some σ
  ) else (
    if x2 ≤ 60 then (
      ix 512 x1 <| lt (σ.1 47 x1.toNatClampNeg) fun v_3 =>
      ix 512 x1 <| lt (σ.1 48 x1.toNatClampNeg) fun v_4 =>
      if v_3.toInt = 84 then (
        cals (f_X6_writeName (116 : Int32) v_4 σ) fun s_6 =>
        some s_6
      ) else (
      if v_3.toInt = 88 then (
        cals (f_X6_writeName (120 : Int32) v_4 σ) fun s_7 =>
        some s_7
      ) else (
      if v_3.toInt = 105 then (
        cals (f_X6_write_s18 σ) fun s_8 =>
        some s_8
      ) else (
      if v_3.toInt = 107 then (
        cals (f_X6_writeNumber v_4 σ) fun s_9 =>
        some s_9
      ) else (
      if v_3.toInt = 108 then (
        cals (f_X6_writeSign ((97 : Int32) + v_4) σ) fun s_10 =>
        some s_10
      ) else (
        calp (f_X11_isBinary v_3) fun v_11 =>
        if v_11 = 0 then (
          jn (fun (t0_13 : Int32) => (
            cals (f_X6_writeSign t0_13 σ) fun s_14 =>
            cals (q_X6_writeExpression v_4 (x2 + 1) s_14) fun s_15 =>
            some s_15
          )) fun k_191 =>
          if v_3 = 110 then (
            k_191 (45 : Int32)
          ) else (
            k_191 v_3
          )
        ) else (
          cals (f_X6_write_s19 σ) fun s_17 =>
          cals (q_X6_writeExpression v_4 (x2 + 1) s_17) fun s_18 =>
          cals (f_X6_writeSign v_3 s_18) fun s_19 =>
          ix 512 x1 <| lt (s_19.1 49 x1.toNatClampNeg) fun v_20 =>
          cals (q_X6_writeExpression v_20 (x2 + 1) s_19) fun s_21 =>
          cals (f_X6_write_s20 s_21) fun s_22 =>
          some s_22
        )
      )
      )
      )
      )
      )
    ) else (
      some σ
    )
  )
def g_X6_writeExpression : Nat → ((Int32 → Int32 → Sto → Option Sto))
  | 0 => fun _ _ _ => none
  | d + 1 => b_X6_writeExpression (g_X6_writeExpression d)
def f_X6_writeExpression (d : Nat) : Int32 → Int32 → Sto → Option Sto := (g_X6_writeExpression d)
def f_X6_widthOf (x1 : Int32) (σ : Sto) : Option (Int32 × Sto) :=
  lt (sti σ 94 0 (0 : Int32)) fun s_1 =>
  cals (f_X6_writeExpression 250 x1 (0 : Int32) s_1) fun s_2 =>
  some ((s_2.1 94 0), s_2)
def f_X11_statement (x1 : Int32) (x2 : Int32) (x3 : Int32) (σ : Sto) : Option (Int32 × Sto) :=
  calp (f_X11_isBlock x1 σ) fun v_1 =>
  if v_1 = 0 then (
    some (((-1000000) : Int32), σ)
  ) else (
    if x2 < 0 then (
      some (((-1000000) : Int32), σ)
    ) else (
      ix 41 (x1 + 1) <| lt (σ.1 56 (x1 + 1).toNatClampNeg) fun v_4 =>
      ix 41 x1 <| lt (σ.1 56 x1.toNatClampNeg) fun v_5 =>
      if x2 < (v_4 - v_5) then (
        ix 41 x1 <| lt (σ.1 56 x1.toNatClampNeg) fun v_7 =>
        lt (v_7 + x2) fun x4_8 =>
        ix 320 x4_8 <| lt (σ.1 55 x4_8.toNatClampNeg) fun v_9 =>
        if x3.toInt = 0 then (
          ix 320 x4_8 <| lt (σ.1 53 x4_8.toNatClampNeg) fun v_11 =>
          some (v_11, σ)
        ) else (
        if x3.toInt = 1 then (
          ix 320 x4_8 <| lt (σ.1 54 x4_8.toNatClampNeg) fun v_12 =>
          some (v_12, σ)
        ) else (
        if x3.toInt = 2 then (
          if v_9 = (-1) then (
            some ((0 : Int32), σ)
          ) else (
            calv (f_X6_widthOf v_9 σ) fun v_14 s_14 =>
            some (v_14, s_14)
          )
        ) else (
        if x3.toInt = 3 then (
          jn (
            some ((0 : Int32), σ)
          ) fun k_164 =>
          if v_9 = (-1) then (
            k_164
          ) else (
            calp (f_X7_hasEffects v_9 σ) fun v_17 =>
            if v_17 = 0 then (
              k_164
            ) else (
              some ((1 : Int32), σ)
            )
          )
        ) else (
        if x3.toInt = 4 then (
          if v_9 = (-1) then (
            some ((0 : Int32), σ)
          ) else (
            ix 512 v_9 <| lt (σ.1 50 v_9.toNatClampNeg) fun v_20 =>
            some (v_20, σ)
          )
        ) else (
          some (((-1000000) : Int32), σ)
        )
        )
        )
        )
        )
      ) else (
        some (((-1000000) : Int32), σ)
      )
    )
  )
def f_X6_signAt (x1 : Int32) (σ : Sto) : Option Int32 :=
  jn (
    some ((-1) : Int32)
  ) fun k_28 =>
  if x1 < 0 then (
    k_28
  ) else (
    if (σ.1 94 0) ≤ x1 then (
      k_28
    ) else (
      if 400 ≤ x1 then (
        k_28
      ) else (
        ix 400 x1 <| lt (σ.1 93 x1.toNatClampNeg) fun v_5 =>
        some v_5
      )
    )
  )
def f_X11_condition (x1 : Int32) (x2 : Int32) (σ : Sto) : Option (Int32 × Sto) :=
  calp (f_X11_isBlock x1 σ) fun v_1 =>
  if v_1 = 0 then (
    some (((-1) : Int32), σ)
  ) else (
    ix 40 x1 <| lt (σ.1 57 x1.toNatClampNeg) fun v_3 =>
    if v_3 = (-1) then (
      some (((-1) : Int32), σ)
    ) else (
      ix 40 x1 <| lt (σ.1 57 x1.toNatClampNeg) fun v_5 =>
      calv (f_X6_widthOf v_5 σ) fun v_6 s_6 =>
      if x2 = (-1) then (
        some (v_6, s_6)
      ) else (
        calp (f_X6_signAt x2 s_6) fun v_8 =>
        some (v_8, s_6)
      )
    )
  )
def f_X11_isLine (x1 : Int32) (σ : Sto) : Option Int32 :=
  jn (
    some (0 : Int32)
  ) fun k_36 =>
  if (σ.1 0 0) = 0 then (
    k_36
  ) else (
    if (σ.1 34 0) = 0 then (
      if x1 < 0 then (
        k_36
      ) else (
        if (σ.1 68 0) ≤ x1 then (
          k_36
        ) else (
          some (1 : Int32)
        )
      )
    ) else (
      k_36
    )
  )
def f_X11_line (x1 : Int32) (x2 : Int32) (σ : Sto) : Option Int32 :=
  calp (f_X11_isLine x1 σ) fun v_1 =>
  if v_1 = 0 then (
    some ((-1000000) : Int32)
  ) else (
    if x2.toInt = 0 then (
      ix 800 x1 <| lt (σ.1 69 x1.toNatClampNeg) fun v_4 =>
      some v_4
    ) else (
    if x2.toInt = 1 then (
      ix 800 x1 <| lt (σ.1 70 x1.toNatClampNeg) fun v_5 =>
      some v_5
    ) else (
    if x2.toInt = 2 then (
      ix 800 x1 <| lt (σ.1 71 x1.toNatClampNeg) fun v_6 =>
      some v_6
    ) else (
      some ((-1000000) : Int32)
    )
    )
    )
  )
def f_X6_write_s7  (σ : Sto) : Option Sto :=
  itr (fun _ _ => none) (fun (a_2 : Int32 → Sto → Option Sto) (x2_1 : Int32) (s_1 : Sto) => (
    if 1 ≤ x2_1 then (
      some s_1
    ) else (
      ix 1 x2_1 <| lt (chS 7 x2_1) fun v_3 =>
      cals (f_X6_writeSign v_3 s_1) fun s_4 =>
      lt (x2_1 + 1) fun x2_5 =>
      a_2 x2_5 s_4
    )
  )) LF (0 : Int32) σ
def f_X6_write_s14  (σ : Sto) : Option Sto :=
  itr (fun _ _ => none) (fun (a_2 : Int32 → Sto → Option Sto) (x2_1 : Int32) (s_1 : Sto) => (
    if 1 ≤ x2_1 then (
      some s_1
    ) else (
      ix 1 x2_1 <| lt (chS 14 x2_1) fun v_3 =>
      cals (f_X6_writeSign v_3 s_1) fun s_4 =>
      lt (x2_1 + 1) fun x2_5 =>
      a_2 x2_5 s_4
    )
  )) LF (0 : Int32) σ
def f_X6_write_s15  (σ : Sto) : Option Sto :=
  itr (fun _ _ => none) (fun (a_2 : Int32 → Sto → Option Sto) (x2_1 : Int32) (s_1 : Sto) => (
    if 4 ≤ x2_1 then (
      some s_1
    ) else (
      ix 4 x2_1 <| lt (chS 15 x2_1) fun v_3 =>
      cals (f_X6_writeSign v_3 s_1) fun s_4 =>
      lt (x2_1 + 1) fun x2_5 =>
      a_2 x2_5 s_4
    )
  )) LF (0 : Int32) σ
def f_X6_write_s16  (σ : Sto) : Option Sto :=
  itr (fun _ _ => none) (fun (a_2 : Int32 → Sto → Option Sto) (x2_1 : Int32) (s_1 : Sto) => (
    if 6 ≤ x2_1 then (
      some s_1
    ) else (
      ix 6 x2_1 <| lt (chS 16 x2_1) fun v_3 =>
      cals (f_X6_writeSign v_3 s_1) fun s_4 =>
      lt (x2_1 + 1) fun x2_5 =>
      a_2 x2_5 s_4
    )
  )) LF (0 : Int32) σ
def f_X6_write_s17  (σ : Sto) : Option Sto :=
  itr (fun _ _ => none) (fun (a_2 : Int32 → Sto → Option Sto) (x2_1 : Int32) (s_1 : Sto) => (
    if 6 ≤ x2_1 then (
      some s_1
    ) else (
      ix 6 x2_1 <| lt (chS 17 x2_1) fun v_3 =>
      cals (f_X6_writeSign v_3 s_1) fun s_4 =>
      lt (x2_1 + 1) fun x2_5 =>
      a_2 x2_5 s_4
    )
  )) LF (0 : Int32) σ
def f_X6_writeStatement (x1 : Int32) (σ : Sto) : Option Sto :=
  ix 320 x1 <| lt (σ.1 54 x1.toNatClampNeg) fun v_1 =>
  ix 320 x1 <| lt (σ.1 53 x1.toNatClampNeg) fun v_2 =>
  jn (fun (s_3 : Sto) => (
    ix 320 x1 <| lt (s_3.1 55 x1.toNatClampNeg) fun v_4 =>
    jn (fun (s_5 : Sto) => (
      cals (f_X6_write_s7 s_5) fun s_6 =>
      some s_6
    )) fun k_163 =>
    if v_4 = (-1) then (
      k_163 s_3
    ) else (
      ix 320 x1 <| lt (s_3.1 55 x1.toNatClampNeg) fun v_8 =>
      cals (f_X6_writeExpression 250 v_8 (0 : Int32) s_3) fun s_9 =>
      k_163 s_9
    )
  )) fun k_136 =>
  if v_2.toInt = 0 then (
    cals (f_X6_writeSign ((97 : Int32) + v_1) σ) fun s_11 =>
    cals (f_X6_write_s14 s_11) fun s_12 =>
    k_136 s_12
  ) else (
  if v_2.toInt = 1 then (
    cals (f_X6_writeName (116 : Int32) v_1 σ) fun s_13 =>
    cals (f_X6_write_s14 s_13) fun s_14 =>
    k_136 s_14
  ) else (
  if v_2.toInt = 2 then (
    cals (f_X6_writeName (120 : Int32) v_1 σ) fun s_15 =>
    cals (f_X6_write_s14 s_15) fun s_16 =>
    k_136 s_16
  ) else (
  if v_2.toInt = 3 then (
    cals (f_X6_write_s15 σ) fun s_17 =>
    k_136 s_17
  ) else (
  if v_2.toInt = 5 then (
    cals (f_X6_write_s16 σ) fun s_18 =>
    k_136 s_18
  ) else (
  if v_2.toInt = 6 then (
    cals (f_X6_write_s17 σ) fun s_19 =>
    k_136 s_19
  ) else (
    k_136 σ
  )
  )
  )
  )
  )
  )
def f_X6_write_s0  (σ : Sto) : Option Sto :=
  itr (fun _ _ => none) (fun (a_2 : Int32 → Sto → Option Sto) (x2_1 : Int32) (s_1 : Sto) => (
    if 6 ≤ x2_1 then (
      some s_1
    ) else (
      ix 6 x2_1 <| lt (chS 0 x2_1) fun v_3 =>
      cals (f_X6_writeSign v_3 s_1) fun s_4 =>
      lt (x2_1 + 1) fun x2_5 =>
      a_2 x2_5 s_4
    )
  )) LF (0 : Int32) σ
def f_X6_write_s1  (σ : Sto) : Option Sto :=
  itr (fun _ _ => none) (fun (a_2 : Int32 → Sto → Option Sto) (x2_1 : Int32) (s_1 : Sto) => (
    if 1 ≤ x2_1 then (
      some s_1
    ) else (
      ix 1 x2_1 <| lt (chS 1 x2_1) fun v_3 =>
      cals (f_X6_writeSign v_3 s_1) fun s_4 =>
      lt (x2_1 + 1) fun x2_5 =>
      a_2 x2_5 s_4
    )
  )) LF (0 : Int32) σ
def f_X6_writeBlock_s0_s1 (x2 : Int32) (σ : Sto) : Option Sto :=
  cals (f_X6_write_s0 σ) fun s_1 =>
  cals (f_X6_writeNumber x2 s_1) fun s_2 =>
  cals (f_X6_write_s1 s_2) fun s_3 =>
  some s_3
def f_X6_write_s2  (σ : Sto) : Option Sto :=
  itr (fun _ _ => none) (fun (a_2 : Int32 → Sto → Option Sto) (x2_1 : Int32) (s_1 : Sto) => (
    if 7 ≤ x2_1 then (
      some s_1
    ) else (
      ix 7 x2_1 <| lt (chS 2 x2_1) fun v_3 =>
      cals (f_X6_writeSign v_3 s_1) fun s_4 =>
      lt (x2_1 + 1) fun x2_5 =>
      a_2 x2_5 s_4
    )
  )) LF (0 : Int32) σ
def f_X6_writeBlock_s2_s1 (x2 : Int32) (σ : Sto) : Option Sto :=
  cals (f_X6_write_s2 σ) fun s_1 =>
  cals (f_X6_writeNumber x2 s_1) fun s_2 =>
  cals (f_X6_write_s1 s_2) fun s_3 =>
  some s_3
def f_X6_write_s3  (σ : Sto) : Option Sto :=
  itr (fun _ _ => none) (fun (a_2 : Int32 → Sto → Option Sto) (x2_1 : Int32) (s_1 : Sto) => (
    if 3 ≤ x2_1 then (
      some s_1
    ) else (
      ix 3 x2_1 <| lt (chS 3 x2_1) fun v_3 =>
      cals (f_X6_writeSign v_3 s_1) fun s_4 =>
      lt (x2_1 + 1) fun x2_5 =>
      a_2 x2_5 s_4
    )
  )) LF (0 : Int32) σ
def f_X6_write_s4  (σ : Sto) : Option Sto :=
  itr (fun _ _ => none) (fun (a_2 : Int32 → Sto → Option Sto) (x2_1 : Int32) (s_1 : Sto) => (
    if 5 ≤ x2_1 then (
      some s_1
    ) else (
      ix 5 x2_1 <| lt (chS 4 x2_1) fun v_3 =>
      cals (f_X6_writeSign v_3 s_1) fun s_4 =>
      lt (x2_1 + 1) fun x2_5 =>
      a_2 x2_5 s_4
    )
  )) LF (0 : Int32) σ
def f_X6_write_s5  (σ : Sto) : Option Sto :=
  itr (fun _ _ => none) (fun (a_2 : Int32 → Sto → Option Sto) (x2_1 : Int32) (s_1 : Sto) => (
    if 1 ≤ x2_1 then (
      some s_1
    ) else (
      ix 1 x2_1 <| lt (chS 5 x2_1) fun v_3 =>
      cals (f_X6_writeSign v_3 s_1) fun s_4 =>
      lt (x2_1 + 1) fun x2_5 =>
      a_2 x2_5 s_4
    )
  )) LF (0 : Int32) σ
def f_X6_write_s6  (σ : Sto) : Option Sto :=
  itr (fun _ _ => none) (fun (a_2 : Int32 → Sto → Option Sto) (x2_1 : Int32) (s_1 : Sto) => (
    if 7 ≤ x2_1 then (
      some s_1
    ) else (
      ix 7 x2_1 <| lt (chS 6 x2_1) fun v_3 =>
      cals (f_X6_writeSign v_3 s_1) fun s_4 =>
      lt (x2_1 + 1) fun x2_5 =>
      a_2 x2_5 s_4
    )
  )) LF (0 : Int32) σ
def f_X6_writeBlock_s6_s7 (x2 : Int32) (σ : Sto) : Option Sto :=
  cals (f_X6_write_s6 σ) fun s_1 =>
  cals (f_X6_writeNumber x2 s_1) fun s_2 =>
  cals (f_X6_write_s7 s_2) fun s_3 =>
  some s_3
def f_X6_write_s8  (σ : Sto) : Option Sto :=
  itr (fun _ _ => none) (fun (a_2 : Int32 → Sto → Option Sto) (x2_1 : Int32) (s_1 : Sto) => (
    if 10 ≤ x2_1 then (
      some s_1
    ) else (
      ix 10 x2_1 <| lt (chS 8 x2_1) fun v_3 =>
      cals (f_X6_writeSign v_3 s_1) fun s_4 =>
      lt (x2_1 + 1) fun x2_5 =>
      a_2 x2_5 s_4
    )
  )) LF (0 : Int32) σ
def f_X6_writeBlock_s8_s7 (x2 : Int32) (σ : Sto) : Option Sto :=
  cals (f_X6_write_s8 σ) fun s_1 =>
  cals (f_X6_writeNumber x2 s_1) fun s_2 =>
  cals (f_X6_write_s7 s_2) fun s_3 =>
  some s_3
def f_X6_write_s9  (σ : Sto) : Option Sto :=
  itr (fun _ _ => none) (fun (a_2 : Int32 → Sto → Option Sto) (x2_1 : Int32) (s_1 : Sto) => (
    if 6 ≤ x2_1 then (
      some s_1
    ) else (
      ix 6 x2_1 <| lt (chS 9 x2_1) fun v_3 =>
      cals (f_X6_writeSign v_3 s_1) fun s_4 =>
      lt (x2_1 + 1) fun x2_5 =>
      a_2 x2_5 s_4
    )
  )) LF (0 : Int32) σ
def f_X6_writeBlock_s9_s7 (x2 : Int32) (σ : Sto) : Option Sto :=
  cals (f_X6_write_s9 σ) fun s_1 =>
  cals (f_X6_writeNumber x2 s_1) fun s_2 =>
  cals (f_X6_write_s7 s_2) fun s_3 =>
  some s_3
def f_X6_write_s10  (σ : Sto) : Option Sto :=
  itr (fun _ _ => none) (fun (a_2 : Int32 → Sto → Option Sto) (x2_1 : Int32) (s_1 : Sto) => (
    if 4 ≤ x2_1 then (
      some s_1
    ) else (
      ix 4 x2_1 <| lt (chS 10 x2_1) fun v_3 =>
      cals (f_X6_writeSign v_3 s_1) fun s_4 =>
      lt (x2_1 + 1) fun x2_5 =>
      a_2 x2_5 s_4
    )
  )) LF (0 : Int32) σ
def f_X6_write_s11  (σ : Sto) : Option Sto :=
  itr (fun _ _ => none) (fun (a_2 : Int32 → Sto → Option Sto) (x2_1 : Int32) (s_1 : Sto) => (
    if 8 ≤ x2_1 then (
      some s_1
    ) else (
      ix 8 x2_1 <| lt (chS 11 x2_1) fun v_3 =>
      cals (f_X6_writeSign v_3 s_1) fun s_4 =>
      lt (x2_1 + 1) fun x2_5 =>
      a_2 x2_5 s_4
    )
  )) LF (0 : Int32) σ
def f_X6_writeBlock_s11_s7 (x2 : Int32) (σ : Sto) : Option Sto :=
  cals (f_X6_write_s11 σ) fun s_1 =>
  cals (f_X6_writeNumber x2 s_1) fun s_2 =>
  cals (f_X6_write_s7 s_2) fun s_3 =>
  some s_3
def f_X6_write_s12  (σ : Sto) : Option Sto :=
  itr (fun _ _ => none) (fun (a_2 : Int32 → Sto → Option Sto) (x2_1 : Int32) (s_1 : Sto) => (
    if 1 ≤ x2_1 then (
      some s_1
    ) else (
      ix 1 x2_1 <| lt (chS 12 x2_1) fun v_3 =>
      cals (f_X6_writeSign v_3 s_1) fun s_4 =>
      lt (x2_1 + 1) fun x2_5 =>
      a_2 x2_5 s_4
    )
  )) LF (0 : Int32) σ
def f_X6_write_s13  (σ : Sto) : Option Sto :=
  itr (fun _ _ => none) (fun (a_2 : Int32 → Sto → Option Sto) (x2_1 : Int32) (s_1 : Sto) => (
    if 1 ≤ x2_1 then (
      some s_1
    ) else (
      ix 1 x2_1 <| lt (chS 13 x2_1) fun v_3 =>
      cals (f_X6_writeSign v_3 s_1) fun s_4 =>
      lt (x2_1 + 1) fun x2_5 =>
      a_2 x2_5 s_4
    )
  )) LF (0 : Int32) σ
def f_X6_writeBlock_s12_s13 (x2 : Int32) (σ : Sto) : Option Sto :=
  cals (f_X6_write_s12 σ) fun s_1 =>
  cals (f_X6_writeNumber x2 s_1) fun s_2 =>
  cals (f_X6_write_s13 s_2) fun s_3 =>
  some s_3
def f_X6_widthOfLine (x1 : Int32) (σ : Sto) : Option (Int32 × Sto) :=
  lt (sti σ 94 0 (0 : Int32)) fun s_1 =>
  ix 800 x1 <| lt (s_1.1 70 x1.toNatClampNeg) fun v_2 =>
  ix 800 x1 <| lt (s_1.1 69 x1.toNatClampNeg) fun v_3 =>
  jn (fun (s_4 : Sto) => (
    some ((s_4.1 94 0), s_4)
  )) fun k_237 =>
  if v_3.toInt = 0 then (
    ix 800 x1 <| lt (s_1.1 72 x1.toNatClampNeg) fun v_6 =>
    cals (f_X6_writeStatement v_6 s_1) fun s_7 =>
    k_237 s_7
  ) else (
  if v_3.toInt = 1 then (
    cals (f_X6_writeBlock_s0_s1 v_2 s_1) fun s_8 =>
    k_237 s_8
  ) else (
  if v_3.toInt = 2 then (
    cals (f_X6_writeBlock_s2_s1 v_2 s_1) fun s_9 =>
    k_237 s_9
  ) else (
  if v_3.toInt = 3 then (
    cals (f_X6_write_s3 s_1) fun s_10 =>
    ix 40 v_2 <| lt (s_10.1 57 v_2.toNatClampNeg) fun v_11 =>
    cals (f_X6_writeExpression 250 v_11 (0 : Int32) s_10) fun s_12 =>
    cals (f_X6_write_s1 s_12) fun s_13 =>
    k_237 s_13
  ) else (
  if v_3.toInt = 4 then (
    cals (f_X6_write_s4 s_1) fun s_14 =>
    k_237 s_14
  ) else (
  if v_3.toInt = 5 then (
    cals (f_X6_write_s5 s_1) fun s_15 =>
    k_237 s_15
  ) else (
  if v_3.toInt = 6 then (
    cals (f_X6_writeBlock_s6_s7 v_2 s_1) fun s_16 =>
    k_237 s_16
  ) else (
  if v_3.toInt = 7 then (
    cals (f_X6_writeBlock_s8_s7 v_2 s_1) fun s_17 =>
    k_237 s_17
  ) else (
  if v_3.toInt = 8 then (
    cals (f_X6_writeBlock_s9_s7 v_2 s_1) fun s_18 =>
    k_237 s_18
  ) else (
  if v_3.toInt = 9 then (
    cals (f_X6_write_s10 s_1) fun s_19 =>
    k_237 s_19
  ) else (
  if v_3.toInt = 10 then (
    cals (f_X6_writeBlock_s11_s7 v_2 s_1) fun s_20 =>
    k_237 s_20
  ) else (
    cals (f_X6_writeBlock_s12_s13 v_2 s_1) fun s_21 =>
    k_237 s_21
  )
  )
  )
  )
  )
  )
  )
  )
  )
  )
  )
def f_X11_spell (x1 : Int32) (x2 : Int32) (σ : Sto) : Option (Int32 × Sto) :=
  calp (f_X11_isLine x1 σ) fun v_1 =>
  if v_1 = 0 then (
    some (((-1) : Int32), σ)
  ) else (
    calv (f_X6_widthOfLine x1 σ) fun v_3 s_3 =>
    if x2 = (-1) then (
      some (v_3, s_3)
    ) else (
      calp (f_X6_signAt x2 s_3) fun v_5 =>
      some (v_5, s_3)
    )
  )
def f_X11_oneIf (x1 : Int32) : Option Int32 :=
  if x1 = 0 then (
    some (0 : Int32)
  ) else (
    some (1 : Int32)
  )
def f_X11_type (x1 : Int32) (x2 : Int32) (σ : Sto) : Option Int32 :=
  if (σ.1 0 0) = 0 then (
    some ((-1) : Int32)
  ) else (
    if 0 ≤ x2 then (
      if x1.toInt = 0 then (
        if 6 ≤ x2 then (
          some ((-1) : Int32)
        ) else (
          ix 6 x2 <| lt (σ.1 63 x2.toNatClampNeg) fun v_5 =>
          calp (f_X11_oneIf v_5) fun v_6 =>
          some v_6
        )
      ) else (
      if x1.toInt = 1 then (
        if (σ.1 32 0) ≤ x2 then (
          some ((-1) : Int32)
        ) else (
          ix 6 x2 <| lt (σ.1 64 x2.toNatClampNeg) fun v_8 =>
          calp (f_X11_oneIf v_8) fun v_9 =>
          some v_9
        )
      ) else (
      if x1.toInt = 2 then (
        if (σ.1 58 0) ≤ x2 then (
          some ((-1) : Int32)
        ) else (
          ix 160 x2 <| lt (σ.1 65 x2.toNatClampNeg) fun v_11 =>
          calp (f_X11_oneIf v_11) fun v_12 =>
          some v_12
        )
      ) else (
        some ((-1) : Int32)
      )
      )
      )
    ) else (
      some ((-1) : Int32)
    )
  )
def f_X11_canRun (x1 : Int32) (x2 : Int32) (σ : Sto) : Option Int32 :=
  if (σ.1 0 0) = 0 then (
    some (0 : Int32)
  ) else (
    if x2 < 1 then (
      some (0 : Int32)
    ) else (
      if x2 ≤ 200 then (
        jn (
          some (1 : Int32)
        ) fun k_40 =>
        if x1 = 0 then (
          k_40
        ) else (
          jn (
            some (0 : Int32)
          ) fun k_44 =>
          if x1 = 1 then (
            if (σ.1 34 0) = 0 then (
              k_40
            ) else (
              k_44
            )
          ) else (
            k_44
          )
        )
      ) else (
        some (0 : Int32)
      )
    )
  )
def f_X5_begin (x1 : Int32) (x2 : Int32) (x3 : Int32) (x4 : Int32) (x5 : Int32) (σ : Sto) : Option Sto :=
  itr (fun _ _ => none) (fun (a_3 : Int32 → Sto → Option Sto) (x6_1 : Int32) (s_1 : Sto) => (
    if 6 ≤ x6_1 then (
      ix 6 (0 : Int32) <| lt (sti s_1 78 (0 : Int32).toNatClampNeg x1) fun s_3 =>
      ix 6 (1 : Int32) <| lt (sti s_3 78 (1 : Int32).toNatClampNeg x2) fun s_4 =>
      lt (sti s_4 82 0 x3) fun s_5 =>
      lt (sti s_5 83 0 x4) fun s_6 =>
      lt (sti s_6 91 0 x5) fun s_7 =>
      lt (sti s_7 81 0 (0 : Int32)) fun s_8 =>
      lt (sti s_8 84 0 (0 : Int32)) fun s_9 =>
      lt (sti s_9 85 0 (0 : Int32)) fun s_10 =>
      lt (sti s_10 86 0 (0 : Int32)) fun s_11 =>
      lt (sti s_11 87 0 (0 : Int32)) fun s_12 =>
      lt (sti s_12 88 0 (0 : Int32)) fun s_13 =>
      lt (sti s_13 89 0 (0 : Int32)) fun s_14 =>
      lt (sti s_14 90 0 (0 : Int32)) fun s_15 =>
      lt (sti s_15 92 0 (0 : Int32)) fun s_16 =>
      some s_16
    ) else (
      ix 6 x6_1 <| lt (sti s_1 78 x6_1.toNatClampNeg (0 : Int32)) fun s_17 =>
      lt (x6_1 + 1) fun x6_18 =>
      a_3 x6_18 s_17
    )
  )) LF (0 : Int32) σ
def f_X5_pop  (σ : Sto) : Option (Int32 × Sto) :=
  jn (fun (s_1 : Sto) => (
    ix 8 (s_1.1 81 0) <| lt (s_1.1 79 (s_1.1 81 0).toNatClampNeg) fun v_2 =>
    some (v_2, s_1)
  )) fun k_17 =>
  if (σ.1 81 0) ≤ 0 then (
    k_17 σ
  ) else (
    lt (sti σ 81 0 ((σ.1 81 0) - 1)) fun s_4 =>
    k_17 s_4
  )
def f_X5_push (x1 : Int32) (σ : Sto) : Option Sto :=
  if 8 ≤ (σ.1 81 0) then (
    some σ
  ) else (
    ix 8 (σ.1 81 0) <| lt (sti σ 79 (σ.1 81 0).toNatClampNeg x1) fun s_2 =>
    lt (sti s_2 81 0 ((s_2.1 81 0) + 1)) fun s_3 =>
    some s_3
  )
def f_X5_shuffle (x1 : Int32) (σ : Sto) : Option Sto :=
  calv (f_X5_pop σ) fun v_1 s_1 =>
  jn (fun (t0_2 : Int32) (s_2 : Sto) => (
    cals (f_X5_push v_1 s_2) fun s_3 =>
    cals (f_X5_push t0_2 s_3) fun s_4 =>
    some s_4
  )) fun k_19 =>
  if x1 = 119 then (
    calv (f_X5_pop s_1) fun v_6 s_6 =>
    k_19 v_6 s_6
  ) else (
    k_19 v_1 s_1
  )
def f_X5_draw  (σ : Sto) : Option (Int32 × Sto) :=
  lt (sti σ 82 0 (((σ.1 82 0) * 1103515245) + 12345)) fun s_1 =>
  lt (sti s_1 88 0 ((s_1.1 88 0) + 1)) fun s_2 =>
  some ((((((s_2.1 82 0).toUInt32 >>> ((16 : Int32).toUInt32 &&& Int32.toUInt32 31)).toInt32) &&& 32767) - ((((s_2.1 82 0).toUInt32 >>> ((16 : Int32).toUInt32 &&& Int32.toUInt32 31)).toInt32) &&& 32767) / 5 * 5), s_2)
def f_X5_tellOut (x1 : Int32) (σ : Sto) : Option Sto :=
  jn (fun (s_1 : Sto) => (
    lt (sti s_1 89 0 ((s_1.1 89 0) + 1)) fun s_2 =>
    lt (sti s_2 90 0 (((31 : Int32) * (s_2.1 90 0)) + x1)) fun s_3 =>
    some s_3
  )) fun k_16 =>
  if (σ.1 89 0) = (σ.1 91 0) then (
    lt (sti σ 92 0 x1) fun s_5 =>
    k_16 s_5
  ) else (
    k_16 σ
  )
def f_X5_throwOut (x1 : Int32) (σ : Sto) : Option Sto :=
  lt (sti σ 86 0 (1 : Int32)) fun s_1 =>
  lt (sti s_1 85 0 x1) fun s_2 =>
  some s_2
def f_X5_throwFrom (x1 : Int32) (x2 : Int32) (σ : Sto) : Option (Int32 × Sto) :=
  calp (f_X3_handlerOf x1 σ) fun v_1 =>
  if v_1 = (-1) then (
    cals (f_X5_throwOut x2 σ) fun s_3 =>
    some (((-1) : Int32), s_3)
  ) else (
    lt (sti σ 84 0 (0 : Int32)) fun s_4 =>
    lt (sti s_4 81 0 (0 : Int32)) fun s_5 =>
    cals (f_X5_push x2 s_5) fun s_6 =>
    ix 3 v_1 <| lt (s_6.1 11 v_1.toNatClampNeg) fun v_7 =>
    some (v_7, s_6)
  )
def f_X11_outcome (x1 : Int32) (x2 : Int32) (x3 : Int32) : Option Int32 :=
  if x1.toInt = 33 then (
    if x2 = 0 then (
      some (1 : Int32)
    ) else (
      some (0 : Int32)
    )
  ) else (
  if x1.toInt = 37 then (
    if x3 = 0 then (
      some (0 : Int32)
    ) else (
      nz x3 <|
      some (x2 - x2 / x3 * x3)
    )
  ) else (
  if x1.toInt = 42 then (
    some (x2 * x3)
  ) else (
  if x1.toInt = 43 then (
    some (x2 + x3)
  ) else (
  if x1.toInt = 45 then (
    some (x2 - x3)
  ) else (
  if x1.toInt = 47 then (
    if x3 = 0 then (
      some (0 : Int32)
    ) else (
      nz x3 <|
      some (x2 / x3)
    )
  ) else (
  if x1.toInt = 60 then (
    if x3 ≤ x2 then (
      some (0 : Int32)
    ) else (
      some (1 : Int32)
    )
  ) else (
  if x1.toInt = 61 then (
    if x2 = x3 then (
      some (1 : Int32)
    ) else (
      some (0 : Int32)
    )
  ) else (
    some (-x2)
  )
  )
  )
  )
  )
  )
  )
  )
def f_X11_dividesByZero (x1 : Int32) (x2 : Int32) : Option Int32 :=
  jn (
    some (0 : Int32)
  ) fun k_20 =>
  jn (
    if x2 = 0 then (
      some (1 : Int32)
    ) else (
      k_20
    )
  ) fun k_12 =>
  if x1 = 47 then (
    k_12
  ) else (
    if x1 = 37 then (
      k_12
    ) else (
      k_20
    )
  )
def f_X5_operate (x1 : Int32) (σ : Sto) : Option Sto :=
  calv (f_X5_pop σ) fun v_1 s_1 =>
  calp (f_X11_isBinary x1) fun v_2 =>
  if v_2 = 0 then (
    calp (f_X11_outcome x1 v_1 (0 : Int32)) fun v_4 =>
    cals (f_X5_push v_4 s_1) fun s_5 =>
    some s_5
  ) else (
    calv (f_X5_pop s_1) fun v_6 s_6 =>
    calp (f_X11_dividesByZero x1 v_1) fun v_7 =>
    bz v_7 <|
    lt (sti s_6 84 0 v_7) fun s_8 =>
    calp (f_X11_outcome x1 v_6 v_1) fun v_10 =>
    cals (f_X5_push v_10 s_8) fun s_11 =>
    some s_11
  )
def f_X5_obey (x1 : Int32) (σ : Sto) : Option (Int32 × Sto) :=
  ix 40 x1 <| lt (σ.1 6 x1.toNatClampNeg) fun v_1 =>
  ix 40 x1 <| lt (σ.1 7 x1.toNatClampNeg) fun v_2 =>
  jn (fun (s_3 : Sto) => (
    if (s_3.1 4 0) ≤ (x1 + 1) then (
      some (((-1) : Int32), s_3)
    ) else (
      some ((x1 + 1), s_3)
    )
  )) fun k_243 =>
  if v_1.toInt = 100 ∨ v_1.toInt = 119 then (
    cals (f_X5_shuffle v_1 σ) fun s_6 =>
    k_243 s_6
  ) else (
  if v_1.toInt = 103 then (
    some (v_2, σ)
  ) else (
  if v_1.toInt = 105 then (
    calv (f_X5_draw σ) fun v_7 s_7 =>
    cals (f_X5_push v_7 s_7) fun s_8 =>
    k_243 s_8
  ) else (
  if v_1.toInt = 107 then (
    cals (f_X5_push v_2 σ) fun s_9 =>
    k_243 s_9
  ) else (
  if v_1.toInt = 108 then (
    ix 6 v_2 <| lt (σ.1 78 v_2.toNatClampNeg) fun v_10 =>
    cals (f_X5_push v_10 σ) fun s_11 =>
    k_243 s_11
  ) else (
  if v_1.toInt = 111 then (
    calv (f_X5_pop σ) fun v_12 s_12 =>
    cals (f_X5_tellOut v_12 s_12) fun s_13 =>
    k_243 s_13
  ) else (
  if v_1.toInt = 112 then (
    calv (f_X5_pop σ) fun v_14 s_14 =>
    k_243 s_14
  ) else (
  if v_1.toInt = 114 then (
    some (((-1) : Int32), σ)
  ) else (
  if v_1.toInt = 115 then (
    calv (f_X5_pop σ) fun v_15 s_15 =>
    ix 6 v_2 <| lt (sti s_15 78 v_2.toNatClampNeg v_15) fun s_16 =>
    k_243 s_16
  ) else (
  if v_1.toInt = 116 then (
    calv (f_X5_pop σ) fun v_17 s_17 =>
    calv (f_X5_throwFrom x1 v_17 s_17) fun v_18 s_18 =>
    some (v_18, s_18)
  ) else (
  if v_1.toInt = 122 then (
    calv (f_X5_pop σ) fun v_19 s_19 =>
    if v_19 = 0 then (
      some (v_2, s_19)
    ) else (
      k_243 s_19
    )
  ) else (
    cals (f_X5_operate v_1 σ) fun s_21 =>
    if (s_21.1 84 0) = 0 then (
      k_243 s_21
    ) else (
      calv (f_X5_throwFrom x1 (99 : Int32) s_21) fun v_23 s_23 =>
      some (v_23, s_23)
    )
  )
  )
  )
  )
  )
  )
  )
  )
  )
  )
  )
def f_X5_enter  (σ : Sto) : Option (Int32 × Sto) :=
  if (σ.1 87 0) = (σ.1 83 0) then (
    lt (sti σ 86 0 (2 : Int32)) fun s_2 =>
    some ((0 : Int32), s_2)
  ) else (
    lt (sti σ 87 0 ((σ.1 87 0) + 1)) fun s_3 =>
    some ((1 : Int32), s_3)
  )
def f_X5_goThroughCode  (σ : Sto) : Option Sto :=
  itr (fun _ _ _ => none) (fun (a_4 : Int32 → Int32 → Sto → Option Sto) (x1_1 : Int32) (x2_1 : Int32) (s_1 : Sto) => (
    if 1000000 ≤ x2_1 then (
      some s_1
    ) else (
      if x1_1 = (-1) then (
        some s_1
      ) else (
        ix 40 x1_1 <| lt (s_1.1 23 x1_1.toNatClampNeg) fun v_4 =>
        jn (fun (t0_5 : Int32) => (
          jn (fun (s_6 : Sto) => (
            calv (f_X5_obey x1_1 s_6) fun v_7 s_7 =>
            lt (x2_1 + 1) fun x2_8 =>
            a_4 v_7 x2_8 s_7
          )) fun k_63 =>
          if t0_5 = 0 then (
            k_63 s_1
          ) else (
            calv (f_X5_enter s_1) fun v_10 s_10 =>
            if v_10 = 0 then (
              some s_10
            ) else (
              k_63 s_10
            )
          )
        )) fun k_48 =>
        jn (
          k_48 (0 : Int32)
        ) fun k_47 =>
        if v_4 = (-1) then (
          k_47
        ) else (
          ix 40 v_4 <| lt (s_1.1 21 v_4.toNatClampNeg) fun v_14 =>
          if v_14 = x1_1 then (
            k_48 (1 : Int32)
          ) else (
            k_47
          )
        )
      )
    )
  )) LF (0 : Int32) (0 : Int32) σ
def b_X5_value (q_X5_value : Int32 → Int32 → Sto → Option (Int32 × Sto)) (x1 : Int32) (x2 : Int32) (σ : Sto) : Option (Int32 × Sto) :=
  if x1 = (-1) then (
    some ((0 : Int32), σ)
  ) else (
    if 60 < x2 then (
      some ((0 : Int32), σ)
    ) else (
      if (σ.1 84 0) = 0 then (
        ix 512 x1 <| lt (σ.1 47 x1.toNatClampNeg) fun v_4 =>
        ix 512 x1 <| lt (σ.1 48 x1.toNatClampNeg) fun v_5 =>
        if v_4.toInt = 84 then (
          ix 8 v_5 <| lt (σ.1 79 v_5.toNatClampNeg) fun v_7 =>
          some (v_7, σ)
        ) else (
        if v_4.toInt = 88 then (
          ix 161 v_5 <| lt (σ.1 80 v_5.toNatClampNeg) fun v_8 =>
          some (v_8, σ)
        ) else (
        if v_4.toInt = 105 then (
          calv (f_X5_draw σ) fun v_9 s_9 =>
          some (v_9, s_9)
        ) else (
        if v_4.toInt = 107 then (
          some (v_5, σ)
        ) else (
        if v_4.toInt = 108 then (
          ix 6 v_5 <| lt (σ.1 78 v_5.toNatClampNeg) fun v_10 =>
          some (v_10, σ)
        ) else (
          calv (q_X5_value v_5 (x2 + 1) σ) fun v_11 s_11 =>
          calp (f_X11_isBinary v_4) fun v_12 =>
          jn (fun (t0_13 : Int32) (s_13 : Sto) => (
            jn (fun (t0_14 : Int32) => (
              bz t0_14 <|
              lt (sti s_13 84 0 t0_14) fun s_15 =>
              if (s_15.1 84 0) = 0 then (
                calp (f_X11_outcome v_4 v_11 t0_13) fun v_18 =>
                some (v_18, s_15)
              ) else (
                some ((0 : Int32), s_15)
              )
            )) fun k_186 =>
            jn (
              k_186 (1 : Int32)
            ) fun k_181 =>
            if (s_13.1 84 0) = 0 then (
              calp (f_X11_dividesByZero v_4 t0_13) fun v_21 =>
              if v_21 = 0 then (
                k_186 (0 : Int32)
              ) else (
                k_181
              )
            ) else (
              k_181
            )
          )) fun k_162 =>
          if v_12 = 0 then (
            k_162 (0 : Int32) s_11
          ) else (
            ix 512 x1 <| lt (s_11.1 49 x1.toNatClampNeg) fun v_24 =>
            calv (q_X5_value v_24 (x2 + 1) s_11) fun v_25 s_25 =>
            k_162 v_25 s_25
          )
        )
        )
        )
        )
        )
      ) else (
        some ((0 : Int32), σ)
      )
    )
  )
def g_X5_value : Nat → ((Int32 → Int32 → Sto → Option (Int32 × Sto)))
  | 0 => fun _ _ _ => none
  | d + 1 => b_X5_value (g_X5_value d)
def f_X5_value (d : Nat) : Int32 → Int32 → Sto → Option (Int32 × Sto) := (g_X5_value d)
def f_X2_whereCaught (x1 : Int32) (σ : Sto) : Option Int32 :=
  ix 40 x1 <| lt (σ.1 26 x1.toNatClampNeg) fun v_1 =>
  calp (f_X0_edgeTo x1 v_1 σ) fun v_2 =>
  ix 120 v_2 <| lt (σ.1 38 v_2.toNatClampNeg) fun v_3 =>
  if v_3 = 0 then (
    ix 40 v_1 <| lt (σ.1 75 v_1.toNatClampNeg) fun v_5 =>
    some (v_5 + 1)
  ) else (
    ix 40 v_1 <| lt (σ.1 74 v_1.toNatClampNeg) fun v_6 =>
    some v_6
  )
def f_X5_catchIn (x1 : Int32) (x2 : Int32) (σ : Sto) : Option (Int32 × Sto) :=
  ix 40 x1 <| lt (σ.1 26 x1.toNatClampNeg) fun v_1 =>
  if v_1 = (-1) then (
    cals (f_X5_throwOut x2 σ) fun s_3 =>
    some (((-1) : Int32), s_3)
  ) else (
    lt (sti σ 84 0 (0 : Int32)) fun s_4 =>
    ix 8 (0 : Int32) <| lt (sti s_4 79 (0 : Int32).toNatClampNeg x2) fun s_5 =>
    calp (f_X2_whereCaught x1 s_5) fun v_6 =>
    some (v_6, s_5)
  )
def f_X5_perform (x1 : Int32) (x2 : Int32) (x3 : Int32) (σ : Sto) : Option (Int32 × Sto) :=
  ix 320 x1 <| lt (σ.1 53 x1.toNatClampNeg) fun v_1 =>
  if v_1 = 6 then (
    some (((-1) : Int32), σ)
  ) else (
    ix 320 x1 <| lt (σ.1 55 x1.toNatClampNeg) fun v_3 =>
    calv (f_X5_value 250 v_3 (0 : Int32) σ) fun v_4 s_4 =>
    jn (
      if (s_4.1 84 0) = 0 then (
        calv (f_X5_catchIn x2 v_4 s_4) fun v_7 s_7 =>
        some (v_7, s_7)
      ) else (
        calv (f_X5_catchIn x2 (99 : Int32) s_4) fun v_8 s_8 =>
        some (v_8, s_8)
      )
    ) fun k_49 =>
    if (s_4.1 84 0) = 0 then (
      if v_1 = 5 then (
        k_49
      ) else (
        ix 320 x1 <| lt (s_4.1 54 x1.toNatClampNeg) fun v_11 =>
        jn (fun (s_12 : Sto) => (
          some ((x3 + 1), s_12)
        )) fun k_157 =>
        if v_1.toInt = 0 then (
          ix 6 v_11 <| lt (sti s_4 78 v_11.toNatClampNeg v_4) fun s_14 =>
          k_157 s_14
        ) else (
        if v_1.toInt = 1 then (
          ix 8 v_11 <| lt (sti s_4 79 v_11.toNatClampNeg v_4) fun s_15 =>
          k_157 s_15
        ) else (
        if v_1.toInt = 2 then (
          ix 161 v_11 <| lt (sti s_4 80 v_11.toNatClampNeg v_4) fun s_16 =>
          k_157 s_16
        ) else (
        if v_1.toInt = 3 then (
          cals (f_X5_tellOut v_4 s_4) fun s_17 =>
          k_157 s_17
        ) else (
          k_157 s_4
        )
        )
        )
        )
      )
    ) else (
      k_49
    )
  )
def f_X5_follow (x1 : Int32) (σ : Sto) : Option (Int32 × Sto) :=
  ix 800 x1 <| lt (σ.1 70 x1.toNatClampNeg) fun v_1 =>
  ix 800 x1 <| lt (σ.1 69 x1.toNatClampNeg) fun v_2 =>
  if v_2.toInt = 0 then (
    ix 800 x1 <| lt (σ.1 72 x1.toNatClampNeg) fun v_4 =>
    calv (f_X5_perform v_4 v_1 x1 σ) fun v_5 s_5 =>
    some (v_5, s_5)
  ) else (
  if v_2.toInt = 3 then (
    ix 40 v_1 <| lt (σ.1 57 v_1.toNatClampNeg) fun v_6 =>
    calv (f_X5_value 250 v_6 (0 : Int32) σ) fun v_7 s_7 =>
    if v_7 = 0 then (
      ix 800 x1 <| lt (s_7.1 72 x1.toNatClampNeg) fun v_9 =>
      some ((v_9 + 1), s_7)
    ) else (
      some ((x1 + 1), s_7)
    )
  ) else (
  if v_2.toInt = 4 then (
    ix 800 x1 <| lt (σ.1 72 x1.toNatClampNeg) fun v_10 =>
    some ((v_10 + 1), σ)
  ) else (
  if v_2.toInt = 6 then (
    ix 40 v_1 <| lt (σ.1 75 v_1.toNatClampNeg) fun v_11 =>
    some ((v_11 + 1), σ)
  ) else (
  if v_2.toInt = 7 then (
    ix 40 v_1 <| lt (σ.1 74 v_1.toNatClampNeg) fun v_12 =>
    some (v_12, σ)
  ) else (
  if v_2.toInt = 8 then (
    ix 40 v_1 <| lt (σ.1 73 v_1.toNatClampNeg) fun v_13 =>
    some (v_13, σ)
  ) else (
    some ((x1 + 1), σ)
  )
  )
  )
  )
  )
  )
def f_X5_goThroughLines  (σ : Sto) : Option Sto :=
  itr (fun _ _ _ => none) (fun (a_4 : Int32 → Int32 → Sto → Option Sto) (x1_1 : Int32) (x2_1 : Int32) (s_1 : Sto) => (
    if 1000000 ≤ x2_1 then (
      some s_1
    ) else (
      if x1_1 < 0 then (
        some s_1
      ) else (
        if (s_1.1 68 0) ≤ x1_1 then (
          some s_1
        ) else (
          ix 800 x1_1 <| lt (s_1.1 69 x1_1.toNatClampNeg) fun v_5 =>
          jn (fun (s_6 : Sto) => (
            calv (f_X5_follow x1_1 s_6) fun v_7 s_7 =>
            lt (x2_1 + 1) fun x2_8 =>
            a_4 v_7 x2_8 s_7
          )) fun k_47 =>
          if v_5 = 11 then (
            calv (f_X5_enter s_1) fun v_10 s_10 =>
            if v_10 = 0 then (
              some s_10
            ) else (
              k_47 s_10
            )
          ) else (
            k_47 s_1
          )
        )
      )
    )
  )) LF (0 : Int32) (0 : Int32) σ
def f_X11_goThrough (x1 : Int32) (σ : Sto) : Option Sto :=
  if x1 = 0 then (
    cals (f_X5_goThroughCode σ) fun s_2 =>
    some s_2
  ) else (
    cals (f_X5_goThroughLines σ) fun s_3 =>
    some s_3
  )
def f_X11_run (x1 : Int32) (x2 : Int32) (x3 : Int32) (x4 : Int32) (x5 : Int32) (x6 : Int32) (σ : Sto) : Option (Int32 × Sto) :=
  calp (f_X11_canRun x1 x5 σ) fun v_1 =>
  if v_1 = 0 then (
    some (((-1000000) : Int32), σ)
  ) else (
    if x6 < 0 then (
      some (((-1000000) : Int32), σ)
    ) else (
      if x6 ≤ 11 then (
        cals (f_X5_begin x2 x3 x4 x5 ((-1) : Int32) σ) fun s_5 =>
        cals (f_X11_goThrough x1 s_5) fun s_6 =>
        if x6.toInt = 0 then (
          some ((s_6.1 89 0), s_6)
        ) else (
        if x6.toInt = 1 then (
          some ((s_6.1 86 0), s_6)
        ) else (
        if x6.toInt = 2 then (
          if (s_6.1 86 0) = 1 then (
            some ((s_6.1 85 0), s_6)
          ) else (
            some ((0 : Int32), s_6)
          )
        ) else (
        if x6.toInt = 3 then (
          some ((s_6.1 88 0), s_6)
        ) else (
        if x6.toInt = 4 then (
          some ((s_6.1 87 0), s_6)
        ) else (
        if x6.toInt = 11 then (
          some ((s_6.1 90 0), s_6)
        ) else (
          ix 6 (x6 - 5) <| lt (s_6.1 78 (x6 - 5).toNatClampNeg) fun v_9 =>
          some (v_9, s_6)
        )
        )
        )
        )
        )
        )
      ) else (
        some (((-1000000) : Int32), σ)
      )
    )
  )
def f_X11_output (x1 : Int32) (x2 : Int32) (x3 : Int32) (x4 : Int32) (x5 : Int32) (x6 : Int32) (σ : Sto) : Option (Int32 × Sto) :=
  calp (f_X11_canRun x1 x5 σ) fun v_1 =>
  if v_1 = 0 then (
    some (((-1000000) : Int32), σ)
  ) else (
    if 0 ≤ x6 then (
      cals (f_X5_begin x2 x3 x4 x5 x6 σ) fun s_4 =>
      cals (f_X11_goThrough x1 s_4) fun s_5 =>
      if (s_5.1 89 0) ≤ x6 then (
        some (((-1000000) : Int32), s_5)
      ) else (
        some ((s_5.1 92 0), s_5)
      )
    ) else (
      some (((-1000000) : Int32), σ)
    )
  )
def f_X0_leadingTo (x1 : Int32) (σ : Sto) : Option Int64 :=
  itr (fun _ _ _ => none) (fun (a_8 : Int64 → Int64 → Int32 → Option Int64) (x2_1 : Int64) (x4_1 : Int64) (x6_1 : Int32) => (
    if (σ.1 20 0) < x6_1 then (
      some x2_1
    ) else (
      if (lg_cmp x4_1 (x2_1 ||| ((1 : Int64) <<< (x1.toInt64 &&& 63)))) = 0 then (
        some x2_1
      ) else (
        lt (x2_1 ||| ((1 : Int64) <<< (x1.toInt64 &&& 63))) fun x4_4 =>
        itr (fun _ _ => none) (fun (a_38 : Int64 → Int32 → Option Int64) (x2_5 : Int64) (x7_5 : Int32) => (
          if (σ.1 20 0) ≤ x7_5 then (
            lt (x6_1 + 1) fun x6_7 =>
            a_8 x2_5 x4_4 x6_7
          ) else (
            ix 40 x7_5 <| lt (σ.2 0 x7_5.toNatClampNeg) fun v_8 =>
            jn (fun (x2_9 : Int64) => (
              lt (x7_5 + 1) fun x7_10 =>
              a_38 x2_9 x7_10
            )) fun k_69 =>
            if (lg_cmp (v_8 &&& x4_4) (0 : Int64)) = 0 then (
              k_69 x2_5
            ) else (
              lt (x2_5 ||| ((1 : Int64) <<< (x7_5.toInt64 &&& 63))) fun x2_12 =>
              k_69 x2_12
            )
          )
        )) LF x2_1 (0 : Int32)
      )
    )
  )) LF (0 : Int64) (0 : Int64) (0 : Int32)
def f_X11_comesTo (x1 : Int32) (σ : Sto) : Option Int64 :=
  calp (f_X11_isBlock x1 σ) fun v_1 =>
  if v_1 = 0 then (
    some ((-1) : Int64)
  ) else (
    calp (f_X0_leadingTo x1 σ) fun v_3 =>
    some v_3
  )
def f_X0_way (x1 : Int32) (x2 : Int32) (σ : Sto) : Option Int32 :=
  lt ((1 : Int64) <<< (x1.toInt64 &&& 63)) fun x3_1 =>
  itr (fun _ _ => none) (fun (a_7 : Int64 → Int32 → Option Int32) (x3_2 : Int64) (x5_2 : Int32) => (
    if (σ.1 20 0) < x5_2 then (
      some ((-1) : Int32)
    ) else (
      calp (f_X11_isIn x3_2 x2) fun v_4 =>
      if v_4 = 0 then (
        itr (fun _ _ => none) (fun (a_33 : Int64 → Int32 → Option Int32) (x6_6 : Int64) (x8_6 : Int32) => (
          if (σ.1 20 0) ≤ x8_6 then (
            lt (x5_2 + 1) fun x5_8 =>
            a_7 x6_6 x5_8
          ) else (
            calp (f_X11_isIn x3_2 x8_6) fun v_9 =>
            jn (fun (x6_10 : Int64) => (
              lt (x8_6 + 1) fun x8_11 =>
              a_33 x6_10 x8_11
            )) fun k_63 =>
            if v_9 = 0 then (
              k_63 x6_6
            ) else (
              ix 40 x8_6 <| lt (σ.2 0 x8_6.toNatClampNeg) fun v_13 =>
              lt (x6_6 ||| v_13) fun x6_14 =>
              k_63 x6_14
            )
          )
        )) LF x3_2 (0 : Int32)
      ) else (
        some x5_2
      )
    )
  )) LF x3_1 (0 : Int32)
def f_X11_far (x1 : Int32) (x2 : Int32) (σ : Sto) : Option Int32 :=
  calp (f_X11_isBlock x1 σ) fun v_1 =>
  jn (
    some ((-1) : Int32)
  ) fun k_28 =>
  if v_1 = 0 then (
    k_28
  ) else (
    calp (f_X11_isBlock x2 σ) fun v_4 =>
    if v_4 = 0 then (
      k_28
    ) else (
      calp (f_X0_way x1 x2 σ) fun v_6 =>
      some v_6
    )
  )
def f_X8_mostLoops  (σ : Sto) : Option Int32 :=
  itr (fun _ _ => none) (fun (a_4 : Int32 → Int32 → Option Int32) (x1_1 : Int32) (x2_1 : Int32) => (
    if (σ.1 20 0) ≤ x2_1 then (
      some x1_1
    ) else (
      calp (f_X8_loopsRound x2_1 σ) fun v_3 =>
      lt (if x1_1 < v_3 then v_3 else x1_1) fun v_4 =>
      lt (x2_1 + 1) fun x2_5 =>
      a_4 v_4 x2_5
    )
  )) LF (0 : Int32) (0 : Int32)
def f_X2_deepest  (σ : Sto) : Option Int32 :=
  itr (fun _ _ => none) (fun (a_4 : Int32 → Int32 → Option Int32) (x1_1 : Int32) (x2_1 : Int32) => (
    if (σ.1 68 0) ≤ x2_1 then (
      some x1_1
    ) else (
      ix 800 x2_1 <| lt (σ.1 71 x2_1.toNatClampNeg) fun v_3 =>
      lt (if x1_1 < v_3 then v_3 else x1_1) fun v_4 =>
      lt (x2_1 + 1) fun x2_5 =>
      a_4 v_4 x2_5
    )
  )) LF (0 : Int32) (0 : Int32)
def f_X2_ofKind (x1 : Int32) (σ : Sto) : Option Int32 :=
  itr (fun _ _ => none) (fun (a_4 : Int32 → Int32 → Option Int32) (x2_1 : Int32) (x3_1 : Int32) => (
    if (σ.1 68 0) ≤ x3_1 then (
      some x2_1
    ) else (
      ix 800 x3_1 <| lt (σ.1 69 x3_1.toNatClampNeg) fun v_3 =>
      jn (fun (x2_4 : Int32) => (
        lt (x3_1 + 1) fun x3_5 =>
        a_4 x2_4 x3_5
      )) fun k_25 =>
      if v_3 = x1 then (
        lt (x2_1 + 1) fun x2_7 =>
        k_25 x2_7
      ) else (
        k_25 x2_1
      )
    )
  )) LF (0 : Int32) (0 : Int32)
def f_X1_mostParts  (σ : Sto) : Option Int32 :=
  itr (fun _ _ => none) (fun (a_4 : Int32 → Int32 → Option Int32) (x1_1 : Int32) (x2_1 : Int32) => (
    if (σ.1 52 0) ≤ x2_1 then (
      some x1_1
    ) else (
      ix 320 x2_1 <| lt (σ.1 55 x2_1.toNatClampNeg) fun v_3 =>
      jn (fun (x1_4 : Int32) => (
        lt (x2_1 + 1) fun x2_5 =>
        a_4 x1_4 x2_5
      )) fun k_41 =>
      if v_3 = (-1) then (
        k_41 x1_1
      ) else (
        ix 320 x2_1 <| lt (σ.1 55 x2_1.toNatClampNeg) fun v_7 =>
        ix 512 v_7 <| lt (σ.1 50 v_7.toNatClampNeg) fun v_8 =>
        lt (if x1_1 < v_8 then v_8 else x1_1) fun v_9 =>
        k_41 v_9
      )
    )
  )) LF (0 : Int32) (0 : Int32)
def f_X3_highest  (σ : Sto) : Option Int32 :=
  itr (fun _ _ => none) (fun (a_4 : Int32 → Int32 → Option Int32) (x1_1 : Int32) (x2_1 : Int32) => (
    if (σ.1 4 0) ≤ x2_1 then (
      some x1_1
    ) else (
      ix 40 x2_1 <| lt (σ.1 8 x2_1.toNatClampNeg) fun v_3 =>
      jn (fun (x1_4 : Int32) => (
        lt (x2_1 + 1) fun x2_5 =>
        a_4 x1_4 x2_5
      )) fun k_41 =>
      if v_3 = (-1) then (
        k_41 x1_1
      ) else (
        ix 40 x2_1 <| lt (σ.1 8 x2_1.toNatClampNeg) fun v_7 =>
        calp (f_X3_depthBehind x2_1 σ) fun v_8 =>
        lt (if v_7 < v_8 then v_8 else v_7) fun v_9 =>
        lt (if x1_1 < v_9 then v_9 else x1_1) fun v_10 =>
        k_41 v_10
      )
    )
  )) LF (0 : Int32) (0 : Int32)
def f_X1_fullest  (σ : Sto) : Option Int32 :=
  itr (fun _ _ => none) (fun (a_4 : Int32 → Int32 → Option Int32) (x1_1 : Int32) (x2_1 : Int32) => (
    if (σ.1 20 0) ≤ x2_1 then (
      some x1_1
    ) else (
      ix 41 (x2_1 + 1) <| lt (σ.1 56 (x2_1 + 1).toNatClampNeg) fun v_3 =>
      ix 41 x2_1 <| lt (σ.1 56 x2_1.toNatClampNeg) fun v_4 =>
      ix 41 (x1_1 + 1) <| lt (σ.1 56 (x1_1 + 1).toNatClampNeg) fun v_5 =>
      ix 41 x1_1 <| lt (σ.1 56 x1_1.toNatClampNeg) fun v_6 =>
      jn (fun (x1_7 : Int32) => (
        lt (x2_1 + 1) fun x2_8 =>
        a_4 x1_7 x2_8
      )) fun k_50 =>
      if (v_3 - v_4) ≤ (v_5 - v_6) then (
        k_50 x1_1
      ) else (
        k_50 x2_1
      )
    )
  )) LF (0 : Int32) (1 : Int32)
def f_X10_howMany  (σ : Sto) : Option Int32 :=
  itr (fun _ _ => none) (fun (a_4 : Int32 → Int32 → Option Int32) (x1_1 : Int32) (x2_1 : Int32) => (
    if 6 ≤ x2_1 then (
      itr (fun _ _ => none) (fun (a_30 : Int32 → Int32 → Option Int32) (x1_3 : Int32) (x2_3 : Int32) => (
        if (σ.1 32 0) ≤ x2_3 then (
          itr (fun _ _ => none) (fun (a_61 : Int32 → Int32 → Option Int32) (x1_5 : Int32) (x2_5 : Int32) => (
            if (σ.1 58 0) ≤ x2_5 then (
              some x1_5
            ) else (
              ix 160 x2_5 <| lt (σ.1 65 x2_5.toNatClampNeg) fun v_7 =>
              calp (f_X11_oneIf v_7) fun v_8 =>
              lt (x1_5 + v_8) fun x1_9 =>
              lt (x2_5 + 1) fun x2_10 =>
              a_61 x1_9 x2_10
            )
          )) LF x1_3 (0 : Int32)
        ) else (
          ix 6 x2_3 <| lt (σ.1 64 x2_3.toNatClampNeg) fun v_11 =>
          calp (f_X11_oneIf v_11) fun v_12 =>
          lt (x1_3 + v_12) fun x1_13 =>
          lt (x2_3 + 1) fun x2_14 =>
          a_30 x1_13 x2_14
        )
      )) LF x1_1 (0 : Int32)
    ) else (
      ix 6 x2_1 <| lt (σ.1 63 x2_1.toNatClampNeg) fun v_15 =>
      calp (f_X11_oneIf v_15) fun v_16 =>
      lt (x1_1 + v_16) fun x1_17 =>
      lt (x2_1 + 1) fun x2_18 =>
      a_4 x1_17 x2_18
    )
  )) LF (0 : Int32) (0 : Int32)
def f_X11_most (x1 : Int32) (σ : Sto) : Option Int32 :=
  if (σ.1 0 0) = 0 then (
    some ((-1000000) : Int32)
  ) else (
    if x1.toInt = 0 then (
      calp (f_X8_mostLoops σ) fun v_3 =>
      some v_3
    ) else (
    if x1.toInt = 1 then (
      if (σ.1 34 0) = 0 then (
        calp (f_X2_deepest σ) fun v_5 =>
        some v_5
      ) else (
        some ((-1) : Int32)
      )
    ) else (
    if x1.toInt = 2 then (
      if (σ.1 34 0) = 0 then (
        calp (f_X2_ofKind (6 : Int32) σ) fun v_7 =>
        some v_7
      ) else (
        some ((-1) : Int32)
      )
    ) else (
    if x1.toInt = 3 then (
      if (σ.1 34 0) = 0 then (
        calp (f_X2_ofKind (7 : Int32) σ) fun v_9 =>
        some v_9
      ) else (
        some ((-1) : Int32)
      )
    ) else (
    if x1.toInt = 4 then (
      calp (f_X1_mostParts σ) fun v_10 =>
      some v_10
    ) else (
    if x1.toInt = 5 then (
      calp (f_X3_highest σ) fun v_11 =>
      some v_11
    ) else (
    if x1.toInt = 6 then (
      calp (f_X1_fullest σ) fun v_12 =>
      some v_12
    ) else (
    if x1.toInt = 7 then (
      calp (f_X10_howMany σ) fun v_13 =>
      some v_13
    ) else (
      some ((-1000000) : Int32)
    )
    )
    )
    )
    )
    )
    )
    )
  )
