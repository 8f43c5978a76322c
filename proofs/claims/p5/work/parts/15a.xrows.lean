section WR
variable {p : Program} {l : Launch} {e : Env} {R : Room} {s : State} {m : MethodId} {args : Array Value} {below : List Frame} {meth : Method} {c : Code} {H : Heap} {locs : List Loc} {Q : State → Prop} {pc : Nat} {ls : Array Slot} {rest : List Value} {A : Nat → Prop} {cc : ByteArray} {D : va_G} {y : Nat → ClassId} {o : Nat → Nat} {σ σ2 : Sto}
theorem gt_X11_146_listing (hx : p.tables.exec = Jvm.exec) (hb : c.code = cc) (hta : ∀ w ∈ ALW, w.before args s = true) (hown : s.vm.findClass RX11 = some m.cls) (hK : va_K D vwCl (TYL y) s) (hC : CZ D A s H locs (WX y o σ)) (hdg : decode cc pc = .ok (.getfield 146, 3)) (k : W p l e R s m args below meth c H locs 0 0 Q (F0 m (pc + 3) ls (.ref (o 4) :: rest))) : W p l e R s m args below meth c H locs 0 0 Q (F0 m pc ls (.ref (o 3) :: rest)) :=
  va_get (ci := 3) (v := .ref (o 4)) (C := RX3) (T := TX3) (N := 8) hx hb hta ui_X3 hown hK hC.1 3 rfl rfl 2 (by decide) (hta _ wq_815) (fun _ h9 => h9) rfl hdg k
theorem gt_X11_150_listing (hx : p.tables.exec = Jvm.exec) (hb : c.code = cc) (hta : ∀ w ∈ ALW, w.before args s = true) (hown : s.vm.findClass RX11 = some m.cls) (hK : va_K D vwCl (TYL y) s) (hC : CZ D A s H locs (WX y o σ)) (hdg : decode cc pc = .ok (.getfield 150, 3)) (k : W p l e R s m args below meth c H locs 0 0 Q (F0 m (pc + 3) ls (.ref (o 5) :: rest))) : W p l e R s m args below meth c H locs 0 0 Q (F0 m pc ls (.ref (o 3) :: rest)) :=
  va_get (ci := 3) (v := .ref (o 5)) (C := RX3) (T := TX3) (N := 8) hx hb hta ui_X3 hown hK hC.1 3 rfl rfl 3 (by decide) (hta _ wq_816) (fun _ h9 => h9) rfl hdg k
theorem gt_X11_203_listing (hx : p.tables.exec = Jvm.exec) (hb : c.code = cc) (hta : ∀ w ∈ ALW, w.before args s = true) (hown : s.vm.findClass RX11 = some m.cls) (hK : va_K D vwCl (TYL y) s) (hC : CZ D A s H locs (WX y o σ)) (hdg : decode cc pc = .ok (.getfield 203, 3)) (k : W p l e R s m args below meth c H locs 0 0 Q (F0 m (pc + 3) ls (.ref (o 6) :: rest))) : W p l e R s m args below meth c H locs 0 0 Q (F0 m pc ls (.ref (o 3) :: rest)) :=
  va_get (ci := 3) (v := .ref (o 6)) (C := RX3) (T := TX3) (N := 8) hx hb hta ui_X3 hown hK hC.1 3 rfl rfl 4 (by decide) (hta _ wq_835) (fun _ h9 => h9) rfl hdg k
theorem gt_X11_206_blocks (hx : p.tables.exec = Jvm.exec) (hb : c.code = cc) (hta : ∀ w ∈ ALW, w.before args s = true) (hown : s.vm.findClass RX11 = some m.cls) (hK : va_K D vwCl (TYL y) s) (hC : CZ D A s H locs (WX y o σ)) (hdg : decode cc pc = .ok (.getfield 206, 3)) (k : W p l e R s m args below meth c H locs 0 0 Q (F0 m (pc + 3) ls (.ref (o 20) :: rest))) : W p l e R s m args below meth c H locs 0 0 Q (F0 m pc ls (.ref (o 17) :: rest)) :=
  va_get (ci := 0) (v := .ref (o 20)) (C := RX0) (T := TX0) (N := 16) hx hb hta ui_X0 hown hK hC.1 17 rfl rfl 4 (by decide) (hta _ wq_836) (fun _ h9 => h9) rfl hdg k
theorem gt_X11_222_blocks (hx : p.tables.exec = Jvm.exec) (hb : c.code = cc) (hta : ∀ w ∈ ALW, w.before args s = true) (hown : s.vm.findClass RX11 = some m.cls) (hK : va_K D vwCl (TYL y) s) (hC : CZ D A s H locs (WX y o σ)) (hdg : decode cc pc = .ok (.getfield 222, 3)) (k : W p l e R s m args below meth c H locs 0 0 Q (F0 m (pc + 3) ls (.ref (o 18) :: rest))) : W p l e R s m args below meth c H locs 0 0 Q (F0 m pc ls (.ref (o 17) :: rest)) :=
  va_get (ci := 0) (v := .ref (o 18)) (C := RX0) (T := TX0) (N := 16) hx hb hta ui_X0 hown hK hC.1 17 rfl rfl 2 (by decide) (hta _ wq_840) (fun _ h9 => h9) rfl hdg k
theorem gt_X11_225_blocks (hx : p.tables.exec = Jvm.exec) (hb : c.code = cc) (hta : ∀ w ∈ ALW, w.before args s = true) (hown : s.vm.findClass RX11 = some m.cls) (hK : va_K D vwCl (TYL y) s) (hC : CZ D A s H locs (WX y o σ)) (hdg : decode cc pc = .ok (.getfield 225, 3)) (k : W p l e R s m args below meth c H locs 0 0 Q (F0 m (pc + 3) ls (.ref (o 19) :: rest))) : W p l e R s m args below meth c H locs 0 0 Q (F0 m pc ls (.ref (o 17) :: rest)) :=
  va_get (ci := 0) (v := .ref (o 19)) (C := RX0) (T := TX0) (N := 16) hx hb hta ui_X0 hown hK hC.1 17 rfl rfl 3 (by decide) (hta _ wq_841) (fun _ h9 => h9) rfl hdg k
theorem gt_X11_228_shape (hx : p.tables.exec = Jvm.exec) (hb : c.code = cc) (hta : ∀ w ∈ ALW, w.before args s = true) (hown : s.vm.findClass RX11 = some m.cls) (hK : va_K D vwCl (TYL y) s) (hC : CZ D A s H locs (WX y o σ)) (hdg : decode cc pc = .ok (.getfield 228, 3)) (k : W p l e R s m args below meth c H locs 0 0 Q (F0 m (pc + 3) ls (.ref (o 34) :: rest))) : W p l e R s m args below meth c H locs 0 0 Q (F0 m pc ls (.ref (o 30) :: rest)) :=
  va_get (ci := 8) (v := .ref (o 34)) (C := RX8) (T := TX8) (N := 18) hx hb hta ui_X8 hown hK hC.1 30 rfl rfl 7 (by decide) (hta _ wq_842) (fun _ h9 => h9) rfl hdg k
theorem gt_X11_231_shape (hx : p.tables.exec = Jvm.exec) (hb : c.code = cc) (hta : ∀ w ∈ ALW, w.before args s = true) (hown : s.vm.findClass RX11 = some m.cls) (hK : va_K D vwCl (TYL y) s) (hC : CZ D A s H locs (WX y o σ)) (hdg : decode cc pc = .ok (.getfield 231, 3)) (k : W p l e R s m args below meth c H locs 0 0 Q (F0 m (pc + 3) ls (.ref (o 36) :: rest))) : W p l e R s m args below meth c H locs 0 0 Q (F0 m pc ls (.ref (o 30) :: rest)) :=
  va_get (ci := 8) (v := .ref (o 36)) (C := RX8) (T := TX8) (N := 18) hx hb hta ui_X8 hown hK hC.1 30 rfl rfl 9 (by decide) (hta _ wq_843) (fun _ h9 => h9) rfl hdg k
theorem gt_X11_241_liveness (hx : p.tables.exec = Jvm.exec) (hb : c.code = cc) (hta : ∀ w ∈ ALW, w.before args s = true) (hown : s.vm.findClass RX11 = some m.cls) (hK : va_K D vwCl (TYL y) s) (hC : CZ D A s H locs (WX y o σ)) (hdg : decode cc pc = .ok (.getfield 241, 3)) (k : W p l e R s m args below meth c H locs 0 0 Q (F0 m (pc + 3) ls (.ref (o 61) :: rest))) : W p l e R s m args below meth c H locs 0 0 Q (F0 m pc ls (.ref (o 60) :: rest)) :=
  va_get (ci := 4) (v := .ref (o 61)) (C := RX4) (T := TX4) (N := 5) hx hb hta ui_X4 hown hK hC.1 60 rfl rfl 2 (by decide) (hta _ wq_845) (fun _ h9 => h9) rfl hdg k
theorem gt_X11_244_liveness (hx : p.tables.exec = Jvm.exec) (hb : c.code = cc) (hta : ∀ w ∈ ALW, w.before args s = true) (hown : s.vm.findClass RX11 = some m.cls) (hK : va_K D vwCl (TYL y) s) (hC : CZ D A s H locs (WX y o σ)) (hdg : decode cc pc = .ok (.getfield 244, 3)) (k : W p l e R s m args below meth c H locs 0 0 Q (F0 m (pc + 3) ls (.ref (o 62) :: rest))) : W p l e R s m args below meth c H locs 0 0 Q (F0 m pc ls (.ref (o 60) :: rest)) :=
  va_get (ci := 4) (v := .ref (o 62)) (C := RX4) (T := TX4) (N := 5) hx hb hta ui_X4 hown hK hC.1 60 rfl rfl 3 (by decide) (hta _ wq_846) (fun _ h9 => h9) rfl hdg k
theorem gt_X11_247_blocks (hx : p.tables.exec = Jvm.exec) (hb : c.code = cc) (hta : ∀ w ∈ ALW, w.before args s = true) (hown : s.vm.findClass RX11 = some m.cls) (hK : va_K D vwCl (TYL y) s) (hC : CZ D A s H locs (WX y o σ)) (hdg : decode cc pc = .ok (.getfield 247, 3)) (k : W p l e R s m args below meth c H locs 0 0 Q (F0 m (pc + 3) ls (.ref (o 23) :: rest))) : W p l e R s m args below meth c H locs 0 0 Q (F0 m pc ls (.ref (o 17) :: rest)) :=
  va_get (ci := 0) (v := .ref (o 23)) (C := RX0) (T := TX0) (N := 16) hx hb hta ui_X0 hown hK hC.1 17 rfl rfl 7 (by decide) (hta _ wq_847) (fun _ h9 => h9) rfl hdg k
end WR
def f_X11_instruction (x1 : Int32) (x2 : Int32) (σ : Sto) : Option Int32 :=
  if (σ.1 0 0) = 0 then (
    none
  ) else (
    if x1 < 0 then (
      none
    ) else (
      if (σ.1 4 0) ≤ x1 then (
        none
      ) else (
        if x2 < 0 then (
          none
        ) else (
          if x2 ≤ 5 then (
            if x2.toInt = 0 then (
              ix 40 x1 <| lt (σ.1 6 x1.toNatClampNeg) fun v_7 =>
              some v_7
            ) else (
            if x2.toInt = 1 then (
              ix 40 x1 <| lt (σ.1 7 x1.toNatClampNeg) fun v_8 =>
              some v_8
            ) else (
            if x2.toInt = 2 then (
              ix 40 x1 <| lt (σ.1 8 x1.toNatClampNeg) fun v_9 =>
              some v_9
            ) else (
            if x2.toInt = 3 then (
              ix 40 x1 <| lt (σ.1 23 x1.toNatClampNeg) fun v_10 =>
              some v_10
            ) else (
            if x2.toInt = 4 then (
              calp (f_X3_handlerOf x1 σ) fun v_11 =>
              some v_11
            ) else (
              calp (f_X11_isIn (σ.2 6 0) x1) fun v_12 =>
              if v_12 = 0 then (
                some (0 : Int32)
              ) else (
                some (1 : Int32)
              )
            )
            )
            )
            )
            )
          ) else (
            none
          )
        )
      )
    )
  )
def f_X11_block (x1 : Int32) (x2 : Int32) (σ : Sto) : Option Int32 :=
  calp (f_X11_isBlock x1 σ) fun v_1 =>
  if v_1 = 0 then (
    none
  ) else (
    if x2 < 0 then (
      none
    ) else (
      if x2 ≤ 12 then (
        if x2.toInt = 0 then (
          ix 40 x1 <| lt (σ.1 21 x1.toNatClampNeg) fun v_6 =>
          some v_6
        ) else (
        if x2.toInt = 1 then (
          ix 40 x1 <| lt (σ.1 22 x1.toNatClampNeg) fun v_7 =>
          some v_7
        ) else (
        if x2.toInt = 2 then (
          ix 40 x1 <| lt (σ.1 21 x1.toNatClampNeg) fun v_8 =>
          ix 40 v_8 <| lt (σ.1 8 v_8.toNatClampNeg) fun v_9 =>
          some v_9
        ) else (
        if x2.toInt = 3 then (
          ix 40 x1 <| lt (σ.1 40 x1.toNatClampNeg) fun v_10 =>
          some v_10
        ) else (
        if x2.toInt = 4 then (
          ix 40 x1 <| lt (σ.1 41 x1.toNatClampNeg) fun v_11 =>
          some v_11
        ) else (
        if x2.toInt = 5 then (
          calp (f_X8_innermost x1 σ) fun v_12 =>
          some v_12
        ) else (
        if x2.toInt = 6 then (
          calp (f_X8_loopsRound x1 σ) fun v_13 =>
          some v_13
        ) else (
        if x2.toInt = 7 then (
          calp (f_X11_isIn (σ.2 4 0) x1) fun v_14 =>
          if v_14 = 0 then (
            some (0 : Int32)
          ) else (
            some (1 : Int32)
          )
        ) else (
        if x2.toInt = 8 then (
          calp (f_X11_isIn (σ.2 2 0) x1) fun v_16 =>
          if v_16 = 0 then (
            some (0 : Int32)
          ) else (
            some (1 : Int32)
          )
        ) else (
        if x2.toInt = 9 then (
          ix 41 (x1 + 1) <| lt (σ.1 56 (x1 + 1).toNatClampNeg) fun v_18 =>
          ix 41 x1 <| lt (σ.1 56 x1.toNatClampNeg) fun v_19 =>
          some (v_18 - v_19)
        ) else (
        if x2.toInt = 10 then (
          ix 40 x1 <| lt (σ.1 66 x1.toNatClampNeg) fun v_20 =>
          some v_20
        ) else (
        if x2.toInt = 11 then (
          ix 40 x1 <| lt (σ.1 67 x1.toNatClampNeg) fun v_21 =>
          some v_21
        ) else (
          ix 40 x1 <| lt (σ.1 26 x1.toNatClampNeg) fun v_22 =>
          some v_22
        )
        )
        )
        )
        )
        )
        )
        )
        )
        )
        )
        )
      ) else (
        none
      )
    )
  )

set_option maxHeartbeats 8000000 in
set_option maxRecDepth 100000 in
theorem r_X11_instruction {D : va_G} {y : Nat → ClassId} {o : Nat → Nat} {ad av : Nat → Nat} {x1 : Int32} {x2 : Int32} {σ : Sto} {v : Int32} (hf : f_X11_instruction x1 x2 σ = some v) (l : Launch) (sz : Nat) : Met l yX11_instruction (Cond.code yX11_instruction cX11_instruction 3 (some .int) :: ALW) { frames := 1, cells := 0, slots := 0, locals := 22 } (va_Pc [.ref (o 0), .int x1, .int x2] (PZ D y ad av (WX y o σ) sz)) (QZi D (WX y o σ) v (WX y o σ) sz) 0 0 (va_A (WX y o σ) sz) := by
  refine met_i (by decide) (Nat.le_of_ble_eq_true rfl) ?_
  intro p e R s m args below meth c Q A ls hx hb hml hta hown hRc hRs hRf hRl hN hK hV hA hret hC hl
  have hl : lv_has ls 3 [(0, .ref (o 0)), (1, .int x1), (2, .int x2)] := hl
  unfold f_X11_instruction at hf
  refine lv_aload_n hx hb dX11_instruction_0 rfl (lv_at hl 0 rfl) ?_
  refine gt_X11_105_cl hx hb hta hown hK hC dX11_instruction_1 ?_
  refine lv_if_eq (tgt := 31) hx hb dX11_instruction_4 (by decide) (fun c_1 => ?_) (fun c_1 => ?_)
  · have hf := it_t c_1 hf
    cases hf
  · have hf := it_f c_1 hf
    refine lv_iload_n hx hb dX11_instruction_7 rfl (lv_at hl 1 rfl) ?_
    refine lv_if_lt (tgt := 31) hx hb dX11_instruction_8 (by decide) (fun c_2 => ?_) (fun c_2 => ?_)
    · have hf := it_t c_2 hf
      cases hf
    · have hf := it_f c_2 hf
      refine lv_iload_n hx hb dX11_instruction_11 rfl (lv_at hl 1 rfl) ?_
      refine lv_aload_n hx hb dX11_instruction_12 rfl (lv_at hl 0 rfl) ?_
      refine gt_X11_19_cl hx hb hta hown hK hC dX11_instruction_13 ?_
      refine gt_X11_138_listing hx hb hta hown hK hC dX11_instruction_16 ?_
      refine lv_icmp_ge (tgt := 31) hx hb dX11_instruction_19 (by decide) (fun c_3 => ?_) (fun c_3 => ?_)
      · have hf := it_t c_3 hf
        cases hf
      · have hf := it_f c_3 hf
        refine lv_iload_n hx hb dX11_instruction_22 rfl (lv_at hl 2 rfl) ?_
        refine lv_if_lt (tgt := 31) hx hb dX11_instruction_23 (by decide) (fun c_4 => ?_) (fun c_4 => ?_)
        · have hf := it_t c_4 hf
          cases hf
        · have hf := it_f c_4 hf
          refine lv_iload_n hx hb dX11_instruction_26 rfl (lv_at hl 2 rfl) ?_
          refine lv_iconst (v := 5) hx hb dX11_instruction_27 (by decide) ?_
          refine lv_icmp_le (tgt := 41) hx hb dX11_instruction_28 (by decide) (fun c_5 => ?_) (fun c_5 => ?_)
          · have hf := it_t c_5 hf
            refine lv_iload_n hx hb dX11_instruction_41 rfl (lv_at hl 2 rfl) ?_
            by_cases h_6_0 : x2.toInt = 0
            · have hf := it_t h_6_0 hf
              refine lv_tab (tgt := 76) hx hb dX11_instruction_42 (Or.inr ⟨34, by omega, by omega, by (rw [h_6_0]; decide), by decide⟩) ?_
              refine lv_aload_n hx hb dX11_instruction_76 rfl (lv_at hl 0 rfl) ?_
              refine gt_X11_19_cl hx hb hta hown hK hC dX11_instruction_77 ?_
              refine gt_X11_146_listing hx hb hta hown hK hC dX11_instruction_80 ?_
              refine lv_iload_n hx hb dX11_instruction_83 rfl (lv_at hl 1 rfl) ?_
              obtain ⟨hi_7, hf⟩ := ix_inv hf
              obtain ⟨v_7, e_7, hf⟩ := lt_inv hf
              refine al_X_4 hx hb hK hC hi_7 e_7 dX11_instruction_84 ?_
              exact hret _ _ _ _ _ _ (Option.some.inj hf) rfl rfl dX11_instruction_85 hC
            have hf := it_f h_6_0 hf
            by_cases h_6_1 : x2.toInt = 1
            · have hf := it_t h_6_1 hf
              refine lv_tab (tgt := 86) hx hb dX11_instruction_42 (Or.inr ⟨44, by omega, by omega, by (rw [h_6_1]; decide), by decide⟩) ?_
              refine lv_aload_n hx hb dX11_instruction_86 rfl (lv_at hl 0 rfl) ?_
              refine gt_X11_19_cl hx hb hta hown hK hC dX11_instruction_87 ?_
              refine gt_X11_150_listing hx hb hta hown hK hC dX11_instruction_90 ?_
              refine lv_iload_n hx hb dX11_instruction_93 rfl (lv_at hl 1 rfl) ?_
              obtain ⟨hi_8, hf⟩ := ix_inv hf
              obtain ⟨v_8, e_8, hf⟩ := lt_inv hf
              refine al_X_5 hx hb hK hC hi_8 e_8 dX11_instruction_94 ?_
              exact hret _ _ _ _ _ _ (Option.some.inj hf) rfl rfl dX11_instruction_95 hC
            have hf := it_f h_6_1 hf
            by_cases h_6_2 : x2.toInt = 2
            · have hf := it_t h_6_2 hf
              refine lv_tab (tgt := 96) hx hb dX11_instruction_42 (Or.inr ⟨54, by omega, by omega, by (rw [h_6_2]; decide), by decide⟩) ?_
              refine lv_aload_n hx hb dX11_instruction_96 rfl (lv_at hl 0 rfl) ?_
              refine gt_X11_19_cl hx hb hta hown hK hC dX11_instruction_97 ?_
              refine gt_X11_203_listing hx hb hta hown hK hC dX11_instruction_100 ?_
              refine lv_iload_n hx hb dX11_instruction_103 rfl (lv_at hl 1 rfl) ?_
              obtain ⟨hi_9, hf⟩ := ix_inv hf
              obtain ⟨v_9, e_9, hf⟩ := lt_inv hf
              refine al_X_6 hx hb hK hC hi_9 e_9 dX11_instruction_104 ?_
              exact hret _ _ _ _ _ _ (Option.some.inj hf) rfl rfl dX11_instruction_105 hC
            have hf := it_f h_6_2 hf
            by_cases h_6_3 : x2.toInt = 3
            · have hf := it_t h_6_3 hf
              refine lv_tab (tgt := 106) hx hb dX11_instruction_42 (Or.inr ⟨64, by omega, by omega, by (rw [h_6_3]; decide), by decide⟩) ?_
              refine lv_aload_n hx hb dX11_instruction_106 rfl (lv_at hl 0 rfl) ?_
              refine gt_X11_31_cl hx hb hta hown hK hC dX11_instruction_107 ?_
              refine gt_X11_206_blocks hx hb hta hown hK hC dX11_instruction_110 ?_
              refine lv_iload_n hx hb dX11_instruction_113 rfl (lv_at hl 1 rfl) ?_
              obtain ⟨hi_10, hf⟩ := ix_inv hf
              obtain ⟨v_10, e_10, hf⟩ := lt_inv hf
              refine al_X_20 hx hb hK hC hi_10 e_10 dX11_instruction_114 ?_
              exact hret _ _ _ _ _ _ (Option.some.inj hf) rfl rfl dX11_instruction_115 hC
            have hf := it_f h_6_3 hf
            by_cases h_6_4 : x2.toInt = 4
            · have hf := it_t h_6_4 hf
              refine lv_tab (tgt := 116) hx hb dX11_instruction_42 (Or.inr ⟨74, by omega, by omega, by (rw [h_6_4]; decide), by decide⟩) ?_
              refine lv_aload_n hx hb dX11_instruction_116 rfl (lv_at hl 0 rfl) ?_
              refine gt_X11_19_cl hx hb hta hown hK hC dX11_instruction_117 ?_
              refine lv_iload_n hx hb dX11_instruction_120 rfl (lv_at hl 1 rfl) ?_
              obtain ⟨v_11, hc_11, hf⟩ := calp_inv hf
              refine cc_Vi (r_X3_handlerOf (D := D) (y := y) (o := o) (ad := ad) (av := av) hc_11 l) hx hb hml hta hown hK hN hV hA hC hRc hRs (by omega) (by omega) wq_837 (q := 3) (ci := 3) rfl rfl wq_53 wq_54 wq_27 wq_44 hd_X3_handlerOf (As := [.int x1]) (rest := []) rfl rfl hl.1 rfl dX11_instruction_121 (fun H locs hC => ?_)
              exact hret _ _ _ _ _ _ (Option.some.inj hf) rfl rfl dX11_instruction_124 hC
            have hf := it_f h_6_4 hf
            refine lv_tab (tgt := 125) hx hb dX11_instruction_42 (Or.inl ⟨by omega, by decide⟩) ?_
            refine lv_aload_n hx hb dX11_instruction_125 rfl (lv_at hl 0 rfl) ?_
            refine gt_X11_74_cl hx hb hta hown hK hC dX11_instruction_126 ?_
            refine gt_X11_193_liveness hx hb hta hown hK hC dX11_instruction_129 ?_
            refine lv_iload_n hx hb dX11_instruction_132 rfl (lv_at hl 1 rfl) ?_
            obtain ⟨v_12, hc_12, hf⟩ := calp_inv hf
            refine cc_Si (r_X11_isIn (D := D) (y := y) (w := WX y o σ) (ad := ad) (av := av) hc_12 l) hx hb hml hta hown hK hN hV hA hC hRc hRs (by omega) (by omega) wq_838 wq_37 wq_38 wq_33 hd_X11_isIn (As := [.long (σ.2 6 0), .int x1]) (rest := []) rfl rfl hl.1 rfl dX11_instruction_133 (fun H locs hC => ?_)
            refine lv_if_eq (tgt := 143) hx hb dX11_instruction_136 (by decide) (fun c_13 => ?_) (fun c_13 => ?_)
            · have hf := it_t c_13 hf
              refine lv_iconst (v := 0) hx hb dX11_instruction_143 (by decide) ?_
              exact hret _ _ _ _ _ _ (Option.some.inj hf) rfl rfl dX11_instruction_144 hC
            · have hf := it_f c_13 hf
              refine lv_iconst (v := 1) hx hb dX11_instruction_139 (by decide) ?_
              refine lv_goto (tgt := 144) hx hb dX11_instruction_140 (by decide) ?_
              exact hret _ _ _ _ _ _ (Option.some.inj hf) rfl rfl dX11_instruction_144 hC
          · have hf := it_f c_5 hf
            cases hf

set_option maxHeartbeats 8000000 in
set_option maxRecDepth 100000 in
theorem r_X11_block {D : va_G} {y : Nat → ClassId} {o : Nat → Nat} {ad av : Nat → Nat} {x1 : Int32} {x2 : Int32} {σ : Sto} {v : Int32} (hf : f_X11_block x1 x2 σ = some v) (l : Launch) (sz : Nat) : Met l yX11_block (Cond.code yX11_block cX11_block 3 (some .int) :: ALW) { frames := 2, cells := 0, slots := 0, locals := 46 } (va_Pc [.ref (o 0), .int x1, .int x2] (PZ D y ad av (WX y o σ) sz)) (QZi D (WX y o σ) v (WX y o σ) sz) 0 0 (va_A (WX y o σ) sz) := by
  refine met_i (by decide) (Nat.le_of_ble_eq_true rfl) ?_
  intro p e R s m args below meth c Q A ls hx hb hml hta hown hRc hRs hRf hRl hN hK hV hA hret hC hl
  have hl : lv_has ls 3 [(0, .ref (o 0)), (1, .int x1), (2, .int x2)] := hl
  unfold f_X11_block at hf
  refine lv_aload_n hx hb dX11_block_0 rfl (lv_at hl 0 rfl) ?_
  refine lv_iload_n hx hb dX11_block_1 rfl (lv_at hl 1 rfl) ?_
  obtain ⟨v_1, hc_1, hf⟩ := calp_inv hf
  refine cc_Vi (r_X11_isBlock (D := D) (y := y) (o := o) (ad := ad) (av := av) hc_1 l) hx hb hml hta hown hK hN hV hA hC hRc hRs (by omega) (by omega) wq_848 (q := 0) (ci := 11) rfl rfl wq_849 wq_850 wq_38 wq_839 hd_X11_isBlock (As := [.int x1]) (rest := []) rfl rfl hl.1 rfl dX11_block_2 (fun H locs hC => ?_)
  refine lv_if_eq (tgt := 18) hx hb dX11_block_5 (by decide) (fun c_2 => ?_) (fun c_2 => ?_)
  · have hf := it_t c_2 hf
    cases hf
  · have hf := it_f c_2 hf
    refine lv_iload_n hx hb dX11_block_8 rfl (lv_at hl 2 rfl) ?_
    refine lv_if_lt (tgt := 18) hx hb dX11_block_9 (by decide) (fun c_3 => ?_) (fun c_3 => ?_)
    · have hf := it_t c_3 hf
      cases hf
    · have hf := it_f c_3 hf
      refine lv_iload_n hx hb dX11_block_12 rfl (lv_at hl 2 rfl) ?_
      refine lv_bipush (v := 12) hx hb dX11_block_13 (by decide) ?_
      refine lv_icmp_le (tgt := 28) hx hb dX11_block_15 (by decide) (fun c_4 => ?_) (fun c_4 => ?_)
      · have hf := it_t c_4 hf
        refine lv_iload_n hx hb dX11_block_28 rfl (lv_at hl 2 rfl) ?_
        by_cases h_5_0 : x2.toInt = 0
        · have hf := it_t h_5_0 hf
          refine lv_tab (tgt := 92) hx hb dX11_block_29 (Or.inr ⟨63, by omega, by omega, by (rw [h_5_0]; decide), by decide⟩) ?_
          refine lv_aload_n hx hb dX11_block_92 rfl (lv_at hl 0 rfl) ?_
          refine gt_X11_31_cl hx hb hta hown hK hC dX11_block_93 ?_
          refine gt_X11_222_blocks hx hb hta hown hK hC dX11_block_96 ?_
          refine lv_iload_n hx hb dX11_block_99 rfl (lv_at hl 1 rfl) ?_
          obtain ⟨hi_6, hf⟩ := ix_inv hf
          obtain ⟨v_6, e_6, hf⟩ := lt_inv hf
          refine al_X_18 hx hb hK hC hi_6 e_6 dX11_block_100 ?_
          exact hret _ _ _ _ _ _ (Option.some.inj hf) rfl rfl dX11_block_101 hC
        have hf := it_f h_5_0 hf
        by_cases h_5_1 : x2.toInt = 1
        · have hf := it_t h_5_1 hf
          refine lv_tab (tgt := 102) hx hb dX11_block_29 (Or.inr ⟨73, by omega, by omega, by (rw [h_5_1]; decide), by decide⟩) ?_
          refine lv_aload_n hx hb dX11_block_102 rfl (lv_at hl 0 rfl) ?_
          refine gt_X11_31_cl hx hb hta hown hK hC dX11_block_103 ?_
          refine gt_X11_225_blocks hx hb hta hown hK hC dX11_block_106 ?_
          refine lv_iload_n hx hb dX11_block_109 rfl (lv_at hl 1 rfl) ?_
          obtain ⟨hi_7, hf⟩ := ix_inv hf
          obtain ⟨v_7, e_7, hf⟩ := lt_inv hf
          refine al_X_19 hx hb hK hC hi_7 e_7 dX11_block_110 ?_
          exact hret _ _ _ _ _ _ (Option.some.inj hf) rfl rfl dX11_block_111 hC
        have hf := it_f h_5_1 hf
        by_cases h_5_2 : x2.toInt = 2
        · have hf := it_t h_5_2 hf
          refine lv_tab (tgt := 112) hx hb dX11_block_29 (Or.inr ⟨83, by omega, by omega, by (rw [h_5_2]; decide), by decide⟩) ?_
          refine lv_aload_n hx hb dX11_block_112 rfl (lv_at hl 0 rfl) ?_
          refine gt_X11_19_cl hx hb hta hown hK hC dX11_block_113 ?_
          refine gt_X11_203_listing hx hb hta hown hK hC dX11_block_116 ?_
          refine lv_aload_n hx hb dX11_block_119 rfl (lv_at hl 0 rfl) ?_
          refine gt_X11_31_cl hx hb hta hown hK hC dX11_block_120 ?_
          refine gt_X11_222_blocks hx hb hta hown hK hC dX11_block_123 ?_
          refine lv_iload_n hx hb dX11_block_126 rfl (lv_at hl 1 rfl) ?_
          obtain ⟨hi_8, hf⟩ := ix_inv hf
          obtain ⟨v_8, e_8, hf⟩ := lt_inv hf
          refine al_X_18 hx hb hK hC hi_8 e_8 dX11_block_127 ?_
          obtain ⟨hi_9, hf⟩ := ix_inv hf
          obtain ⟨v_9, e_9, hf⟩ := lt_inv hf
          refine al_X_6 hx hb hK hC hi_9 e_9 dX11_block_128 ?_
          exact hret _ _ _ _ _ _ (Option.some.inj hf) rfl rfl dX11_block_129 hC
        have hf := it_f h_5_2 hf
        by_cases h_5_3 : x2.toInt = 3
        · have hf := it_t h_5_3 hf
          refine lv_tab (tgt := 130) hx hb dX11_block_29 (Or.inr ⟨101, by omega, by omega, by (rw [h_5_3]; decide), by decide⟩) ?_
          refine lv_aload_n hx hb dX11_block_130 rfl (lv_at hl 0 rfl) ?_
          refine gt_X11_40_cl hx hb hta hown hK hC dX11_block_131 ?_
          refine gt_X11_228_shape hx hb hta hown hK hC dX11_block_134 ?_
          refine lv_iload_n hx hb dX11_block_137 rfl (lv_at hl 1 rfl) ?_
          obtain ⟨hi_10, hf⟩ := ix_inv hf
          obtain ⟨v_10, e_10, hf⟩ := lt_inv hf
          refine al_X_34 hx hb hK hC hi_10 e_10 dX11_block_138 ?_
          exact hret _ _ _ _ _ _ (Option.some.inj hf) rfl rfl dX11_block_139 hC
        have hf := it_f h_5_3 hf
        by_cases h_5_4 : x2.toInt = 4
        · have hf := it_t h_5_4 hf
          refine lv_tab (tgt := 140) hx hb dX11_block_29 (Or.inr ⟨111, by omega, by omega, by (rw [h_5_4]; decide), by decide⟩) ?_
          refine lv_aload_n hx hb dX11_block_140 rfl (lv_at hl 0 rfl) ?_
          refine gt_X11_40_cl hx hb hta hown hK hC dX11_block_141 ?_
          refine gt_X11_231_shape hx hb hta hown hK hC dX11_block_144 ?_
          refine lv_iload_n hx hb dX11_block_147 rfl (lv_at hl 1 rfl) ?_
          obtain ⟨hi_11, hf⟩ := ix_inv hf
          obtain ⟨v_11, e_11, hf⟩ := lt_inv hf
          refine al_X_36 hx hb hK hC hi_11 e_11 dX11_block_148 ?_
          exact hret _ _ _ _ _ _ (Option.some.inj hf) rfl rfl dX11_block_149 hC
        have hf := it_f h_5_4 hf
        by_cases h_5_5 : x2.toInt = 5
        · have hf := it_t h_5_5 hf
          refine lv_tab (tgt := 150) hx hb dX11_block_29 (Or.inr ⟨121, by omega, by omega, by (rw [h_5_5]; decide), by decide⟩) ?_
          refine lv_aload_n hx hb dX11_block_150 rfl (lv_at hl 0 rfl) ?_
          refine gt_X11_40_cl hx hb hta hown hK hC dX11_block_151 ?_
          refine lv_iload_n hx hb dX11_block_154 rfl (lv_at hl 1 rfl) ?_
          obtain ⟨v_12, hc_12, hf⟩ := calp_inv hf
          refine cc_Vi (r_X8_innermost (D := D) (y := y) (o := o) (ad := ad) (av := av) hc_12 l) hx hb hml hta hown hK hN hV hA hC hRc hRs (by omega) (by omega) wq_851 (q := 30) (ci := 8) rfl rfl wq_852 wq_853 wq_603 wq_655 hd_X8_innermost (As := [.int x1]) (rest := []) rfl rfl hl.1 rfl dX11_block_155 (fun H locs hC => ?_)
          exact hret _ _ _ _ _ _ (Option.some.inj hf) rfl rfl dX11_block_158 hC
        have hf := it_f h_5_5 hf
        by_cases h_5_6 : x2.toInt = 6
        · have hf := it_t h_5_6 hf
          refine lv_tab (tgt := 159) hx hb dX11_block_29 (Or.inr ⟨130, by omega, by omega, by (rw [h_5_6]; decide), by decide⟩) ?_
          refine lv_aload_n hx hb dX11_block_159 rfl (lv_at hl 0 rfl) ?_
          refine gt_X11_40_cl hx hb hta hown hK hC dX11_block_160 ?_
          refine lv_iload_n hx hb dX11_block_163 rfl (lv_at hl 1 rfl) ?_
          obtain ⟨v_13, hc_13, hf⟩ := calp_inv hf
          refine cc_Vi (r_X8_loopsRound (D := D) (y := y) (o := o) (ad := ad) (av := av) hc_13 l) hx hb hml hta hown hK hN hV hA hC hRc hRs (by omega) (by omega) wq_854 (q := 30) (ci := 8) rfl rfl wq_660 wq_661 wq_603 wq_656 hd_X8_loopsRound (As := [.int x1]) (rest := []) rfl rfl hl.1 rfl dX11_block_164 (fun H locs hC => ?_)
          exact hret _ _ _ _ _ _ (Option.some.inj hf) rfl rfl dX11_block_167 hC
        have hf := it_f h_5_6 hf
        by_cases h_5_7 : x2.toInt = 7
        · have hf := it_t h_5_7 hf
          refine lv_tab (tgt := 168) hx hb dX11_block_29 (Or.inr ⟨139, by omega, by omega, by (rw [h_5_7]; decide), by decide⟩) ?_
          refine lv_aload_n hx hb dX11_block_168 rfl (lv_at hl 0 rfl) ?_
          refine gt_X11_40_cl hx hb hta hown hK hC dX11_block_169 ?_
          refine gt_X11_170_shape hx hb hta hown hK hC dX11_block_172 ?_
          refine lv_iload_n hx hb dX11_block_175 rfl (lv_at hl 1 rfl) ?_
          obtain ⟨v_14, hc_14, hf⟩ := calp_inv hf
          refine cc_Si (r_X11_isIn (D := D) (y := y) (w := WX y o σ) (ad := ad) (av := av) hc_14 l) hx hb hml hta hown hK hN hV hA hC hRc hRs (by omega) (by omega) wq_838 wq_37 wq_38 wq_33 hd_X11_isIn (As := [.long (σ.2 4 0), .int x1]) (rest := []) rfl rfl hl.1 rfl dX11_block_176 (fun H locs hC => ?_)
          refine lv_if_eq (tgt := 186) hx hb dX11_block_179 (by decide) (fun c_15 => ?_) (fun c_15 => ?_)
          · have hf := it_t c_15 hf
            refine lv_iconst (v := 0) hx hb dX11_block_186 (by decide) ?_
            exact hret _ _ _ _ _ _ (Option.some.inj hf) rfl rfl dX11_block_187 hC
          · have hf := it_f c_15 hf
            refine lv_iconst (v := 1) hx hb dX11_block_182 (by decide) ?_
            refine lv_goto (tgt := 187) hx hb dX11_block_183 (by decide) ?_
            exact hret _ _ _ _ _ _ (Option.some.inj hf) rfl rfl dX11_block_187 hC
        have hf := it_f h_5_7 hf
        by_cases h_5_8 : x2.toInt = 8
        · have hf := it_t h_5_8 hf
          refine lv_tab (tgt := 188) hx hb dX11_block_29 (Or.inr ⟨159, by omega, by omega, by (rw [h_5_8]; decide), by decide⟩) ?_
          refine lv_aload_n hx hb dX11_block_188 rfl (lv_at hl 0 rfl) ?_
          refine gt_X11_40_cl hx hb hta hown hK hC dX11_block_189 ?_
          refine gt_X11_160_shape hx hb hta hown hK hC dX11_block_192 ?_
          refine lv_iload_n hx hb dX11_block_195 rfl (lv_at hl 1 rfl) ?_
          obtain ⟨v_16, hc_16, hf⟩ := calp_inv hf
          refine cc_Si (r_X11_isIn (D := D) (y := y) (w := WX y o σ) (ad := ad) (av := av) hc_16 l) hx hb hml hta hown hK hN hV hA hC hRc hRs (by omega) (by omega) wq_838 wq_37 wq_38 wq_33 hd_X11_isIn (As := [.long (σ.2 2 0), .int x1]) (rest := []) rfl rfl hl.1 rfl dX11_block_196 (fun H locs hC => ?_)
          refine lv_if_eq (tgt := 206) hx hb dX11_block_199 (by decide) (fun c_17 => ?_) (fun c_17 => ?_)
          · have hf := it_t c_17 hf
            refine lv_iconst (v := 0) hx hb dX11_block_206 (by decide) ?_
            exact hret _ _ _ _ _ _ (Option.some.inj hf) rfl rfl dX11_block_207 hC
          · have hf := it_f c_17 hf
            refine lv_iconst (v := 1) hx hb dX11_block_202 (by decide) ?_
            refine lv_goto (tgt := 207) hx hb dX11_block_203 (by decide) ?_
            exact hret _ _ _ _ _ _ (Option.some.inj hf) rfl rfl dX11_block_207 hC
        have hf := it_f h_5_8 hf
        by_cases h_5_9 : x2.toInt = 9
        · have hf := it_t h_5_9 hf
          refine lv_tab (tgt := 208) hx hb dX11_block_29 (Or.inr ⟨179, by omega, by omega, by (rw [h_5_9]; decide), by decide⟩) ?_
          refine lv_aload_n hx hb dX11_block_208 rfl (lv_at hl 0 rfl) ?_
          refine gt_X11_56_cl hx hb hta hown hK hC dX11_block_209 ?_
          refine gt_X11_240_lifted hx hb hta hown hK hC dX11_block_212 ?_
          refine lv_iload_n hx hb dX11_block_215 rfl (lv_at hl 1 rfl) ?_
          refine lv_iconst (v := 1) hx hb dX11_block_216 (by decide) ?_
          refine lv_iadd hx hb dX11_block_217 ?_
          obtain ⟨hi_18, hf⟩ := ix_inv hf
          obtain ⟨v_18, e_18, hf⟩ := lt_inv hf
          refine al_X_52 hx hb hK hC hi_18 e_18 dX11_block_218 ?_
          refine lv_aload_n hx hb dX11_block_219 rfl (lv_at hl 0 rfl) ?_
          refine gt_X11_56_cl hx hb hta hown hK hC dX11_block_220 ?_
          refine gt_X11_240_lifted hx hb hta hown hK hC dX11_block_223 ?_
          refine lv_iload_n hx hb dX11_block_226 rfl (lv_at hl 1 rfl) ?_
          obtain ⟨hi_19, hf⟩ := ix_inv hf
          obtain ⟨v_19, e_19, hf⟩ := lt_inv hf
          refine al_X_52 hx hb hK hC hi_19 e_19 dX11_block_227 ?_
          refine lv_isub hx hb dX11_block_228 ?_
          exact hret _ _ _ _ _ _ (Option.some.inj hf) rfl rfl dX11_block_229 hC
        have hf := it_f h_5_9 hf
        by_cases h_5_10 : x2.toInt = 10
        · have hf := it_t h_5_10 hf
          refine lv_tab (tgt := 230) hx hb dX11_block_29 (Or.inr ⟨201, by omega, by omega, by (rw [h_5_10]; decide), by decide⟩) ?_
          refine lv_aload_n hx hb dX11_block_230 rfl (lv_at hl 0 rfl) ?_
          refine gt_X11_74_cl hx hb hta hown hK hC dX11_block_231 ?_
          refine gt_X11_241_liveness hx hb hta hown hK hC dX11_block_234 ?_
          refine lv_iload_n hx hb dX11_block_237 rfl (lv_at hl 1 rfl) ?_
          obtain ⟨hi_20, hf⟩ := ix_inv hf
          obtain ⟨v_20, e_20, hf⟩ := lt_inv hf
          refine al_X_61 hx hb hK hC hi_20 e_20 dX11_block_238 ?_
          exact hret _ _ _ _ _ _ (Option.some.inj hf) rfl rfl dX11_block_239 hC
        have hf := it_f h_5_10 hf
        by_cases h_5_11 : x2.toInt = 11
        · have hf := it_t h_5_11 hf
          refine lv_tab (tgt := 240) hx hb dX11_block_29 (Or.inr ⟨211, by omega, by omega, by (rw [h_5_11]; decide), by decide⟩) ?_
          refine lv_aload_n hx hb dX11_block_240 rfl (lv_at hl 0 rfl) ?_
          refine gt_X11_74_cl hx hb hta hown hK hC dX11_block_241 ?_
          refine gt_X11_244_liveness hx hb hta hown hK hC dX11_block_244 ?_
          refine lv_iload_n hx hb dX11_block_247 rfl (lv_at hl 1 rfl) ?_
          obtain ⟨hi_21, hf⟩ := ix_inv hf
          obtain ⟨v_21, e_21, hf⟩ := lt_inv hf
          refine al_X_62 hx hb hK hC hi_21 e_21 dX11_block_248 ?_
          exact hret _ _ _ _ _ _ (Option.some.inj hf) rfl rfl dX11_block_249 hC
        have hf := it_f h_5_11 hf
        refine lv_tab (tgt := 250) hx hb dX11_block_29 (Or.inl ⟨by omega, by decide⟩) ?_
        refine lv_aload_n hx hb dX11_block_250 rfl (lv_at hl 0 rfl) ?_
        refine gt_X11_31_cl hx hb hta hown hK hC dX11_block_251 ?_
        refine gt_X11_247_blocks hx hb hta hown hK hC dX11_block_254 ?_
        refine lv_iload_n hx hb dX11_block_257 rfl (lv_at hl 1 rfl) ?_
        obtain ⟨hi_22, hf⟩ := ix_inv hf
        obtain ⟨v_22, e_22, hf⟩ := lt_inv hf
        refine al_X_23 hx hb hK hC hi_22 e_22 dX11_block_258 ?_
        exact hret _ _ _ _ _ _ (Option.some.inj hf) rfl rfl dX11_block_259 hC
      · have hf := it_f c_4 hf
        cases hf
