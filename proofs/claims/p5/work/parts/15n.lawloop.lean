set_option maxHeartbeats 8000000 in
set_option maxRecDepth 100000 in
theorem law_loop {p : Program} {e : Env} {s : State} {m : MethodId} {below : List Frame} {meth : Method} {c : Code} (l : Launch) (hfl : l.stackTraces = false) {b L : Nat} {xs : Nat → Int32} (C0 : lw_At p s m meth c b L xs) {D : va_G} {y : Nat → ClassId} {ad av : Nat → Nat} {sa1 sa2 : Nat} (E0 : LEn D y ad av sa1 sa2 s) {om ox : Nat → Nat} {a3 : Nat} (hL : L ≤ 3584) : ∀ (n : Nat) {H : Heap} {locs : List Loc} {cells slots : Nat} {σ τ : Sto} {f : Nat → Int64} {i : Int32} (ls : Array Slot), JT σ τ → CZ D (ALs s) s H locs (LWd y om ox a3 τ σ f) → 0 ≤ i.toInt → i.toInt ≤ 3584 → (L : Int) < i.toInt + 7 * (n : Int) → cells + n ≤ 601024 → slots + 6 * n ≤ 7293034 → lv_has ls 7 [(4, .int i), (3, .ref a3), (2, .ref (om 0)), (1, .ref (ox 0)), (0, .ref b)] → W p l e room_1 s m #[Value.ref b] below meth c H locs cells slots (lw_Z below #[Value.ref b] s) (F0 m 23 ls []) := by
  have hC0 := C0
  obtain ⟨hx, hb, hr, hml, hown, hts, hX, hbl, hlocks, hgv⟩ := C0
  have hown : s.vm.findClass RL = some m.cls := hown
  have hbA : ¬ ALs s b := Nat.not_le.mpr hbl
  have h7 := len7 hL
  intro n
  induction n with
  | zero =>
    intro H locs cells slots σ τ f i ls hJ hC hi hi3 hn hcc hss hl
    refine lv_iload hx hb dL_law_23 (lv_at hl 0 rfl) ?_
    refine lv_aload_n hx hb dL_law_25 rfl (lv_at hl 4 rfl) ?_
    refine va_slen hx hb hX hbl hbA hC.2.2 dL_law_26 ?_
    refine lv_bipush (v := 7) hx hb dL_law_27 (by decide) ?_
    refine lv_isub hx hb dL_law_29 ?_
    refine lv_icmp_gt (tgt := 981) hx hb dL_law_30 (by decide) (fun c_3 => ?_) (fun c_3 => ?_)
    · refine lv_iconst (v := 1) hx hb dL_law_981 (by decide) ?_
      refine va_forget (fun q hq => hC.2.2.2.2 q hq) ?_
      refine W.widen (k := 601024) (n := 7293034) (by omega) (by omega) ?_
      exact lw_ret hx hb hr hlocks dL_law_982
    · rw [fa_lt, h7] at c_3; omega
  | succ n ih =>
    intro H locs cells slots σ τ f i ls hJ hC hi hi3 hn hcc hss hl
    refine lv_iload hx hb dL_law_23 (lv_at hl 0 rfl) ?_
    refine lv_aload_n hx hb dL_law_25 rfl (lv_at hl 4 rfl) ?_
    refine va_slen hx hb hX hbl hbA hC.2.2 dL_law_26 ?_
    refine lv_bipush (v := 7) hx hb dL_law_27 (by decide) ?_
    refine lv_isub hx hb dL_law_29 ?_
    refine lv_icmp_gt (tgt := 981) hx hb dL_law_30 (by decide) (fun c_3 => ?_) (fun c_3 => ?_)
    · refine lv_iconst (v := 1) hx hb dL_law_981 (by decide) ?_
      refine va_forget (fun q hq => hC.2.2.2.2 q hq) ?_
      refine W.widen (k := 601024) (n := 7293034) (by omega) (by omega) ?_
      exact lw_ret hx hb hr hlocks dL_law_982
    · rw [fa_lt, h7] at c_3
      have hi2 : i.toInt + 7 ≤ (L : Int) := by omega
      have kk : ∀ (H1 : Heap) (locs1 : List Loc) (σ1 τ1 : Sto) (f1 : Nat → Int64) (cells1 slots1 : Nat) (ls1 : Array Slot), JT σ1 τ1 → CZ D (ALs s) s H1 locs1 (LWd y om ox a3 τ1 σ1 f1) → cells1 ≤ cells + 1 → slots1 ≤ slots + 6 → lv_has ls1 7 [(4, .int i), (3, .ref a3), (2, .ref (om 0)), (1, .ref (ox 0)), (0, .ref b)] → W p l e room_1 s m #[Value.ref b] below meth c H1 locs1 cells1 slots1 (lw_Z below #[Value.ref b] s) (F0 m 975 ls1 []) := by
        intro H1 locs1 σ1 τ1 f1 cells1 slots1 ls1 hJ1 hC1 hc1 hs1 hl1
        have e7 := add7 hi (by omega)
        refine lv_iinc (v := i + Int32.ofInt 7) (lv' := [(4, .int (i + Int32.ofInt 7)), (3, .ref a3), (2, .ref (om 0)), (1, .ref (ox 0)), (0, .ref b)]) hx hb dL_law_975 hl1 (k := 0) rfl rfl (by decide) rfl (fun ls hl => ?_)
        refine lv_goto (tgt := 23) hx hb dL_law_978 (by decide) ?_
        exact ih ls hJ1 hC1 (by omega) (by omega) (by omega) (by omega) (by omega) hl
      refine lv_aload_n hx hb dL_law_33 rfl (lv_at hl 4 rfl) ?_
      refine lv_iload hx hb dL_law_34 (lv_at hl 0 rfl) ?_
      refine va_sld hx hb hX hbl hbA hC.2.2 (vp_0 hi hi2) dL_law_36 ?_
      refine lv_bipush (v := 31) hx hb dL_law_37 (by decide) ?_
      refine lv_iand hx hb dL_law_39 ?_
      refine lv_topi (fun v_4 e_4 => ?_)
      obtain ⟨j, hj, ej⟩ := pk_andE (xs (Int32.toNatClampNeg i)) (m := 31) 5 (by decide)
      obtain rfl : v_4 = nI j := by rw [e_4]; exact ej
      rcases (show j = 0 ∨ j = 1 ∨ j = 2 ∨ j = 3 ∨ j = 4 ∨ j = 5 ∨ j = 6 ∨ j = 7 ∨ j = 8 ∨ j = 9 ∨ j = 10 ∨ j = 11 ∨ j = 12 ∨ j = 13 ∨ j = 14 ∨ j = 15 ∨ j = 16 ∨ j = 17 ∨ j = 18 ∨ j = 19 ∨ j = 20 ∨ 21 ≤ j by omega) with rfl | rfl | rfl | rfl | rfl | rfl | rfl | rfl | rfl | rfl | rfl | rfl | rfl | rfl | rfl | rfl | rfl | rfl | rfl | rfl | rfl | hj2
      · refine lv_tableIn (off := 100) (tgt := 140) hx hb dL_law_40 (by decide) (by decide) (by decide) (by decide) ?_
        exact law_case_0 l hfl hC0 E0 hJ hC (by omega) (by omega) hi hi2 hL ls hl kk
      · refine lv_tableIn (off := 173) (tgt := 213) hx hb dL_law_40 (by decide) (by decide) (by decide) (by decide) ?_
        exact law_case_1 l hfl hC0 E0 hJ hC (by omega) (by omega) hi hi2 hL ls hl kk
      · refine lv_tableIn (off := 198) (tgt := 238) hx hb dL_law_40 (by decide) (by decide) (by decide) (by decide) ?_
        exact law_case_2 l hfl hC0 E0 hJ hC (by omega) (by omega) hi hi2 hL ls hl kk
      · refine lv_tableIn (off := 211) (tgt := 251) hx hb dL_law_40 (by decide) (by decide) (by decide) (by decide) ?_
        exact law_case_3 l hfl hC0 E0 hJ hC (by omega) (by omega) hi hi2 hL ls hl kk
      · refine lv_tableIn (off := 224) (tgt := 264) hx hb dL_law_40 (by decide) (by decide) (by decide) (by decide) ?_
        exact law_case_4 l hfl hC0 E0 hJ hC (by omega) (by omega) hi hi2 hL ls hl kk
      · refine lv_tableIn (off := 273) (tgt := 313) hx hb dL_law_40 (by decide) (by decide) (by decide) (by decide) ?_
        exact law_case_5 l hfl hC0 E0 hJ hC (by omega) (by omega) hi hi2 hL ls hl kk
      · refine lv_tableIn (off := 298) (tgt := 338) hx hb dL_law_40 (by decide) (by decide) (by decide) (by decide) ?_
        exact law_case_6 l hfl hC0 E0 hJ hC (by omega) (by omega) hi hi2 hL ls hl kk
      · refine lv_tableIn (off := 338) (tgt := 378) hx hb dL_law_40 (by decide) (by decide) (by decide) (by decide) ?_
        exact law_case_7 l hfl hC0 E0 hJ hC (by omega) (by omega) hi hi2 hL ls hl kk
      · refine lv_tableIn (off := 378) (tgt := 418) hx hb dL_law_40 (by decide) (by decide) (by decide) (by decide) ?_
        exact law_case_8 l hfl hC0 E0 hJ hC (by omega) (by omega) hi hi2 hL ls hl kk
      · refine lv_tableIn (off := 415) (tgt := 455) hx hb dL_law_40 (by decide) (by decide) (by decide) (by decide) ?_
        exact law_case_9 l hfl hC0 E0 hJ hC (by omega) (by omega) hi hi2 hL ls hl kk
      · refine lv_tableIn (off := 452) (tgt := 492) hx hb dL_law_40 (by decide) (by decide) (by decide) (by decide) ?_
        exact law_case_10 l hfl hC0 E0 hJ hC (by omega) (by omega) hi hi2 hL ls hl kk
      · refine lv_tableIn (off := 477) (tgt := 517) hx hb dL_law_40 (by decide) (by decide) (by decide) (by decide) ?_
        exact law_case_11 l hfl hC0 E0 hJ hC (by omega) (by omega) hi hi2 hL ls hl kk
      · refine lv_tableIn (off := 526) (tgt := 566) hx hb dL_law_40 (by decide) (by decide) (by decide) (by decide) ?_
        exact law_case_12 l hfl hC0 E0 hJ hC (by omega) (by omega) hi hi2 hL ls hl kk
      · refine lv_tableIn (off := 563) (tgt := 603) hx hb dL_law_40 (by decide) (by decide) (by decide) (by decide) ?_
        exact law_case_13 l hfl hC0 E0 hJ hC (by omega) (by omega) hi hi2 hL ls hl kk
      · refine lv_tableIn (off := 600) (tgt := 640) hx hb dL_law_40 (by decide) (by decide) (by decide) (by decide) ?_
        exact law_case_14 l hfl hC0 E0 hJ hC (by omega) (by omega) hi hi2 hL ls hl kk
      · refine lv_tableIn (off := 637) (tgt := 677) hx hb dL_law_40 (by decide) (by decide) (by decide) (by decide) ?_
        exact law_case_15 l hfl hC0 E0 hJ hC (by omega) (by omega) hi hi2 hL ls hl kk
      · refine lv_tableIn (off := 674) (tgt := 714) hx hb dL_law_40 (by decide) (by decide) (by decide) (by decide) ?_
        exact law_case_16 l hfl hC0 E0 hJ hC (by omega) (by omega) hi hi2 hL ls hl kk
      · refine lv_tableIn (off := 761) (tgt := 801) hx hb dL_law_40 (by decide) (by decide) (by decide) (by decide) ?_
        exact law_case_17 l hfl hC0 E0 hJ hC (by omega) (by omega) hi hi2 hL ls hl kk
      · refine lv_tableIn (off := 848) (tgt := 888) hx hb dL_law_40 (by decide) (by decide) (by decide) (by decide) ?_
        exact law_case_18 l hfl hC0 E0 hJ hC (by omega) (by omega) hi hi2 hL ls hl kk
      · refine lv_tableIn (off := 873) (tgt := 913) hx hb dL_law_40 (by decide) (by decide) (by decide) (by decide) ?_
        exact law_case_19 l hfl hC0 E0 hJ hC (by omega) (by omega) hi hi2 hL ls hl kk
      · refine lv_tableIn (off := 910) (tgt := 950) hx hb dL_law_40 (by decide) (by decide) (by decide) (by decide) ?_
        exact law_case_20 l hfl hC0 E0 hJ hC (by omega) (by omega) hi hi2 hL ls hl kk
      · refine lv_tableOut (tgt := 975) hx hb dL_law_40 (Or.inr (by rw [nI_toInt (by omega)]; omega)) (by decide) ?_
        exact kk _ _ _ _ _ _ _ _ hJ hC (by omega) (by omega) hl
