section
variable {V W : EVt} {sg sg2 : Nat → Int} {nv nv2 : Nat → Int32} {fi fi2 la la2 : Nat → Nat} {ca ca2 : Nat → Int} {nb : Nat}
theorem hdF_cg {L M : Nat → Int32} {b : Nat} (hR : RGL W ca2 nb) (hb : b < nb) (e : ca b = ca2 b) (hL : ∀ c, c < nb → L c = M c) : hdF ca L b = hdF ca2 M b := by
  unfold hdF
  rw [e]
  by_cases c : ca2 b = -1
  · rw [if_pos c, if_pos c]
  · rw [if_neg c, if_neg c]; exact hL _ ((hR.2 b hb).resolve_left c)
theorem bhF_cg2 {L M : Nat → Int32} {b : Nat} (hV : AGV V W) (hR : RGL W ca2 nb) (hL : ∀ c, c < nb → L c = M c) : bhF V L b V.1 = bhF W M b W.1 := by
  rw [← hV.1]
  exact bhF_cg V.1 (fun k hk => ⟨(hV.2 k hk).1, (hV.2 k hk).2.1, hL _ (hR.1 k (by rw [← hV.1]; exact hk))⟩)
/-- what liveness is laid of -/
def EQl (sg sg2 : Nat → Int) (nv nv2 : Nat → Int32) (fi fi2 la la2 : Nat → Nat) (ca ca2 : Nat → Int) (nb : Nat) : Prop := ∀ b, b < nb → fi b = fi2 b ∧ la b = la2 b ∧ ca b = ca2 b ∧ ∀ i, fi b ≤ i → i ≤ la b → sg i = sg2 i ∧ nv i = nv2 i
theorem lvF_cg {L M : Nat → Int32} {b : Nat} (hV : AGV V W) (hR : RGL W ca2 nb) (h : EQl sg sg2 nv nv2 fi fi2 la la2 ca ca2 nb) (hb : b < nb) (hL : ∀ c, c < nb → L c = M c) : lvF V sg nv fi la ca L b = lvF W sg2 nv2 fi2 la2 ca2 M b := by
  obtain ⟨e1, e2, e3, e4⟩ := h b hb
  unfold lvF
  rw [hdF_cg hR hb e3 hL, bhF_cg2 (b := b) hV hR hL, ← e1, ← e2, goF_cg (sg2 := sg2) (nv2 := nv2) (la b + 1 - fi b) (fun k hk => e4 (la b - k) (by omega) (by omega))]
theorem LVD_cg {L M : Nat → Int32} {b i : Nat} (hV : AGV V W) (hR : RGL W ca2 nb) (h : EQl sg sg2 nv nv2 fi fi2 la la2 ca ca2 nb) (hb : b < nb) (hL : ∀ c, c < nb → L c = M c) (h1 : fi b ≤ i) (h2 : i ≤ la b) : LVD V sg nv la ca L b i ↔ LVD W sg2 nv2 la2 ca2 M b i := by
  obtain ⟨e1, e2, e3, e4⟩ := h b hb
  unfold LVD
  rw [hdF_cg hR hb e3 hL, bhF_cg2 (b := b) hV hR hL, ← e2, (e4 i h1 h2).1, (e4 i h1 h2).2, goF_cg (sg2 := sg2) (nv2 := nv2) (la b - i) (fun k hk => e4 (la b - k) (by omega) (by omega))]
theorem LFX.cg {L : Nat → Int32} (hV : AGV V W) (hR : RGL W ca2 nb) (h : EQl sg sg2 nv nv2 fi fi2 la la2 ca ca2 nb) (g : LFX V sg nv fi la ca nb L) : LFX W sg2 nv2 fi2 la2 ca2 nb L := ⟨fun b hb => (lvF_cg hV hR h hb (fun _ _ => rfl)).symm.trans (g.1 b hb), fun M hM b hb => g.2 M (fun c hc => (SBt.of (lvF_cg hV hR h hc (fun _ _ => rfl))).tr (hM c hc)) b hb⟩
end
theorem EDX.fex {s : Sto} (h : EDX s) (hB : BX s) {b : Nat} (hb : b < nX s) : FEX s b := by
  obtain ⟨⟨V, _, v1, v2, v3, v4⟩, hx⟩ := h
  have g27 := gX_28 hB b
  obtain ⟨q1, q2⟩ := v3 b hb
  refine ⟨q1.1, q1.2, ?_, fun e he => ⟨q2 e he, ?_⟩⟩
  · by_cases c : b + 1 < nX s
    · exact (v3 (b + 1) c).1.2
    · rw [show b + 1 = (s.1 20 0).toInt.toNat from (by have := hb; unfold nX at this c; omega)]
      exact Int.le_of_eq hx
  · by_cases c : b + 1 < nX s
    · have := (v3 (b + 1) c).2 e he
      omega
    · have e1 : b + 1 = (s.1 20 0).toInt.toNat := by unfold nX at hb c; omega
      have r := v2 e he
      rw [e1, hx]
      omega
theorem AD4.flx {σ : Sto} (h : AD4 σ) (hF : ∀ b, b < nX σ → FIL σ b) (hR : RGL (EVx σ) (ri (σ.1 26)) (nX σ)) : FLX σ σ := by
  have hX := h.edx
  obtain ⟨s5, a, g, ⟨s1, s2, s3, s4, t, s6, s7, s8, ⟨a0, a1, a2, a3, a4, a5⟩, ⟨b0, b1, b2, b3, b4, b5, b6, b7, b8, b9, b10, b11⟩, ⟨c0, c1, c2, c3⟩, ⟨d0, d1, d2, d3⟩, ⟨e0, e1, e2⟩, ⟨f0, f1, f2⟩, ⟨g0, g1⟩, ⟨h0, h1⟩, i0⟩, q⟩ := h.tr
  have r6 : ∀ k, 20 ≤ k → k < 68 → σ.1 k = s6.1 k := fun k k1 k2 => by
    rw [q.1 k (by simp only [kx4, Bool.or_eq_true, Bool.and_eq_true, decide_eq_true_eq, beq_iff_eq]; omega), i0, sti_o (by omega), h1.bl (c := 68) rfl k2, g0, sti_o (by omega)]
  have r6b : ∀ k, 4 ≤ k → k < 12 → σ.1 k = s6.1 k := fun k k1 k2 => by
    rw [q.1 k (by simp only [kx4, Bool.or_eq_true, Bool.and_eq_true, decide_eq_true_eq, beq_iff_eq]; omega), i0, sti_o (by omega), h1.bl (c := 68) rfl (by omega), g0, sti_o (by omega)]
  have rt : ∀ k, (20 ≤ k ∧ k < 66) ∨ (4 ≤ k ∧ k < 12) → t.1 k = σ.1 k := fun k hk => by
    have e : σ.1 k = s6.1 k := by
      rcases hk with z | z
      · exact r6 k z.1 (by omega)
      · exact r6b k z.1 z.2
    rw [e, f2.bl (c := 66) rfl (by omega)]
  have l6 : ∀ k, σ.2 k = s6.2 k := fun k => by
    have l : s8.2 k = s7.2 k := h1.2 k List.not_mem_nil
    rw [q.2 k, i0]
    show s8.2 k = _
    rw [l, g0]
    rfl
  have lt : t.2 0 = σ.2 0 := by rw [l6 0, f2.bll (c := 6) rfl (by decide)]
  have nt : nX t = nX σ := by unfold nX; rw [rt 20 (by decide)]
  have g1' : EVx t = EVx σ := EVw.cg (rt 27 (by decide)) (rt 29 (by decide)) (rt 30 (by decide)) (rt 31 (by decide))
  have g4' : fiN t = fiN σ := fiN_cg (rt 21 (by decide))
  have g5' : laN t = laN σ := laN_cg (rt 22 (by decide))
  have tX : EDX t := hX.cg (fun k k1 k2 k3 => rt k (by omega)) lt
  have g20 := gX_20 e1 0
  have hq := (t_X4_flow (σ := t) g20.1 g20.2 (fun b hb => tX.fex e1 hb) (fun b hb => by
    unfold FIL
    rw [rt 21 (by decide), rt 22 (by decide)]
    rw [nt] at hb
    exact hF b hb) (by rw [g1', rt 26 (by decide), nt]; exact hR) s6 f0).2
  unfold FLX FIN LFXx lvX LDX at hq
  rw [g1', rt 6 (by decide), rt 7 (by decide), g4', g5', rt 26 (by decide), nt, ← r6 66 (by decide) (by decide), ← r6 67 (by decide) (by decide), ← l6 6] at hq
  exact hq
theorem LY4.flm {s : Sto} (h : LY4 s) (hB : BM s) (hF : ∀ b, b < nB s → FIM s b) (hR : RGL (EVm s) (ri (s.1 25)) (nB s)) (hD : DSJ s) : FLM s s := by
  obtain ⟨s7, b, ⟨s1, s2, s3, s4, s5, s6, s7', t, s9, _, _, _, _, _, _, _, ⟨z8, B8, f8⟩, ⟨z9, B9, f9⟩, ⟨z10, B10, f10⟩⟩, q⟩ := h.tr
  have r9 : ∀ k, (9 ≤ k ∧ k ≤ 11) ∨ k = 15 ∨ k = 16 ∨ (20 ≤ k ∧ k < 58) → s.1 k = s9.1 k := fun k hk => by
    rw [q.1 k (by simp only [km4, Bool.or_eq_true, Bool.and_eq_true, decide_eq_true_eq, beq_iff_eq]; omega), f10.bl (c := 58) rfl (by omega)]
  have rt : ∀ k, (9 ≤ k ∧ k ≤ 11) ∨ k = 15 ∨ k = 16 ∨ (20 ≤ k ∧ k < 55) → t.1 k = s.1 k := fun k hk => by
    rw [r9 k (by omega), f9.bl (c := 55) rfl (by omega)]
  have g1 : EVm t = EVm s := EVw.cg (rt 32 (by decide)) (rt 27 (by decide)) (rt 28 (by decide)) (rt 29 (by decide))
  have g4 : fiR t = fiR s := funext fun b => by unfold fiR; rw [rt 22 (by decide)]
  have g5 : laR t = laR s := funext fun b => by unfold laR; rw [rt 23 (by decide)]
  have nt : nB t = nB s := by unfold nB; rw [rt 26 (by decide)]
  have g26 := gM_26 B8 0
  have g32 := gM_32 B8 0
  have hq := (t_laysLiveM (σ := t) g26.1 g26.2 g32.1 (fun b hb => by
    unfold FIM
    rw [rt 22 (by decide), rt 23 (by decide)]
    rw [nt] at hb
    exact hF b hb) (by rw [g1, rt 25 (by decide), nt]; exact hR) (by
    unfold DSJ
    rw [nt, g4, g5]
    exact hD) s9 z9).2
  unfold FLM LFXm LDM at hq
  rw [g1, rt 9 (by decide), rt 10 (by decide), g4, g5, rt 25 (by decide), nt, ← r9 55 (by decide), ← r9 56 (by decide), ← r9 57 (by decide)] at hq
  exact hq
theorem BK.dsj {s : Sto} (hB : BM s) (hQ : QL s) (hK : BK s) : DSJ s := by
  have key : ∀ b i, b < nB s → fiR s b ≤ i → i ≤ laR s b → cbP (dP s) (cT s) (i + 1) = b + 1 := fun b i hb h1 h2 => by
    obtain ⟨k1, k2, k3, k4, k5, k6, k7, k8, k9⟩ := hK.at_ hB hQ hb
    have a := cbP_t k5
    have c1 := cbP_le (d := dP s) (ct := cT s) (i := fiR s b + 1) (j := i + 1) (by omega)
    have c2 := cbP_le (d := dP s) (ct := cT s) (i := i + 1) (j := laR s b + 1) (by omega)
    omega
  intro b c i hb hc h1 h2 h3 h4
  have x := key b i hb h1 h2
  have y := key c i hc h3 h4
  omega
/-- liveness on both sides -/
def LVQ (σ s : Sto) : Prop := (∀ b, b < nB s → σ.1 66 b = s.1 55 b ∧ σ.1 67 b = s.1 56 b) ∧ ∀ i, i < 40 → (bL (σ.2 6 0) i = true ↔ (s.1 57 i).toInt ≠ 0)
theorem JT4.live {σ s : Sto} (h : JT4 σ s) (hl : (σ.1 0 0).toInt ≠ 0) : LVQ σ s := by
  obtain ⟨A, L, D, K, hl2⟩ := h.laid hl
  obtain ⟨B, Q, KM, E⟩ := D.p
  obtain ⟨n, q2, q3, q4⟩ := h.eqe hl
  have hn : nX σ = nB s := n
  have hRm : RGL (EVm s) (ri (s.1 25)) (nB s) := by
    refine ⟨fun e he => ?_, fun b hb => ?_⟩
    · have x := (E.1 e he).2.1
      have x3 : (s.1 28 e).toInt = eT s e := rfl
      show (s.1 28 e).toInt.toNat < nB s
      omega
    · have x := E.2.2.2.2.2 b hb
      have x2 : ri (s.1 25) b = (s.1 25 b).toInt := rfl
      omega
  have hRx : RGL (EVx σ) (ri (σ.1 26)) (nX σ) := by
    rw [hn]
    refine ⟨fun e he => ?_, fun b hb => ?_⟩
    · rw [(q4.2 e he).2.1]
      exact hRm.1 e (by rw [← q4.1]; exact he)
    · have x : ri (σ.1 26) b = ri (s.1 25) b := (q2 b hb).2.2
      rw [x]; exact hRm.2 b hb
  have KA := fun b hb => KM.at_ (b := b) B Q hb
  have hFm : ∀ b, b < nB s → FIM s b := fun b hb => by
    obtain ⟨k1, k2, k3, _⟩ := KA b hb
    have g := gM_22 B b
    exact ⟨g.1, by omega⟩
  have hFx : ∀ b, b < nX σ → FIL σ b := fun b hb => by
    rw [hn] at hb
    have x := hFm b hb
    unfold FIM at x
    unfold FIL
    rw [(q2 b hb).1, (q2 b hb).2.1]; exact x
  have X := A.flx hFx hRx
  have M := L.flm B hFm hRm (KM.dsj B Q)
  have eq : EQl (ri (σ.1 6)) (ri (s.1 9)) (σ.1 7) (s.1 10) (fiN σ) (fiR s) (laN σ) (laR s) (ri (σ.1 26)) (ri (s.1 25)) (nB s) := fun b hb => by
    obtain ⟨k1, k2, k3, k4, _⟩ := KA b hb
    have e1 : fiN σ b = fiR s b := by show (σ.1 21 b).toInt.toNat = (s.1 22 b).toInt.toNat; rw [(q2 b hb).1]
    have e2 : laN σ b = laR s b := by show (σ.1 22 b).toInt.toNat = (s.1 23 b).toInt.toNat; rw [(q2 b hb).2.1]
    refine ⟨e1, e2, (q2 b hb).2.2, fun i h1 h2 => ?_⟩
    rcases h.1.2 with ⟨z, _⟩ | ⟨z1, z2, z3, z4, z5, z6, z7, z8⟩
    · exact absurd z hl
    · have q := z5 i (show i < nC s by omega)
      exact ⟨by unfold ri; rw [q.1], q.2⟩
  obtain ⟨x1, x2, x3⟩ := X
  obtain ⟨m1, m2, m3⟩ := M
  have x1' : LFX (EVm s) (ri (s.1 9)) (s.1 10) (fiR s) (laR s) (ri (s.1 25)) (nB s) (σ.1 66) := by
    unfold LFXx at x1
    rw [hn] at x1
    exact x1.cg q4 hRm eq
  have ee : ∀ b, b < nB s → σ.1 66 b = s.1 55 b := x1'.uq m1
  refine ⟨fun b hb => ⟨ee b hb, ?_⟩, fun i hi => ?_⟩
  · rw [(x2 b (by omega) (by omega)).2, m2 b hb]
    exact bhF_cg2 q4 hRm ee
  · rw [x3 i, m3 i hi]
    constructor
    · rintro ⟨c, _, c1, c2, c3, c4⟩
      have hc : c < nB s := by omega
      obtain ⟨e1, e2, _⟩ := eq c hc
      exact ⟨c, hc, by omega, by omega, (LVD_cg q4 hRm eq hc ee c2 c3).mp c4⟩
    · rintro ⟨c, hc, c2, c3, c4⟩
      obtain ⟨e1, e2, _⟩ := eq c hc
      exact ⟨c, by omega, by omega, by omega, by omega, (LVD_cg q4 hRm eq hc ee (by omega) (by omega)).mpr c4⟩
