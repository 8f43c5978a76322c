/-- blocks and kinds of lines lie in their ranges -/
def RNL (l : List Ln) : Prop := ∀ x : Ln, x ∈ l → 0 ≤ x.2.1 ∧ x.1 ≤ 11
theorem RNL.nil : RNL [] := fun x h => by simp at h
theorem RNL.app {l m : List Ln} (h : RNL l) (g : RNL m) : RNL (l ++ m) := fun x hx => by
  rcases List.mem_append.mp hx with z | z
  · exact h x z
  · exact g x z
theorem RNL.one {k b o : Int} (h0 : 0 ≤ b) (h1 : k ≤ 11) : RNL [(k, b, o)] := fun y hy => by
  rw [List.mem_singleton.mp hy]
  exact ⟨h0, h1⟩
theorem RNL.st {b a : Int} (hb : 0 ≤ b) : ∀ n, RNL (stLs b a n)
  | 0 => RNL.nil
  | n + 1 => (RNL.st hb n).app (RNL.one hb (by decide))
theorem RNL.at_ {l : List Ln} (h : RNL l) {i : Nat} {x : Ln} (hx : l[i]? = some x) : 0 ≤ x.2.1 ∧ x.1 ≤ 11 := h x (List.mem_of_getElem? hx)
theorem TEL.rng {σ : Sto} (h : LNW σ) : ∀ (d w b : Nat) (k : Int) (l : List Ln), TEL σ d w b k l → RNL l
  | 0, _, _, _, _, q => q.elim
  | d + 1, w, b, k, l, q => by
    have pb : ∀ c : Nat, (0 : Int) ≤ (c : Int) := fun c => Int.natCast_nonneg c
    rcases q with ⟨_, ⟨_, q⟩ | ⟨_, l1, q, e⟩⟩ | ⟨_, ⟨_, q⟩ | ⟨m, l1, l2, hm, _, _, q1, q2, e⟩⟩ | ⟨_, tl, e, q⟩ | ⟨_, e, e1, _, e3, ⟨_, q⟩ | ⟨_, _, q⟩ | ⟨_, _, q⟩ | ⟨fw, _, q⟩⟩
    · exact TEL.rng h d _ _ _ _ q
    · rw [e]; exact (RNL.one (pb _) (by decide)).app ((TEL.rng h d _ _ _ _ q).app (RNL.one (pb _) (by decide)))
    · exact TEL.rng h d _ _ _ _ q
    · rw [e]; exact (RNL.one (pb _) (by decide)).app ((TEL.rng h d _ _ _ _ q1).app ((RNL.one (pb _) (by decide)).app (TEL.rng h d _ _ _ _ q2)))
    · have ht : RNL tl := by
        rcases q with ⟨fk, l1, l2, q1, q2, e2⟩ | ⟨_, _, q⟩ | ⟨_, _, _, q⟩ | ⟨_, _, q⟩
        · rw [e2]; exact (RNL.one (pb _) (by decide)).app ((TEL.rng h d _ _ _ _ q1).app ((RNL.one (pb _) (by decide)).app ((TEL.rng h d _ _ _ _ q2).app (RNL.one (pb _) (by decide)))))
        · exact TEL.rng h d _ _ _ _ q
        · exact TEL.rng h d _ _ _ _ q
        · rw [q]; exact RNL.nil
      have ty : RNL (tyL σ b) := by
        unfold tyL
        by_cases z : (σ.1 25 b).toInt = -1
        · rw [if_pos z]; exact RNL.nil
        · rw [if_neg z]; exact RNL.one (pb _) (by decide)
      have ca : RNL (caL σ b) := by
        unfold caL
        by_cases z : (σ.1 25 b).toInt = -1
        · rw [if_pos z]; exact RNL.nil
        · rw [if_neg z]
          have g := gM_25 h.1 b
          exact RNL.one (by omega) (by decide)
      rw [e]; exact (RNL.one (pb _) (by decide)).app (ty.app ((RNL.st (pb _) _).app (ca.app ht)))
    · have k0 : 0 ≤ k := by rw [← e3]; exact (h.2.2.2.1.1 e e1).2.1.1
      rw [q]; exact RNL.one k0 (by decide)
    · have k0 : 0 ≤ k := by rw [← e3]; exact (h.2.2.2.1.1 e e1).2.1.1
      rw [q]; exact RNL.one k0 (by decide)
    · have k0 : 0 ≤ k := by rw [← e3]; exact (h.2.2.2.1.1 e e1).2.1.1
      rw [q]; exact RNL.one k0 (by decide)
    · exact TEL.rng h d _ _ _ _ q
/-- whatever lies in the rows is some lines -/
theorem atx_any {τ : Sto} {n : Nat} (h : (τ.1 68 0).toInt = (n : Int)) : ∃ l : List Ln, l.length = n ∧ ATX τ l ∧ ∀ i, i < n → kdL l i = (τ.1 69 i).toInt := by
  have key : ∀ i, i < n → ((List.range n).map (fun i => ((τ.1 69 i).toInt, (τ.1 70 i).toInt, (0 : Int))))[i]? = some ((τ.1 69 i).toInt, (τ.1 70 i).toInt, (0 : Int)) := fun i hi => by
    rw [List.getElem?_map, List.getElem?_range hi]
    rfl
  have ln : ((List.range n).map (fun i => ((τ.1 69 i).toInt, (τ.1 70 i).toInt, (0 : Int)))).length = n := by rw [List.length_map, List.length_range]
  refine ⟨_, ln, ⟨by rw [ln]; exact h, fun i x hx => ?_⟩, fun i hi => kdL_s (key i hi)⟩
  have hi := (List.getElem?_eq_some_iff.mp hx).1
  rw [ln] at hi
  rw [key i hi] at hx
  have e := Option.some.inj hx
  rw [← e]
  exact ⟨rfl, rfl⟩
/-- the class's lines that stay -/
def RWX (l : List Ln) (τ : Sto) : Prop := (τ.1 68 0).toInt = (fb_ct (kpl l) l.length : Int) ∧ ∀ i x, l[i]? = some x → kpl l i = true → (τ.1 69 (fb_ct (kpl l) i)).toInt = x.1 ∧ (τ.1 70 (fb_ct (kpl l) i)).toInt = x.2.1 ∧ τ.1 71 (fb_ct (kpl l) i) = dpD (kdL l) i ∧ (x.1 = 0 → (τ.1 72 (fb_ct (kpl l) i)).toInt = x.2.2)
theorem t_tellAll {σ s : Sto} {l : List Ln} {d : Nat} (W : WTL σ s) (t : TEL s d 0 0 0 l) (hn : l.length ≤ 800) : PC (f_X2_tellAll σ) (RWX l) := by
  have k_0 : (0 : Int32).toInt = 0 := by decide +kernel
  have c0 : (0 : Int32).toNatClampNeg = 0 := by have := clamp_I (x := 0) (by omega); omega
  have w1 := W.1
  have hb1 := w1.2.2.2.2.2.2.2.2
  have g33 := gM_33 w1.1 0
  have rn := TEL.rng w1 _ _ _ _ _ t
  have o5 := (TEL.onc w1 (by omega) t).on5
  have st := TEL.str _ _ _ _ _ t
  unfold f_X2_tellAll
  refine pc_lt fun s1 e1 => ?_
  refine pc_lt fun s2 e2 => ?_
  have f2 : FR MSl [] σ s2 := by
    rw [e2]; refine FR.st ?_ (by decide)
    rw [e1]; exact FR.st FR.rf (by decide)
  have z2 : (s2.1 68 0).toInt = ((0 : Nat) : Int) := by rw [e2, sti_o (by decide), e1, sti_s]; exact k_0
  refine pc_cals ((d_all W 250).1 0 0 s2 0 d l (by omega) (by rw [c0]; omega) (by omega) (by rw [c0]; unfold oR; omega) f2 (by rw [c0]; exact t) z2 (by omega)) (fun s3 a3 => ?_)
  obtain ⟨f3, n3, _, r3, d3⟩ := a3
  rw [Nat.zero_add] at n3 d3
  have A3 : ATX s3 l := ⟨n3, fun i x hx => by
    have q := r3 i x hx
    rw [Nat.zero_add] at q
    exact ⟨q.1, q.2.1⟩⟩
  have D3 := d3 ⟨by rw [e2, sti_s]; rfl, fun i hi => absurd hi (Nat.not_lt_zero i)⟩
  refine pc_cals (t_match A3) (fun s4 a4 => ?_)
  obtain ⟨f4, r4⟩ := a4
  have m := TEL.mt w1 (k0 := fun j => (s3.1 72 j).toInt) t
  unfold SEG at m
  rw [Nat.zero_add] at m
  have M4 : ∀ i z, l[i]? = some z → MTc l (fun j => (s4.1 72 j).toInt) i z := fun i z hz => by
    have il := (List.getElem?_eq_some_iff.mp hz).1
    exact (m.2.2.2 i z (Nat.zero_le _) (by omega) hz).1.cg (r4 i)
  have A4 : ATX s4 l := ⟨by rw [f4.1 68 (by decide)]; exact n3, fun i x hx => by
    rw [f4.1 69 (by decide), f4.1 70 (by decide)]
    exact A3.2 i x hx⟩
  refine pc_cals (t_leaveOut hn (fun i z hz => (rn.at_ hz).1) A4 M4 o5 st (fun i z hz => (rn.at_ hz).2)) (fun s5 a5 => ?_)
  obtain ⟨f5, r5⟩ := a5
  have at_ : ∀ i, i < l.length → l[i]? = some l[i]! := fun i hi => by
    rw [List.getElem?_eq_getElem hi, getElem!_pos l i hi]
  refine pc_cals (t_close (n := l.length) (by rw [f5.1 68 (by decide)]; exact A4.1) (kpl l) (fun i hi => ?_)) (fun s6 a6 => ?_)
  · have hz := at_ i hi
    have q := r5 i _ hz
    have k11 := (rn.at_ hz).2
    constructor
    · intro z w
      have := q.1 z
      omega
    · exact fun z => Classical.byContradiction fun w => z (q.2 w)
  obtain ⟨f6, n6, r6⟩ := a6
  obtain ⟨l2, e2l, A6, kd6⟩ := atx_any n6
  refine pc_cals (t_match A6) (fun s7 a7 => ?_)
  obtain ⟨f7, r7⟩ := a7
  refine pc_ret ⟨by rw [f7.1 68 (by decide)]; exact n6, fun i x hx hk => ?_⟩
  have il := (List.getElem?_eq_some_iff.mp hx).1
  obtain ⟨y1, y2, y3, y4⟩ := r6 i il hk
  have k5 := (r5 i x hx).1 hk
  have p3 := r3 i x hx
  rw [Nat.zero_add] at p3
  refine ⟨?_, ?_, ?_, fun z => ?_⟩
  · rw [f7.1 69 (by decide), y1]
    exact k5
  · rw [f7.1 70 (by decide), y2, f5.1 70 (by decide), f4.1 70 (by decide)]
    exact p3.2.1
  · rw [f7.1 71 (by decide), y3, f5.1 71 (by decide), f4.1 71 (by decide), D3.2 i il]
    refine dpD_cg (fun j hj => ?_)
    have hz := at_ j (by omega)
    rw [kdL_s hz]
    exact (A3.2 j _ hz).1
  · have cl : fb_ct (kpl l) i < fb_ct (kpl l) l.length := by
      have a1 : fb_ct (kpl l) (i + 1) = fb_ct (kpl l) i + 1 := by rw [fb_ct_succ, if_pos hk]
      have a2 := fb_ct_mono (kpl l) (m := i + 1) (n := l.length) (by omega)
      omega
    have kd : kdL l2 (fb_ct (kpl l) i) = 0 := by rw [kd6 _ cl, y1, k5, z]
    have pl0 : plK (kdL l2 (fb_ct (kpl l) i)) := by rw [kd]; exact pl_dec (Or.inl rfl)
    rw [r7, mrun_pl _ _ pl0]
    show (s6.1 72 (fb_ct (kpl l) i)).toInt = x.2.2
    rw [y4, f5.1 72 (by decide), r4]
    have pl1 : plK (kdL l i) := by rw [kdL_s hx, z]; exact pl_dec (Or.inl rfl)
    rw [mrun_pl _ _ pl1]
    exact p3.2.2 z
/-- the class tells its lines where nothing is tangled -/
theorem AD4.lns {σ : Sto} (h : AD4 σ) : ((σ.1 34 0).toInt = 0 → ∃ s7 s8, f_X2_tellAll s7 = some s8 ∧ (∀ k, 20 ≤ k → k < 68 → s7.1 k = σ.1 k) ∧ (∀ k, s7.2 k = σ.2 k) ∧ ∀ k, 68 ≤ k → k ≤ 77 → σ.1 k = s8.1 k) := by
  obtain ⟨s5, a, g, ⟨s1, s2, s3, s4, s5', s6, s7, s8, ⟨a0, a1, a2, a3, a4, a5⟩, ⟨b0, b1, b2, b3, b4, b5, b6, b7, b8, b9, b10, b11⟩, ⟨c0, c1, c2, c3⟩, ⟨d0, d1, d2, d3⟩, ⟨e0, e1, e2⟩, ⟨f0, f1, f2⟩, ⟨g0, g1⟩, ⟨h0, h1⟩, i0⟩, q⟩ := h.tr
  intro z
  have r : ∀ k, 20 ≤ k → k ≤ 77 → σ.1 k = s8.1 k := fun k k1 k2 => by
    rw [q.1 k (by simp only [kx4, Bool.or_eq_true, Bool.and_eq_true, decide_eq_true_eq, beq_iff_eq]; omega), i0, sti_o (by omega)]
  have r7 : ∀ k, 20 ≤ k → k < 68 → s7.1 k = σ.1 k := fun k k1 k2 => by
    rw [r k k1 (by omega), h1.bl (c := 68) rfl k2]
  have k_0 : (0 : Int32).toInt = 0 := by decide +kernel
  rcases h0 with ⟨_, t, _⟩ | ⟨w, _⟩
  · refine ⟨s7, s8, t, r7, fun k => ?_, fun k k1 k2 => r k (by omega) k2⟩
    rw [q.2 k, i0]
    exact (h1.2 k List.not_mem_nil).symm
  · rw [r7 34 (by omega) (by omega)] at w
    exact absurd (by rw [fa_eq, k_0]; exact z) w
