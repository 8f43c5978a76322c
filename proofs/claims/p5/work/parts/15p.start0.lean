theorem gd_all {L : List Int} {d : Int} {P : Int → Prop} (h : ∀ x ∈ L, P x) (hd : P d) (k : Nat) : P (L.getD k d) := by
  rw [List.getD_eq_getElem?_getD]
  cases e : L[k]? with
  | none => exact hd
  | some x => exact h x (List.mem_of_getElem? e)
theorem BD.zero {lo hi : Nat → Int} (h1 : ∀ k, lo k ≤ 0) (h2 : ∀ k, 0 ≤ hi k) : BD lo hi ZS := fun k _ => ⟨h1 k, h2 k⟩
theorem JT0 : JT ZS ZS := by
  have z : (0 : Int32).toInt = 0 := by decide +kernel
  have bx : BX ZS := BD.zero (fun k => by unfold loX; exact gd_all (P := fun x => x ≤ 0) (by decide +kernel) (by decide) k) (fun k => by unfold hiX; exact gd_all (P := fun x => 0 ≤ x) (by decide +kernel) (by decide) k)
  have bm : BM ZS := BD.zero (fun k => by unfold loM; exact gd_all (P := fun x => x ≤ 0) (by decide +kernel) (by decide) k) (fun k => by unfold hiM; exact gd_all (P := fun x => 0 ≤ x) (by decide +kernel) (by decide) k)
  refine ⟨⟨bx, fun e => ?_, fun e => ?_, fun e => ?_, ?_, fun b _ => ?_, fun b i h => ?_, ⟨fun e h => ?_, fun h => ?_, fun e h => ?_⟩, fun i h => ?_, fun b h => ?_, fun b h => ?_, fun i h => ?_⟩, ⟨bm, Or.inl z, rfl, rfl⟩, rfl⟩
  · show T1 e 0 0 0
    have nu : ¬ opU (0 : Int32) := by unfold opU; rw [z]; omega
    have nb : ¬ opB (0 : Int32) := by unfold opB; rw [z]; omega
    unfold T1
    rw [z]
    exact ⟨fun _ => by omega, fun h => by omega, fun h => by omega, fun h => by omega, fun h => (h.elim nu nb).elim, fun h => (nb h).elim⟩
  · show T2 0 0 0
    unfold T2
    rw [z]
    omega
  · show T3 0 0
    unfold T3
    rw [z]
    omega
  · intro h
    exact absurd z h
  · show (0 : Int32).toInt ≤ 119
    rw [z]; omega
  · have h : bL 0 i = true := h
    rw [bL_0] at h
    cases h
  · have h : (e : Int) < (0 : Int32).toInt := h
    rw [z] at h; omega
  · have h : 1 ≤ (0 : Int32).toInt := h
    rw [z] at h; omega
  · have h : (e : Int) < (0 : Int32).toInt := h
    rw [z] at h; omega
  · have h : (i : Int) < (0 : Int32).toInt := h
    rw [z] at h; omega
  · have h : (b : Int) < (0 : Int32).toInt := h
    rw [z] at h; omega
  · show (0 : Int32).toInt ≤ (0 : Int32).toInt
    omega
  · have h : (i : Int) < (0 : Int32).toInt := h
    rw [z] at h; omega
