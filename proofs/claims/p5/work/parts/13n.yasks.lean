theorem s_count {σ τ : Sto} {x1 : Int32} (h : GR τ σ) : OK (f_X12_count x1 σ) (fun r => GR τ r.2) := by
  have k_0 : (0 : Int32).toInt = 0 := by decide +kernel
  unfold f_X12_count
  refine ok_lt fun s1 e1 => ?_
  have f1 : FR [0] [] σ s1 := by rw [e1]; exact FR.st FR.rf (by decide)
  have B1 : BM s1 := by rw [e1]; exact pM_0 h.1 (by omega)
  have G1 : GR τ s1 := h.fr B1 f1 rfl rfl
  have D : OK (some ((0 : Int32), s1)) (fun r => GR τ r.2) := ok_ret G1
  refine ok_ite (fun _ => ok_ret G1) (fun _ => ?_)
  refine ok_ite (fun _ => ok_ret G1) (fun c1 => ?_)
  rw [fa_eq, k_0] at c1
  have L := G1.2.1.resolve_left c1
  refine ok_ite (fun _ => ok_ret G1) (fun _ => ?_)
  refine ok_ite (fun _ => ok_ret G1) (fun _ => ?_)
  refine ok_ite (fun _ => ok_ret G1) (fun _ => ?_)
  refine ok_ite (fun _ => ok_ret G1) (fun _ => ?_)
  refine ok_ite (fun _ => ok_calp (s_countLoops B1) (fun v _ => ok_ret G1)) (fun _ => ?_)
  refine ok_ite (fun _ => ok_calp (s_countMerges B1) (fun v _ => ok_ret G1)) (fun _ => ?_)
  refine ok_ite (fun _ => ok_ret G1) (fun _ => ?_)
  refine ok_ite (fun _ => ok_ite (fun _ => ok_ret G1) (fun _ => ok_ret G1)) (fun _ => ?_)
  refine ok_ite (fun _ => ok_ite (fun _ => ok_ret G1) (fun _ => ok_ret G1)) (fun _ => ?_)
  refine ok_ite (fun _ => ok_ret G1) (fun _ => ?_)
  refine ok_ite (fun _ => ok_ret G1) (fun _ => ?_)
  refine ok_ite (fun _ => ok_ret G1) (fun _ => ?_)
  refine ok_ite (fun _ => ok_calv (s_unlike B1 L.2.2.2.2.2.2.2.2.2.1) (fun v s9 q => ok_ret (G1.fr q.1 q.2 rfl rfl))) (fun _ => ?_)
  refine ok_ite (fun _ => ok_calp (s_countDead B1) (fun v _ => ok_ret G1)) (fun _ => ?_)
  exact ok_ret G1
