theorem q_pat_s {T : Tb} {Q : Qn} {r c : Nat} (h : (Q.1 2).testBit c = true) : q_pat T Q r (c + 1) = (decide (Q.2 0 c ≤ t_v T r c) && decide (t_v T r c ≤ Q.2 1 c)) := by
  unfold q_pat; rw [q_ts (by omega)]; simp [h]
theorem q_pat_n {T : Tb} {Q : Qn} {r c : Nat} (h : (Q.1 2).testBit c = false) : q_pat T Q r (c + 1) = true := by
  unfold q_pat; rw [q_ts (by omega)]; simp [h]
theorem q_bc {T : Tb} {Q : Qn} {c : Nat} (hQ : Qok T Q) (h : (Q.1 2).testBit c = true) : c < T.1 1 := by
  have := q_tc hQ (k := c + 1) (by rw [q_ts (by omega)]; exact h)
  omega
theorem m_unl_eq (T : Tb) (q : Nat) : t_unl T q = cntN (T.1 3) (fun r => allN r (fun p => !t_like T r p q)) := by
  unfold t_unl
  refine cntN_congr (fun r _ => ?_)
  unfold t_first
  refine allN_congr (fun e _ => ?_)
  congr 1
  unfold t_like
  refine allN_congr (fun c _ => ?_)
  congr 1
  exact decide_eq_decide.mpr eq_comm
theorem if10 {b : Bool} : (if b = true then 1 else 0 : Nat) = 0 ↔ b = false := by cases b <;> decide
theorem if10' {b : Bool} (h : ¬ (if b = true then 1 else 0 : Nat) = 0) : b = true := by cases b with | true => rfl | false => exact absurd rfl h
