/-- the reference's rows in the order of their making -/
def m_rank : Nat → Option Nat := fun t => if 1 ≤ t ∧ t ≤ 9 then some (t - 1) else if 11 ≤ t ∧ t ≤ 17 then some (t - 2) else if 20 ≤ t ∧ t ≤ 29 then some (t - 4) else none
theorem x_losF (lo : x_L) (rk : Nat → Option Nat) (sz : Nat) : ∃ lo1 : x_L, (∀ t r, rk t = some r → lo1 t = sz + r) ∧ ∀ t, rk t = none → lo1 t = lo t := by
  refine ⟨fun t => match rk t with | some r => sz + r | none => lo t, fun t r h => ?_, fun t h => ?_⟩
  · show (match rk t with | some r => sz + r | none => lo t) = _; rw [h]
  · show (match rk t with | some r => sz + r | none => lo t) = _; rw [h]
theorem m_len_no {i : Nat} (h : i ∉ m_tags) : m_len i = 0 := by
  by_cases e : i < 30
  · exact Decidable.byContradiction fun q => h (m_len_tag i e q)
  · exact m_len_30 e
/-- the start: no tables, questions, aids -/
def S0 : St := (fun _ => (fun _ => 0, fun _ _ => 0), fun _ => (0, (fun i => if i = 3 then 1 else 0, fun _ _ => 0)), fun _ => (0, (fun _ => 0, fun _ => 0)), fun _ => 0)
theorem mco_0 (G : x_G) (lo : x_L) : mco G lo (fun _ => nI 0) (fun _ _ => nI 0) = mco G lo (nS S0) (mS S0 (fun _ _ => nI 0)) := by
  refine mco_ext rfl (tags_all ?_ ?_ ?_ ?_ ?_ ?_ ?_ ?_ ?_ ?_ ?_ ?_ ?_ ?_ ?_ ?_ ?_ ?_ ?_ ?_ ?_ ?_ ?_ ?_ ?_ ?_)
  iterate 13 rfl
  · funext j
    show nI 0 = bI (Nat.testBit 0 (j % 4))
    rw [Nat.zero_testBit]; rfl
  all_goals rfl
