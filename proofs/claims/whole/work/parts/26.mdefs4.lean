/-- the worked costs -/
def Wok (S : St) (m : Nat → Nat → Int32) : Prop := (∀ q, q < sn S 0 → m 2 (13 * q + 12) = nI (m_plain S q) ∧ ∀ a, a < sn S 1 → m 2 (13 * q + a) = nO (if m_helps S q a = true then m_cost S q a + 1 else 0)) ∧ ∀ a, a < sn S 1 → m 3 a = nI (m_sp S a)
theorem m_isS_ex {S : St} {s : Int32} (hS : Sok S) (h : m_isS S s = true) : ∃ n, n < 2 ^ sn S 1 ∧ m_set S n = true ∧ s = nI n := by
  have hb := Sok.b12 hS
  unfold m_isS at h
  rw [Bool.and_eq_true] at h
  obtain ⟨k, hk, e⟩ := x_in_ex (by omega) h.1
  refine ⟨k, hk, ?_, e⟩
  have h2 := h.2
  rw [e, nI_clamp (by omega)] at h2
  exact h2
theorem m_isS_nI {S : St} {n : Nat} (hS : Sok S) (hn : n < 2 ^ 31) : m_isS S (nI n) = (decide (n < 2 ^ sn S 1) && m_set S n) := by
  have hb := Sok.b12 hS
  unfold m_isS
  rw [x_in_nI (by omega) hn, nI_clamp hn]
theorem bad_set {S : St} {s a b : Nat} (ha : a < sn S 1) (hb : b < a) (h : m_bad S s a b = true) : m_set S s = false := allN_no ha (allN_no hb (by simp [h]))
/-- columns in turn, as the reference says it -/
theorem turn_m {T : Tb} {a b c : Int32} : s_turn T a b c = (t_has T a && !(decide (b = (-1)) && !decide (c = (-1))) && (decide (b = (-1)) || (t_has T b && !decide (b = a))) && (decide (c = (-1)) || (t_has T c && !decide (c = a) && !decide (c = b)))) := by
  unfold s_turn t_hon
  by_cases hb : b = (-1)
  · subst hb
    by_cases hc : c = (-1)
    · subst hc; simp
    · simp [hc]
  · rw [if_neg hb]
    by_cases hc : c = (-1)
    · subst hc
      simp only [decide_true, decide_eq_false hb, Bool.false_or, Bool.true_or, Bool.and_true, Bool.false_and, Bool.not_false]
      by_cases ha : t_has T a = true
      · have : ¬ a = (-1) := fun e => by rw [e] at ha; exact absurd ha (by simp [t_has])
        have e1 : decide (b = a) = decide (a = b) := decide_eq_decide.mpr eq_comm
        rw [e1, decide_eq_false this, ha]
        cases t_has T b <;> cases decide (a = b) <;> rfl
      · simp [ha]
    · simp only [decide_eq_false hb, decide_eq_false hc, Bool.false_or, Bool.false_and, Bool.not_false, Bool.and_true]
      rw [show decide (a = b) = decide (b = a) from decide_eq_decide.mpr eq_comm, show decide (a = c) = decide (c = a) from decide_eq_decide.mpr eq_comm, show decide (b = c) = decide (c = b) from decide_eq_decide.mpr eq_comm]
      cases t_has T a <;> cases t_has T b <;> cases t_has T c <;> cases decide (b = a) <;> cases decide (c = a) <;> cases decide (c = b) <;> rfl
theorem t_has_m1 (T : Tb) : t_has T (-1) = false := by simp [t_has]
theorem lN_p {n : Nat} : lN n = Int64.ofNat n := rfl
theorem bI_inj {a b : Bool} (h : bI a = bI b) : a = b := by cases a <;> cases b <;> first | rfl | exact absurd h (by decide)
