theorem a_by_ge {A : Ad} {k : Nat} (h : A.1 1 ≤ k) : a_by A k = 0 := by rw [a_by, if_neg (by omega)]
theorem q_like_0 (Q : Qn) : q_like Q 0 = false := rfl
theorem mu_none {Q : Qn} {A : Ad} {k : Nat} (hv : k ≤ A.1 1) (m2 : A.1 1 ≤ 3) (hall : ∀ j, j < k → q_like Q (a_by A j) = true) (h : A.1 1 ≤ k ∨ q_t Q (a_by A k) = false) : a_uses Q A = k := by
  have ht : q_t Q (a_by A k) = false := h.elim (fun h => by rw [a_by_ge h]; rfl) id
  have hl : q_like Q (a_by A k) = false := by rw [q_like, ht]; rfl
  have e := a_lead_eq (by omega) hall (Or.inr hl)
  rw [a_uses, e, if_neg (fun w => Bool.noConfusion (ht.symm.trans w.2))]
theorem mu_one {Q : Qn} {A : Ad} {k : Nat} (m2 : A.1 1 ≤ 3) (hk : k < A.1 1) (hall : ∀ j, j < k → q_like Q (a_by A j) = true) (h : q_t Q (a_by A k) = true) (h2 : q_like Q (a_by A k) = false) : a_uses Q A = k + 1 := by
  have e := a_lead_eq (by omega) hall (Or.inr h2)
  rw [a_uses, e, if_pos ⟨by omega, h⟩]
theorem a_lead_all {Q : Qn} {A : Ad} {j : Nat} (h : j < a_lead Q A) : q_like Q (a_by A j) = true := by
  unfold a_lead at h
  by_cases h0 : q_like Q (a_by A 0) = true
  · rw [if_pos h0] at h
    by_cases h1 : q_like Q (a_by A 1) = true
    · rw [if_pos h1] at h
      by_cases h2 : q_like Q (a_by A 2) = true
      · rw [if_pos h2] at h
        rcases (show j = 0 ∨ j = 1 ∨ j = 2 by omega) with e | e | e <;> subst e <;> assumption
      · rw [if_neg h2] at h
        rcases (show j = 0 ∨ j = 1 by omega) with e | e <;> subst e <;> assumption
    · rw [if_neg h1] at h
      rw [show j = 0 by omega]; exact h0
  · rw [if_neg h0] at h; omega
/-- what is used is tested -/
theorem mu_t {Q : Qn} {A : Ad} {k : Nat} (h : k < a_uses Q A) : q_t Q (a_by A k) = true := by
  have hl : ∀ j, j < a_lead Q A → q_t Q (a_by A j) = true := fun j hj => by
    have := a_lead_all hj
    unfold q_like at this
    simp at this
    exact this.1
  unfold a_uses at h
  split at h
  · next w =>
    rcases Nat.lt_succ_iff_lt_or_eq.mp h with e | e
    · exact hl k e
    · rw [e]; exact w.2
  · exact hl k h
theorem mu_many {Q : Qn} {A : Ad} (m2 : A.1 1 ≤ 3) : a_uses Q A ≤ A.1 1 := by
  refine Nat.not_lt.mp fun h => ?_
  have := mu_t (Q := Q) (A := A) (k := A.1 1) h
  rw [a_by_ge (Nat.le_refl _), q_tz] at this
  exact absurd this (by decide)
