theorem g_out {S : St} {r i s b y s' : Nat} (hs : s = g_it S r i) (hall : ∀ j, j < i → g_nx S r (g_it S r j) (sn S 1) ≠ 0) (hb : b = g_nx S r s (sn S 1)) (hy : y = if b = 0 then 0 else 1) (hs' : s' = if y = 0 then s else s ||| 2 ^ (b - 1)) : (y = 1 ∧ s' = g_it S r (i + 1) ∧ ∀ j, j < i + 1 → g_nx S r (g_it S r j) (sn S 1) ≠ 0) ∨ (y = 0 ∧ s' = g_it S r (sn S 1)) := by
  have hil := g_it_le hall
  by_cases h0 : b = 0
  · rw [if_pos h0] at hy
    rw [if_pos hy] at hs'
    refine Or.inr ⟨hy, ?_⟩
    have hz : g_nx S r (g_it S r i) (sn S 1) = 0 := by rw [← hs, ← hb]; exact h0
    have := g_it_fix hz (sn S 1 - i)
    rw [show i + (sn S 1 - i) = sn S 1 by omega] at this
    rw [hs', hs, this]
  · rw [if_neg h0] at hy
    rw [if_neg (by omega)] at hs'
    have hz : ¬ g_nx S r (g_it S r i) (sn S 1) = 0 := by rw [← hs, ← hb]; exact h0
    refine Or.inl ⟨hy, ?_, fun j hj => ?_⟩
    · rw [g_it, if_neg hz, hs', hb, hs]
    · rcases Nat.lt_succ_iff_lt_or_eq.mp hj with w | w
      · exact hall j w
      · rw [w]; exact hz
theorem g_sv {S : St} {s a b b' : Nat} {sv sv' : Int64} (hsv : sv = lN (m_tot S s) - lN (if b = 0 then m_tot S s else m_tot S (s ||| 2 ^ (b - 1)))) (h : (b' = a + 1 ∧ sv' = lN (m_tot S s) - lN (m_tot S (s ||| 2 ^ a))) ∨ (b' = b ∧ sv' = sv)) : sv' = lN (m_tot S s) - lN (if b' = 0 then m_tot S s else m_tot S (s ||| 2 ^ (b' - 1))) := by
  rcases h with ⟨e1, e2⟩ | ⟨e1, e2⟩
  · rw [e1, e2, if_neg (Nat.succ_ne_zero a), Nat.add_sub_cancel]
  · rw [e1, e2, hsv]
theorem ite_gr {Q1 P1 P2 P3 P4 P5 P6 P7 P8 : Prop} [Decidable Q1] [Decidable P1] [Decidable P2] [Decidable P3] [Decidable P4] [Decidable P5] [Decidable P6] [Decidable P7] [Decidable P8] {x b : Nat} (h1 : Q1 ↔ ¬ P1) : (if P1 then b else if P2 then (if P3 then (if P4 then b else if P5 then x else if P6 then b else if P7 then (if P8 then x else b) else x) else b) else b) = if Q1 ∧ P2 ∧ P3 ∧ ¬ P4 ∧ (P5 ∨ (¬ P6 ∧ (¬ P7 ∨ P8))) then x else b := by
  by_cases a1 : P1
  · have : ¬ Q1 := fun q => (h1.mp q) a1
    simp [a1, this]
  · have q1 : Q1 := h1.mpr a1
    by_cases a2 : P2
    · by_cases a3 : P3
      · by_cases a4 : P4
        · simp [a1, a4]
        · by_cases a5 : P5
          · simp [a1, q1, a2, a3, a4, a5]
          · by_cases a6 : P6
            · simp [a1, a5, a6]
            · by_cases a7 : P7 <;> by_cases a8 : P8 <;> simp [a1, q1, a2, a3, a4, a5, a6, a7, a8]
      · simp [a1, a3]
    · simp [a1, a2]
