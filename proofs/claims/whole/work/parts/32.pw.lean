/-! the public writers, over the state -/
def setT (S : St) (t : Nat) (T : Tb) : St := (va_up S.1 t T, S.2)
def newT (t c p : Nat) : Tb := (fun i => if i = 0 then t else if i = 1 then c else if i = 2 then p else 0, fun _ _ => 0)
/-- as the tables lie: 0 at first -/
def P_table (S : St) (t c p : Int32) : Bool × St := if (x_in 4 t && decide ((sT S t.toNatClampNeg).1 1 = 0) && s_btw c (nI 1) (nI 4) && s_btw p (nI 2) (nI 8)) = true then (true, setT S t.toNatClampNeg (newT t.toNatClampNeg c.toNatClampNeg p.toNatClampNeg)) else (false, S)
def P_changes (S : St) (t n : Int32) : Bool × St := if (m_isT S t && s_btw n (nI 0) (nI 1000)) = true then (true, setT S t.toNatClampNeg (va_up (sT S t.toNatClampNeg).1 4 n.toNatClampNeg, (sT S t.toNatClampNeg).2)) else (false, S)
def m_tags : List Nat := [1, 2, 3, 4, 5, 6, 7, 8, 9, 11, 12, 13, 14, 15, 16, 17, 20, 21, 22, 23, 24, 25, 26, 27, 28, 29]
theorem m_len_tag : ∀ i, i < 30 → m_len i ≠ 0 → i ∈ m_tags := by decide +kernel
theorem m_len_30 {i : Nat} (h : ¬ i < 30) : m_len i = 0 := by
  unfold m_len
  split <;> first | rfl | (exact absurd (by decide) h)
theorem mco_ext {G : x_G} {lo : x_L} {n n' : Nat → Int32} {M M' : Nat → Nat → Int32} (hn : m_obj lo n = m_obj lo n') (h : ∀ i ∈ m_tags, M i = M' i) : mco G lo n M = mco G lo n' M' := by
  funext i
  unfold mco
  by_cases h0 : i = 0
  · rw [if_pos h0, if_pos h0, hn]
  · rw [if_neg h0, if_neg h0]
    by_cases h1 : m_len i = 0
    · rw [if_pos h1, if_pos h1]
    · rw [if_neg h1, if_neg h1]
      by_cases h2 : i < 30
      · rw [h i (m_len_tag i h2 h1)]
      · exact absurd (m_len_30 h2) h1
/-- rows of the reference that a change of one table leaves, or changes -/
theorem sT_set (S : St) (t : Nat) (T : Tb) (j : Nat) : sT (setT S t T) j = if j = t then T else sT S j := rfl
theorem tags_all {P : Nat → Prop} (h1 : P 1) (h2 : P 2) (h3 : P 3) (h4 : P 4) (h5 : P 5) (h6 : P 6) (h7 : P 7) (h8 : P 8) (h9 : P 9) (h11 : P 11) (h12 : P 12) (h13 : P 13) (h14 : P 14) (h15 : P 15) (h16 : P 16) (h17 : P 17) (h20 : P 20) (h21 : P 21) (h22 : P 22) (h23 : P 23) (h24 : P 24) (h25 : P 25) (h26 : P 26) (h27 : P 27) (h28 : P 28) (h29 : P 29) : ∀ i ∈ m_tags, P i := by
  intro i hi
  simp only [m_tags, List.mem_cons, List.not_mem_nil, or_false] at hi
  rcases hi with rfl | rfl | rfl | rfl | rfl | rfl | rfl | rfl | rfl | rfl | rfl | rfl | rfl | rfl | rfl | rfl | rfl | rfl | rfl | rfl | rfl | rfl | rfl | rfl | rfl | rfl <;> assumption
theorem nI_tc {x : Int32} {a b : Nat} (ha : a < 2 ^ 31) (hb : b < 2 ^ 31) (h : s_btw x (nI a) (nI b) = true) : ∃ k, k ≤ b ∧ a ≤ k ∧ x = nI k := by
  unfold s_btw at h
  rw [Bool.and_eq_true, Bool.not_eq_true', Bool.not_eq_true'] at h
  have h1 := of_decide_eq_false h.1
  have h2 := of_decide_eq_false h.2
  rw [fa_lt, nI_toInt ha] at h1
  rw [fa_lt, nI_toInt hb] at h2
  obtain ⟨k, hk, e⟩ := nI_of (x := x) (by rw [fa_lt]; show ¬ x.toInt < (0 : Int32).toInt; rw [show (0 : Int32).toInt = 0 from rfl]; omega)
  rw [e, nI_toInt hk] at h1 h2
  exact ⟨k, by omega, by omega, e⟩
