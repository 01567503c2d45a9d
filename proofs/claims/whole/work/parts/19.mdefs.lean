/-! what both sides answer, over the state -/
def m_helps (S : St) (q a : Nat) : Bool := decide (ao S a = qt S q) && a_helps (qQ S q) (aA S a)
def m_cost (S : St) (q a : Nat) : Nat := a_cost (sT S (ao S a)) (qQ S q) (aA S a)
def m_plain (S : St) (q : Nat) : Nat := s_up ((sT S (qt S q)).1 5) ((sT S (qt S q)).1 2)
/-- the cost of a plan: 0 plain, else aid p - 1 -/
def m_pc (S : St) (q p : Nat) : Nat := if p = 0 then m_plain S q else m_cost S q (p - 1)
def m_pl (S : St) (q s : Nat) : Nat → Nat
  | 0 => 0
  | n + 1 => if s.testBit n = true ∧ m_helps S q n = true ∧ m_cost S q n < m_pc S q (m_pl S q s n) then n + 1 else m_pl S q s n
def m_lc (S : St) (q s : Nat) : Nat → Nat
  | 0 => m_plain S q
  | n + 1 => if s.testBit n = true ∧ m_helps S q n = true then min (m_lc S q s n) (m_cost S q n) else m_lc S q s n
theorem m_pl_le (S : St) (q s : Nat) : ∀ n, m_pl S q s n ≤ n ∧ (m_pl S q s n ≠ 0 → m_helps S q (m_pl S q s n - 1) = true)
  | 0 => ⟨Nat.le_refl 0, fun h => absurd rfl h⟩
  | n + 1 => by
    obtain ⟨h1, h2⟩ := m_pl_le S q s n
    rw [m_pl]
    split
    · next h => exact ⟨Nat.le_refl _, fun _ => h.2.1⟩
    · exact ⟨by omega, h2⟩
theorem m_pc_lc (S : St) (q s : Nat) : ∀ n, m_pc S q (m_pl S q s n) = m_lc S q s n
  | 0 => rfl
  | n + 1 => by
    have h := m_pc_lc S q s n
    rw [m_pl, m_lc]
    by_cases h1 : s.testBit n = true ∧ m_helps S q n = true
    · rw [if_pos h1]
      by_cases h2 : m_cost S q n < m_pc S q (m_pl S q s n)
      · rw [if_pos ⟨h1.1, h1.2, h2⟩, Nat.min_eq_right (by omega)]
        rw [m_pc, if_neg (Nat.succ_ne_zero n)]; rfl
      · rw [if_neg (fun w => h2 w.2.2), h, Nat.min_eq_left (by omega)]
    · rw [if_neg h1, if_neg (fun w => h1 ⟨w.1, w.2.1⟩), h]
def m_kc (S : St) (a : Nat) : Nat := a_keep (aA S a) * (sT S (ao S a)).1 4
def m_tq (S : St) (s n : Nat) : Nat := sumN n (fun q => (qQ S q).1 1 * m_lc S q s (sn S 1))
def m_tk (S : St) (s n : Nat) : Nat := sumN n (fun a => if s.testBit a = true then m_kc S a else 0)
def m_tot (S : St) (s : Nat) : Nat := m_tq S s (sn S 0) + m_tk S s (sn S 1)
def m_bad (S : St) (s a b : Nat) : Bool := s.testBit a && s.testBit b && decide ((aA S a).1 0 = 4) && decide ((aA S b).1 0 = 4) && decide (ao S a = ao S b)
def m_set (S : St) (s : Nat) : Bool := allN (sn S 1) (fun a => allN a (fun b => !m_bad S s a b))
def m_isS (S : St) (s : Int32) : Bool := x_in (2 ^ sn S 1) s && m_set S s.toNatClampNeg
def m_sp (S : St) (a : Nat) : Nat := a_space (sT S (ao S a)) (aA S a)
def m_rs (S : St) (s n : Nat) : Nat := sumN n (fun a => if s.testBit a = true then m_sp S a else 0)
def m_bits (Q : Qn) : Nat → Nat
  | 0 => 0
  | n + 1 => m_bits Q n ||| (if (Q.1 2).testBit n = true then 2 ^ n else 0)
theorem m_bits_tb (Q : Qn) : ∀ n j, (m_bits Q n).testBit j = (decide (j < n) && (Q.1 2).testBit j)
  | 0, j => by simp [m_bits]
  | n + 1, j => by
    rw [m_bits, Nat.testBit_or, m_bits_tb Q n j]
    by_cases h : (Q.1 2).testBit n = true
    · rw [if_pos h]
      rcases Nat.lt_trichotomy j n with e | e | e
      · rw [Nat.testBit_two_pow_of_ne (by omega), decide_eq_true e, decide_eq_true (by omega)]; simp
      · subst e; simp [h]
      · rw [Nat.testBit_two_pow_of_ne (by omega), decide_eq_false (by omega), decide_eq_false (by omega)]; simp
    · rw [if_neg h]
      rcases Nat.lt_trichotomy j n with e | e | e
      · rw [decide_eq_true e, decide_eq_true (by omega)]; simp
      · subst e; simp [h]
      · rw [decide_eq_false (by omega), decide_eq_false (by omega)]; simp
theorem m_bits_eq {Q : Qn} (h : Q.1 2 < 16) : m_bits Q 4 = Q.1 2 := by
  apply Nat.eq_of_testBit_eq
  intro j
  rw [m_bits_tb]
  by_cases hj : j < 4
  · rw [decide_eq_true hj, Bool.true_and]
  · rw [decide_eq_false hj, Bool.false_and, Nat.testBit_lt_two_pow (Nat.lt_of_lt_of_le h (Nat.pow_le_pow_right (by decide) (by omega) : 2 ^ 4 ≤ 2 ^ j))]
theorem Qok.w16 {T : Tb} {Q : Qn} (hT : Tok T) (h : Qok T Q) : Q.1 0 < 16 := Nat.lt_of_lt_of_le h.1 (pow_col hT.2.1)
theorem a_cost_le {T : Tb} {Q : Qn} {A : Ad} (hT : Tok T) (hQ : Qok T Q) (hA : Aok T A) : a_cost T Q A ≤ 121 := by
  obtain ⟨k1, k2, k3, k4, k5, k6, k7, k8, k9, k0⟩ := id hT
  have h1 := a_mat_le hT hQ hA
  have hent : 0 < a_ent T A := by unfold a_ent; split <;> omega
  unfold a_cost
  split
  · have : s_up (t_groups T (A.1 2)) (2 * T.1 2) ≤ 60 := s_up_60 (by omega) (Nat.le_trans (Nat.min_le_right _ _) k7)
    omega
  · have := s_up_60 hent h1
    split
    · omega
    · have := Nat.min_le_left (a_mat T Q A) (s_up (T.1 5) (T.1 2))
      omega
theorem m_plain_le {S : St} {q : Nat} (hS : Sok S) (hq : q < sn S 0) : m_plain S q ≤ 60 := by
  obtain ⟨s1, s2, s3, s4, s5, s6⟩ := id hS
  obtain ⟨v1, v2, hQ⟩ := s5 q hq
  obtain ⟨k1, k2, k3, k4, k5, k6, k7, k8, k9, k0⟩ := (s1 _ v1).1 v2
  exact s_up_60 (by omega) k7
theorem m_lc_le {S : St} {q s : Nat} (hS : Sok S) (hq : q < sn S 0) : ∀ n, m_lc S q s n ≤ 60
  | 0 => m_plain_le hS hq
  | n + 1 => by
    have := m_lc_le (s := s) hS hq n
    rw [m_lc]; split
    · have := Nat.min_le_left (m_lc S q s n) (m_cost S q n); omega
    · omega
theorem a_space_le {T : Tb} {A : Ad} (hT : Tok T) (hA : Aok T A) : a_space T A ≤ 780 := by
  obtain ⟨k1, k2, k3, k4, k5, k6, k7, k8, k9, k0⟩ := id hT
  have h1 := a_rows_le hT hA
  unfold a_space
  split
  · refine Nat.le_trans (s_up_le (by omega)) ?_
    have := pop_le (A.1 2)
    exact Nat.mul_le_mul k7 (by omega : 1 + pop (A.1 2) - A.1 1 ≤ 13)
  · split
    · exact Nat.le_trans (s_up_60 (by omega) (Nat.le_trans (Nat.min_le_right _ _) k7)) (by decide)
    · split
      · omega
      · exact Nat.le_trans (s_up_60 (by omega) (by omega)) (by decide)
theorem m_sp_le {S : St} {a : Nat} (hS : Sok S) (ha : a < sn S 1) : m_sp S a ≤ 780 := by
  obtain ⟨s1, s2, s3, s4, s5, s6⟩ := id hS
  obtain ⟨u1, u2, hA⟩ := s6 a ha
  exact a_space_le ((s1 _ u1).1 u2) hA
theorem m_kc_le {S : St} {a : Nat} (hS : Sok S) (ha : a < sn S 1) : m_kc S a ≤ 4000 := by
  obtain ⟨s1, s2, s3, s4, s5, s6⟩ := id hS
  obtain ⟨u1, u2, hA⟩ := s6 a ha
  obtain ⟨k1, k2, k3, k4, k5, k6, k7, k8, k9, k0⟩ := (s1 _ u1).1 u2
  have h1 : a_keep (aA S a) ≤ 4 := by unfold a_keep; split <;> (try split) <;> (try split) <;> omega
  exact Nat.mul_le_mul h1 k6
theorem m_tq_le {S : St} {s n : Nat} (hS : Sok S) (hn : n ≤ sn S 0) : m_tq S s n ≤ 24 * 6000 := by
  have h := sumN_le (n := n) (g := fun q => (qQ S q).1 1 * m_lc S q s (sn S 1)) (b := 6000) (fun q hq => by
    have hq' : q < sn S 0 := by omega
    have h1 := (hS.2.2.2.2.1 q hq').2.2.2.2.1
    exact Nat.mul_le_mul h1 (m_lc_le hS hq' _))
  exact Nat.le_trans h (Nat.mul_le_mul_right _ (Nat.le_trans hn hS.2.1))
theorem m_tk_le {S : St} {s n : Nat} (hS : Sok S) (hn : n ≤ sn S 1) : m_tk S s n ≤ 12 * 4000 := by
  have h := sumN_le (n := n) (g := fun a => if s.testBit a = true then m_kc S a else 0) (b := 4000) (fun a ha => by
    show (if _ then _ else _) ≤ _
    split
    · exact m_kc_le hS (by omega)
    · omega)
  exact Nat.le_trans h (Nat.mul_le_mul_right _ (Nat.le_trans hn hS.2.2.1))
theorem m_rs_le {S : St} {s n : Nat} (hS : Sok S) (hn : n ≤ sn S 1) : m_rs S s n ≤ 12 * 780 := by
  have h := sumN_le (n := n) (g := fun a => if s.testBit a = true then m_sp S a else 0) (b := 780) (fun a ha => by
    show (if _ then _ else _) ≤ _
    split
    · exact m_sp_le hS (by omega)
    · omega)
  exact Nat.le_trans h (Nat.mul_le_mul_right _ (Nat.le_trans hn hS.2.2.1))
theorem Sok.b12 {S : St} (hS : Sok S) : 2 ^ sn S 1 ≤ 4096 := Nat.pow_le_pow_right (by decide) hS.2.2.1
