theorem nI_bit {n j : Nat} (hn : n < 2 ^ 31) (hj : j < 31) : (nI n &&& (nI 1 <<< (nI j &&& 31))) = 0 ↔ n.testBit j = false := by
  rw [nI_shl hj, show nI n &&& nI (2 ^ j) = nI (n &&& 2 ^ j) from by
    unfold nI
    apply Int32.toBitVec.inj
    rw [Int32.toBitVec_and, Int32.toBitVec_ofNat', Int32.toBitVec_ofNat', Int32.toBitVec_ofNat']
    apply BitVec.eq_of_toNat_eq
    simp [BitVec.toNat_and, Nat.and_mod_two_pow]]
  have h1 : n &&& 2 ^ j ≤ n := Nat.and_le_left
  rw [show (0 : Int32) = nI 0 from rfl, nI_eq (by omega) (by decide : 0 < 2 ^ 31)]
  constructor
  · intro h
    have h2 : (n &&& 2 ^ j).testBit j = false := by rw [h]; simp
    rw [Nat.testBit_and, Nat.testBit_two_pow_self, Bool.and_true] at h2
    exact h2
  · intro h
    apply Nat.eq_of_testBit_eq
    intro i
    rw [Nat.testBit_and]
    by_cases hi : j = i
    · subst hi; simp [h]
    · simp [Nat.testBit_two_pow_of_ne hi]
theorem q_tz (Q : Qn) : q_t Q 0 = false := rfl
theorem q_ts {Q : Qn} {k : Nat} (h : k ≠ 0) : q_t Q k = (Q.1 2).testBit (k - 1) := by simp [q_t, h]
theorem q_t_big {Q : Qn} {k : Nat} (hq : Q.1 2 < 16) (h : 4 ≤ k - 1) : q_t Q k = false := by
  cases e : q_t Q k with
  | false => rfl
  | true => have := (q_t4 e hq).2; omega
theorem Qok.t16 {T : Tb} {Q : Qn} (hT : Tok T) (h : Qok T Q) : Q.1 2 < 16 := Nat.lt_of_lt_of_le h.2.2.2.1 (pow_col hT.2.1)
theorem q_tc {T : Tb} {Q : Qn} {k : Nat} (hQ : Qok T Q) (h : q_t Q k = true) : k ≠ 0 ∧ k - 1 < T.1 1 := by
  unfold q_t at h
  simp at h
  refine ⟨h.1, Nat.not_le.mp fun q => ?_⟩
  have e := Nat.testBit_lt_two_pow (x := Q.1 2) (i := k - 1) (Nat.lt_of_lt_of_le hQ.2.2.2.1 (Nat.pow_le_pow_right (by decide) q : 2 ^ T.1 1 ≤ 2 ^ (k - 1)))
  rw [e] at h
  exact absurd h.2 (by decide)
theorem q_pass_le {T : Tb} {Q : Qn} (hT : Tok T) (hQ : Qok T Q) (m k : Nat) : q_pass T Q m k ≤ m := by
  unfold q_pass
  split
  · next h => exact t_pass_le hT (q_tc hQ h).2
  · exact Nat.le_refl m
theorem sumN_999 {n : Nat} {g : Nat → Nat} (hn : n ≤ 60) (h : ∀ k, k < n → g k ≤ 999) : sumN n g ≤ 60000 := by
  have := sumN_le h
  have : n * 999 ≤ 60 * 999 := Nat.mul_le_mul_right _ hn
  omega
theorem q_term_le {T : Tb} {Q : Qn} (hT : Tok T) (r : Nat) : (if Q.1 3 ≠ 0 ∧ q_passes T Q r = true then t_v T r (Q.1 3 - 1) else 0) ≤ 999 := by
  split
  · exact t_v_le hT _ _
  · omega
theorem t_has_nO {T : Tb} {k : Nat} (hT : T.1 1 ≤ 4) (hk : k ≤ T.1 1) : t_has T (nO k) = decide (k ≠ 0) := by
  cases k with
  | zero => rfl
  | succ k => exact (t_has_nI hT (by omega)).trans (by simp; omega)
/-- bits as ints -/
theorem nI_or (a b : Nat) : nI a ||| nI b = nI (a ||| b) := by
  unfold nI
  apply Int32.toBitVec.inj
  rw [Int32.toBitVec_or, Int32.toBitVec_ofNat', Int32.toBitVec_ofNat', Int32.toBitVec_ofNat']
  apply BitVec.eq_of_toNat_eq
  simp [BitVec.toNat_or, Nat.or_mod_two_pow]
theorem nI_and (a b : Nat) : nI a &&& nI b = nI (a &&& b) := by
  unfold nI
  apply Int32.toBitVec.inj
  rw [Int32.toBitVec_and, Int32.toBitVec_ofNat', Int32.toBitVec_ofNat', Int32.toBitVec_ofNat']
  apply BitVec.eq_of_toNat_eq
  simp [BitVec.toNat_and, Nat.and_mod_two_pow]
def bO : Nat → Nat
  | 0 => 0
  | n + 1 => 2 ^ n
theorem s_bit_nO {k : Nat} (hk : k ≤ 31) : s_bit (nO k) = nI (bO k) := by
  cases k with
  | zero => rfl
  | succ k => rw [show nO (k + 1) = nI k from rfl, s_bit, if_neg (nI_pos (by omega))]; exact nI_shl (by omega)
def q_touch (Q : Qn) : Nat := Q.1 0 ||| Q.1 2 ||| bO (Q.1 3)
