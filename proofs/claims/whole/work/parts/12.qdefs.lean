def nO : Nat → Int32
  | 0 => -1
  | n + 1 => nI n
theorem nO_s {k : Nat} (h : k ≠ 0) : nO k = nI (k - 1) := by
  cases k with
  | zero => exact absurd rfl h
  | succ k => rfl
/-! questions: Q.1 0 wants, 1 weight, 2 tested (bits), 3 the column added up and 1, or 0; Q.2 0 first, 1 last -/
abbrev Qn : Type := (Nat → Nat) × (Nat → Nat → Nat)
def isQn (G : x_G) (lo : x_L) (co : x_C) (b tb : Nat) (Q : Qn) : Prop := co b = some (.inr (5, [.ref (lo tb), .int (nI (Q.1 0)), .int (nO (Q.1 3)), .int (nI (Q.1 1)), .int (nI (Q.1 2)), .ref (lo (b + 1)), .ref (lo (b + 2))])) ∧ co (b + 1) = some (.inl (G.2 0, 4, .inl (fun j => nI (Q.2 0 j)))) ∧ co (b + 2) = some (.inl (G.2 0, 4, .inl (fun j => nI (Q.2 1 j))))
def Qok (T : Tb) (Q : Qn) : Prop := Q.1 0 < 2 ^ T.1 1 ∧ 1 ≤ Q.1 1 ∧ Q.1 1 ≤ 100 ∧ Q.1 2 < 2 ^ T.1 1 ∧ Q.1 3 ≤ T.1 1 ∧ (∀ c, c < 4 → Q.2 0 c ≤ 999 ∧ Q.2 1 c ≤ 999 ∧ Q.2 0 c ≤ Q.2 1 c)
/-- a test of the column k - 1 (0: none) -/
def q_t (Q : Qn) (k : Nat) : Bool := decide (k ≠ 0) && (Q.1 2).testBit (k - 1)
def q_like (Q : Qn) (k : Nat) : Bool := q_t Q k && decide (Q.2 0 (k - 1) = Q.2 1 (k - 1))
def q_in (Q : Qn) (c f t : Nat) : Bool := (Q.1 2).testBit c && decide (f ≤ Q.2 0 c) && decide (Q.2 1 c ≤ t)
def q_pass (T : Tb) (Q : Qn) (m k : Nat) : Nat := if q_t Q k = true then t_pass T m (k - 1) (Q.2 0 (k - 1)) (Q.2 1 (k - 1)) else m
def q_pat (T : Tb) (Q : Qn) (r k : Nat) : Bool := !q_t Q k || (decide (Q.2 0 (k - 1) ≤ t_v T r (k - 1)) && decide (t_v T r (k - 1) ≤ Q.2 1 (k - 1)))
def q_passes (T : Tb) (Q : Qn) (r : Nat) : Bool := allN 4 (fun c => q_pat T Q r (c + 1))
def q_ans (T : Tb) (Q : Qn) : Nat := cntN (T.1 3) (fun r => q_passes T Q r)
def q_sum (T : Tb) (Q : Qn) : Nat := sumN (T.1 3) (fun r => if Q.1 3 ≠ 0 ∧ q_passes T Q r = true then t_v T r (Q.1 3 - 1) else 0)
theorem q_t4 {Q : Qn} {k : Nat} (h : q_t Q k = true) (hq : Q.1 2 < 16) : k ≠ 0 ∧ k - 1 < 4 := by
  unfold q_t at h
  simp at h
  refine ⟨h.1, Nat.not_le.mp fun q => ?_⟩
  have e := Nat.testBit_lt_two_pow (x := Q.1 2) (i := k - 1) (Nat.lt_of_lt_of_le hq (Nat.pow_le_pow_right (by decide) q : 2 ^ 4 ≤ 2 ^ (k - 1)))
  rw [e] at h
  exact absurd h.2 (by decide)
theorem pow_col {n : Nat} (h : n ≤ 4) : 2 ^ n ≤ 16 := Nat.pow_le_pow_right (by decide) h
theorem s_btw_nI {a b c : Nat} (ha : a < 2 ^ 31) (hb : b < 2 ^ 31) (hc : c < 2 ^ 31) : s_btw (nI a) (nI b) (nI c) = (decide (b ≤ a) && decide (a ≤ c)) := by
  unfold s_btw
  rw [show decide (nI a < nI b) = decide (a < b) from decide_eq_decide.mpr (nI_ltI ha hb), show decide (nI c < nI a) = decide (c < a) from decide_eq_decide.mpr (nI_ltI hc ha)]
  by_cases h1 : a < b <;> by_cases h2 : c < a <;> simp [h1, h2] <;> omega
theorem t_v_le {T : Tb} (hT : Tok T) (r c : Nat) : t_v T r c ≤ 999 := by
  obtain ⟨k1, k2, k3, k4, k5, k6, k7, k8, k9, k0⟩ := id hT
  unfold t_v
  split
  · next h => exact k8 r c h.1 h.2
  · omega
theorem t_pass_le {T : Tb} {m c f t : Nat} (hT : Tok T) (hc : c < T.1 1) : t_pass T m c f t ≤ m := by
  obtain ⟨k1, k2, k3, k4, k5, k6, k7, k8, k9, k0⟩ := id hT
  obtain ⟨g1, g2, g3, g4⟩ := k9 c hc
  unfold t_pass
  split
  · omega
  · next h =>
    split
    · rcases Nat.eq_zero_or_pos (T.2 1 c) with e | e
      · rw [e, s_up_z]; omega
      · exact s_up_le e
    · have hw : min t (T.2 3 c) - max f (T.2 2 c) + 1 ≤ T.2 3 c - T.2 2 c + 1 := by
        have := Nat.min_le_right t (T.2 3 c)
        have := Nat.le_max_right f (T.2 2 c)
        omega
      unfold s_up
      rw [Nat.div_le_iff_le_mul_add_pred (by omega)]
      have : m * (min t (T.2 3 c) - max f (T.2 2 c) + 1) ≤ (T.2 3 c - T.2 2 c + 1) * m := by
        rw [Nat.mul_comm m]; exact Nat.mul_le_mul_right m hw
      omega
theorem x_sneg {a b : Nat} (ha : a < 2 ^ 30) (hb : b < 2 ^ 30) (h : a < b) : ¬ 0 < nI a - nI b + nI 1 := by
  rw [show nI a - nI b + nI 1 = nI (a + 1) - nI b from by rw [← nI_add, Int32.sub_eq_add_neg, Int32.sub_eq_add_neg, Int32.add_assoc, Int32.add_assoc, Int32.add_comm (-nI b)]]
  rw [fa_lt, pk_sub_toInt (by omega) hb]
  show ¬ ((0 : Int32).toInt < _)
  rw [show (0 : Int32).toInt = 0 from rfl]
  omega
theorem t_grp_le {T : Tb} (hT : Tok T) (q : Nat) : ∀ n, n ≤ T.1 1 → t_grp T q n ≤ 60 ^ n
  | 0, _ => Nat.le_refl 1
  | n + 1, h => by
    obtain ⟨k1, k2, k3, k4, k5, k6, k7, k8, k9, k0⟩ := id hT
    rw [t_grp, Nat.pow_succ]
    refine Nat.mul_le_mul (t_grp_le hT q n (by omega)) ?_
    split
    · exact Nat.le_trans (k9 n (by omega)).1 k7
    · decide
section XW4
variable {p : Program} {l : Launch} {e : Env} {R : Room} {s : State} {m : MethodId} {args : Array Value} {below : List Frame} {meth : Method} {c : Code} {H : Heap} {locs : List Loc} {cells slots : Nat} {Q : State → Prop}
variable {cc : ByteArray} {pc : Nat} {ls : Array Slot} {rest : List Value} {G : x_G} {lo : x_L} {co : x_C} {nL : Nat} {own : String}
theorem x_mmin {index a b : Nat} (cx : CallFix p m c cc nL s args x_gw own) (hl : ls.size = nL) (hlink : Cond.methodLink own index Lib.Math.min.name ∈ x_gw) (h : a < 2 ^ 31 ∧ b < 2 ^ 31) (hs : Cond.static Lib.Math.min.name ∈ x_gw) (hi : Cond.initialized "java/lang/Math" ∈ x_gw) (hc : Cond.code Lib.Math.min.name Lib.Math.min.code 2 (some .int) ∈ x_gw)
    (hR : 1 ≤ R.frames ∧ (rest.map fun v => v.category).sum + 13 ≤ R.locals) (hf : cells ≤ R.cells ∧ slots ≤ R.slots) (hdg : decode cc pc = .ok (.invokestatic index, 3))
    (kk : W p l e R s m args below meth c H locs cells slots Q (F0 m (pc + 3) ls (.int (nI (min a b)) :: rest))) : W p l e R s m args below meth c H locs cells slots Q (F0 m pc ls (.int (nI b) :: .int (nI a) :: rest)) := by
  refine va_mmin cx.1 cx.2.1 (cx.2.2.1.trans hl.symm) cx.2.2.2.1 (cx.2.2.2.2 _ hlink) (cx.2.2.2.2 _ hs) (cx.2.2.2.2 _ hi) (cx.2.2.2.2 _ hc) hR.1 hR.2 hf.1 hf.2 hdg ?_
  rw [show (if nI b < nI a then nI b else nI a) = nI (min a b) from by
    by_cases q : b < a
    · rw [if_pos ((nI_ltI h.2 h.1).mpr q), Nat.min_eq_right (Nat.le_of_lt q)]
    · rw [if_neg (fun w => q ((nI_ltI h.2 h.1).mp w)), Nat.min_eq_left (by omega)]]
  exact kk
theorem x_mmax {index a b : Nat} (cx : CallFix p m c cc nL s args x_gw own) (hl : ls.size = nL) (hlink : Cond.methodLink own index Lib.Math.max.name ∈ x_gw) (h : a < 2 ^ 31 ∧ b < 2 ^ 31) (hs : Cond.static Lib.Math.max.name ∈ x_gw) (hi : Cond.initialized "java/lang/Math" ∈ x_gw) (hc : Cond.code Lib.Math.max.name Lib.Math.max.code 2 (some .int) ∈ x_gw)
    (hR : 1 ≤ R.frames ∧ (rest.map fun v => v.category).sum + 13 ≤ R.locals) (hf : cells ≤ R.cells ∧ slots ≤ R.slots) (hdg : decode cc pc = .ok (.invokestatic index, 3))
    (kk : W p l e R s m args below meth c H locs cells slots Q (F0 m (pc + 3) ls (.int (nI (max a b)) :: rest))) : W p l e R s m args below meth c H locs cells slots Q (F0 m pc ls (.int (nI b) :: .int (nI a) :: rest)) := by
  refine va_mmax cx.1 cx.2.1 (cx.2.2.1.trans hl.symm) cx.2.2.2.1 (cx.2.2.2.2 _ hlink) (cx.2.2.2.2 _ hs) (cx.2.2.2.2 _ hi) (cx.2.2.2.2 _ hc) hR.1 hR.2 hf.1 hf.2 hdg ?_
  rw [show (if nI a < nI b then nI b else nI a) = nI (max a b) from by
    by_cases q : a < b
    · rw [if_pos ((nI_ltI h.1 h.2).mpr q), Nat.max_eq_right (Nat.le_of_lt q)]
    · rw [if_neg (fun w => q ((nI_ltI h.1 h.2).mp w)), Nat.max_eq_left (by omega)]]
  exact kk
end XW4
