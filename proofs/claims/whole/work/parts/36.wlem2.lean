def s_arg (a b c d : Int32) (k : Nat) : Int32 := if k = 0 then a else if k = 1 then b else if k = 2 then c else d
def putT (T : Tb) (a b c d : Int32) : Tb := (va_up T.1 3 (T.1 3 + 1), va_up T.2 0 (fun j => if T.1 3 * 4 ≤ j ∧ j < T.1 3 * 4 + T.1 1 then (s_arg a b c d (j - T.1 3 * 4)).toNatClampNeg else T.2 0 j))
def s_vals (T : Tb) (a b c d : Int32) : Bool := allN (T.1 1) (fun k => s_btw (s_arg a b c d k) (nI 0) (nI 999))
def P_put (S : St) (t a b c d : Int32) : Int32 × St := if m_isT S t = true ∧ (sT S t.toNatClampNeg).1 3 ≠ 60 ∧ s_vals (sT S t.toNatClampNeg) a b c d = true then (nI ((sT S t.toNatClampNeg).1 3), setT S t.toNatClampNeg (putT (sT S t.toNatClampNeg) a b c d)) else (-1, S)
/-- the reference's values while a row comes -/
def m_pv (S : St) (m : Nat → Nat → Int32) (t : Nat) (a b c d : Int32) (k : Nat) : Nat → Int32 := fun j => if 240 * t + 4 * (sT S t).1 3 ≤ j ∧ j < 240 * t + 4 * (sT S t).1 3 + k then s_arg a b c d (j - (240 * t + 4 * (sT S t).1 3)) else mS S m 4 j
theorem m_pv_0 {S : St} {m : Nat → Nat → Int32} {t : Nat} {a b c d : Int32} : m_pv S m t a b c d 0 = mS S m 4 := by
  funext j; unfold m_pv; rw [if_neg (by omega)]
theorem m_pv_s {S : St} {m : Nat → Nat → Int32} {t : Nat} {a b c d : Int32} {k i : Nat} {x : Int32} (hx : x = s_arg a b c d k) (hi : i = 240 * t + 4 * (sT S t).1 3 + k) : upd (m_pv S m t a b c d k) i x = m_pv S m t a b c d (k + 1) := by
  subst hx hi
  refine upd_eq (fun j => ?_)
  unfold m_pv
  by_cases e : j = 240 * t + 4 * (sT S t).1 3 + k
  · rw [if_pos e, if_pos (by omega), e]; congr 1; omega
  · rw [if_neg e]
    by_cases h : 240 * t + 4 * (sT S t).1 3 ≤ j ∧ j < 240 * t + 4 * (sT S t).1 3 + k
    · rw [if_pos h, if_pos (by omega)]
    · rw [if_neg h, if_neg (by omega)]
theorem s_vals_nI {T : Tb} {a b c d : Int32} {k : Nat} (h : s_vals T a b c d = true) (hk : k < T.1 1) : nI (s_arg a b c d k).toNatClampNeg = s_arg a b c d k := by
  have := allN_lt.mp h k hk
  obtain ⟨z, hz, -, e⟩ := nI_tc (by decide) (by decide) this
  rw [e, nI_clamp (by omega)]
theorem wput {G : x_G} {lo : x_L} {S : St} {m : Nat → Nat → Int32} {t k : Nat} {a b c d : Int32} (hT : Tok (sT S t)) (hr : (sT S t).1 3 ≠ 60) (hv : s_vals (sT S t) a b c d = true) (hk : k = (sT S t).1 1) : mco G lo (nS S) (va_up (va_up (mS S m) 4 (m_pv S m t a b c d k)) 3 (upd (va_up (mS S m) 4 (m_pv S m t a b c d k) 3) t (nI ((sT S t).1 3 + 1)))) = mco G lo (nS (setT S t (putT (sT S t) a b c d))) (mS (setT S t (putT (sT S t) a b c d)) m) := by
  subst hk
  obtain ⟨k1, k2, k3, k4, k5, k6, k7, k8, k9, k0⟩ := id hT
  refine mco_ext rfl (tags_all ?_ ?_ ?_ ?_ ?_ ?_ ?_ ?_ ?_ ?_ ?_ ?_ ?_ ?_ ?_ ?_ ?_ ?_ ?_ ?_ ?_ ?_ ?_ ?_ ?_ ?_)
  · exact row_s (fun T => T.1 1) rfl
  · exact row_s (fun T => T.1 2) rfl
  · exact row_t (fun T => T.1 3) rfl
  · show m_pv S m t a b c d ((sT S t).1 1) = _
    funext j
    show m_pv S m t a b c d ((sT S t).1 1) j = nI ((sT (setT S t (putT (sT S t) a b c d)) (j / 240)).2 0 (j % 240))
    unfold m_pv
    rw [sT_set]
    by_cases e : j / 240 = t
    · rw [if_pos e]
      show _ = nI (if (sT S t).1 3 * 4 ≤ j % 240 ∧ j % 240 < (sT S t).1 3 * 4 + (sT S t).1 1 then _ else _)
      by_cases h : (sT S t).1 3 * 4 ≤ j % 240 ∧ j % 240 < (sT S t).1 3 * 4 + (sT S t).1 1
      · rw [if_pos h, if_pos (by omega), show j - (240 * t + 4 * (sT S t).1 3) = j % 240 - (sT S t).1 3 * 4 by omega]
        exact (s_vals_nI hv (by omega)).symm
      · rw [if_neg h, if_neg (by omega), ← e]; rfl
    · rw [if_neg e, if_neg (by omega)]; rfl
  · exact row_s (fun T => T.1 5) rfl
  · exact row_d (d := 4) (fun T k => T.2 1 k) (fun _ => rfl)
  · exact row_d (d := 4) (fun T k => T.2 2 k) (fun _ => rfl)
  · exact row_d (d := 4) (fun T k => T.2 3 k) (fun _ => rfl)
  · exact row_s (fun T => T.1 4) rfl
  all_goals rfl
def strT (T : Tb) (r : Nat) : Tb := (va_up T.1 3 (T.1 3 - 1), va_up T.2 0 (fun j => if 4 * r ≤ j ∧ j < 4 * (T.1 3 - 1) then T.2 0 (j + 4) else T.2 0 j))
def P_strike (S : St) (t r : Int32) : Bool × St := if m_isT S t = true ∧ x_in ((sT S t.toNatClampNeg).1 3) r = true then (true, setT S t.toNatClampNeg (strT (sT S t.toNatClampNeg) r.toNatClampNeg)) else (false, S)
def m_sv (S : St) (m : Nat → Nat → Int32) (t r k : Nat) : Nat → Int32 := fun j => if 240 * t + 4 * r ≤ j ∧ j < k then mS S m 4 (j + 4) else mS S m 4 j
theorem m_sv_0 {S : St} {m : Nat → Nat → Int32} {t r : Nat} : m_sv S m t r (240 * t + 4 * r) = mS S m 4 := by
  funext j; unfold m_sv; rw [if_neg (by omega)]
theorem m_sv_s {S : St} {m : Nat → Nat → Int32} {t r k : Nat} (hk : 240 * t + 4 * r ≤ k) : upd (m_sv S m t r k) k (mS S m 4 (k + 4)) = m_sv S m t r (k + 1) := by
  refine upd_eq (fun j => ?_)
  unfold m_sv
  by_cases e : j = k
  · rw [if_pos e, if_pos (by omega), e]
  · rw [if_neg e]
    by_cases h : 240 * t + 4 * r ≤ j ∧ j < k
    · rw [if_pos h, if_pos (by omega)]
    · rw [if_neg h, if_neg (by omega)]
theorem wstr {G : x_G} {lo : x_L} {S : St} {m : Nat → Nat → Int32} {t r k : Nat} (hT : Tok (sT S t)) (hr : r < (sT S t).1 3) (hk : k = 240 * t + 4 * ((sT S t).1 3 - 1)) : mco G lo (nS S) (va_up (va_up (mS S m) 3 (upd (mS S m 3) t (nI ((sT S t).1 3 - 1)))) 4 (m_sv S m t r k)) = mco G lo (nS (setT S t (strT (sT S t) r))) (mS (setT S t (strT (sT S t) r)) m) := by
  subst hk
  obtain ⟨k1, k2, k3, k4, k5, k6, k7, k8, k9, k0⟩ := id hT
  refine mco_ext rfl (tags_all ?_ ?_ ?_ ?_ ?_ ?_ ?_ ?_ ?_ ?_ ?_ ?_ ?_ ?_ ?_ ?_ ?_ ?_ ?_ ?_ ?_ ?_ ?_ ?_ ?_ ?_)
  · exact row_s (fun T => T.1 1) rfl
  · exact row_s (fun T => T.1 2) rfl
  · exact row_t (fun T => T.1 3) rfl
  · funext j
    show m_sv S m t r _ j = nI ((sT (setT S t (strT (sT S t) r)) (j / 240)).2 0 (j % 240))
    unfold m_sv
    rw [sT_set]
    by_cases e : j / 240 = t
    · rw [if_pos e]
      show _ = nI (if 4 * r ≤ j % 240 ∧ j % 240 < 4 * ((sT S t).1 3 - 1) then _ else _)
      by_cases h : 4 * r ≤ j % 240 ∧ j % 240 < 4 * ((sT S t).1 3 - 1)
      · rw [if_pos h, if_pos (by omega)]
        show nI ((sT S ((j + 4) / 240)).2 0 ((j + 4) % 240)) = _
        rw [show (j + 4) / 240 = t by omega, show (j + 4) % 240 = j % 240 + 4 by omega]
      · rw [if_neg h, if_neg (by omega), ← e]; rfl
    · rw [if_neg e, if_neg (by omega)]; rfl
  · exact row_s (fun T => T.1 5) rfl
  · exact row_d (d := 4) (fun T k => T.2 1 k) (fun _ => rfl)
  · exact row_d (d := 4) (fun T k => T.2 2 k) (fun _ => rfl)
  · exact row_d (d := 4) (fun T k => T.2 3 k) (fun _ => rfl)
  · exact row_s (fun T => T.1 4) rfl
  all_goals rfl
def setB (S : St) (b : Nat) : St := (S.1, S.2.1, S.2.2.1, va_up S.2.2.2 2 b)
def P_build (S : St) (a : Int32) (is : Bool) : Bool × St := if x_in (sn S 1) a = true ∧ (sn S 2).testBit a.toNatClampNeg ≠ is ∧ (is = true → m_set S (sn S 2 ||| 2 ^ a.toNatClampNeg) = true) then (true, setB S (sn S 2 ^^^ 2 ^ a.toNatClampNeg)) else (false, S)
theorem or_lt {s k n : Nat} (h : s < 2 ^ n) (hk : k < n) : s ||| 2 ^ k < 2 ^ n := Nat.or_lt_two_pow h (Nat.pow_lt_pow_right (by decide) hk)
theorem wbld {G : x_G} {lo : x_L} {S : St} {m : Nat → Nat → Int32} (b : Nat) : mco G lo (va_up (nS S) 2 (nI b)) (mS S m) = mco G lo (nS (setB S b)) (mS (setB S b) m) := by
  refine mco_ext rfl (tags_all ?_ ?_ ?_ ?_ ?_ ?_ ?_ ?_ ?_ ?_ ?_ ?_ ?_ ?_ ?_ ?_ ?_ ?_ ?_ ?_ ?_ ?_ ?_ ?_ ?_ ?_)
  all_goals rfl
