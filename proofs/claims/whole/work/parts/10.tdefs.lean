/-! the class: pictures of tables, and what its small methods answer -/
abbrev Tb : Type := (Nat → Nat) × (Nat → Nat → Nat)
def isTb (G : x_G) (lo : x_L) (co : x_C) (b : Nat) (T : Tb) : Prop := co b = some (.inr (8, [.int (nI (T.1 0)), .int (nI (T.1 1)), .int (nI (T.1 2)), .int (nI (T.1 3)), .int (nI (T.1 4)), .int (nI (T.1 5)), .ref (lo (b + 1)), .ref (lo (b + 2)), .ref (lo (b + 3)), .ref (lo (b + 4))])) ∧ co (b + 1) = some (.inl (G.2 0, 240, .inl (fun j => nI (T.2 0 j)))) ∧ co (b + 2) = some (.inl (G.2 0, 4, .inl (fun j => nI (T.2 1 j)))) ∧ co (b + 3) = some (.inl (G.2 0, 4, .inl (fun j => nI (T.2 2 j)))) ∧ co (b + 4) = some (.inl (G.2 0, 4, .inl (fun j => nI (T.2 3 j))))
def Tok (T : Tb) : Prop := 1 ≤ T.1 1 ∧ T.1 1 ≤ 4 ∧ 2 ≤ T.1 2 ∧ T.1 2 ≤ 8 ∧ T.1 3 ≤ 60 ∧ T.1 4 ≤ 1000 ∧ T.1 5 ≤ 60 ∧ (∀ r c, r < T.1 3 → c < T.1 1 → T.2 0 (r * 4 + c) ≤ 999) ∧ (∀ c, c < T.1 1 → T.2 1 c ≤ T.1 5 ∧ (0 < T.1 5 → 0 < T.2 1 c) ∧ T.2 2 c ≤ T.2 3 c ∧ T.2 3 c ≤ 999) ∧ T.1 0 < 4
def s_btw (n a b : Int32) : Bool := !decide (n < a) && !decide (b < n)
def s_rng (f t : Int32) : Bool := !decide (f < 0) && !decide (t < f) && !decide (nI 999 < t)
def s_bit (n : Int32) : Int32 := if n < 0 then 0 else 1 <<< (n &&& 31)
def s_up (n d : Nat) : Nat := (n + d - 1) / d
theorem s_up_0 (d : Nat) : s_up 0 d = 0 := by
  unfold s_up
  rcases Nat.eq_zero_or_pos d with h | h
  · subst h; rfl
  · exact Nat.div_eq_of_lt (by omega)
theorem s_up_le {n d : Nat} (hd : 0 < d) : s_up n d ≤ n := by
  unfold s_up
  rcases Nat.eq_zero_or_pos n with h | h
  · subst h; rw [Nat.div_eq_of_lt (by omega)]; exact Nat.le_refl _
  · rw [Nat.div_le_iff_le_mul_add_pred hd]
    have : n ≤ d * n := Nat.le_mul_of_pos_left n hd
    omega
theorem s_up_z (n : Nat) : s_up n 0 = 0 := by simp [s_up]
theorem nI_shl {k : Nat} (hk : k < 31) : nI 1 <<< (nI k &&& 31) = nI (2 ^ k) := by
  have : ∀ j : Fin 31, nI 1 <<< (nI j.val &&& 31) = nI (2 ^ j.val) := by decide +kernel
  exact this ⟨k, hk⟩
theorem nI_sht : ∀ j : Fin 32, (((nI j.val).toUInt32 &&& Int32.toUInt32 31).toBitVec % 32).toNat = j.val := by decide +kernel
theorem nI_and1 {n : Nat} (h : n < 2 ^ 32) : nI n &&& nI 1 = nI (n % 2) := by
  have := pk_andN (n := n) h (m := nI 1) 1 (by decide)
  simpa using this
theorem nI_tb {b k : Nat} (hk : k < 32) (hb : b < 2 ^ 31) : (((nI b).toUInt32 >>> ((nI k).toUInt32 &&& Int32.toUInt32 31)).toInt32 &&& nI 1) = 0 ↔ b.testBit k = false := by
  rw [pk_ushrN (by omega) (nI k) k (nI_sht ⟨k, hk⟩), nI_and1 (Nat.lt_of_le_of_lt (Nat.div_le_self _ _) (by omega))]
  have e : b / 2 ^ k % 2 = 0 ↔ b.testBit k = false := by
    rw [Nat.testBit, Nat.shiftRight_eq_div_pow, Nat.and_comm, Nat.and_one_is_mod]
    rcases Nat.mod_two_eq_zero_or_one (b / 2 ^ k) with h | h <;> rw [h] <;> decide
  rw [← e]
  exact nI_eq (by omega) (by decide : 0 < 2 ^ 31)
theorem nI_tb' {b k : Nat} (hk : k < 32) (hb : b < 2 ^ 31) (h : ¬ (((nI b).toUInt32 >>> ((nI k).toUInt32 &&& Int32.toUInt32 31)).toInt32 &&& nI 1) = 0) : b.testBit k = true := by
  cases e : b.testBit k with
  | true => rfl
  | false => exact absurd ((nI_tb hk hb).mpr e) h
def t_has (T : Tb) (c : Int32) : Bool := !decide (c < 0) && !decide (nI (T.1 1) ≤ c)
def t_hon (T : Tb) (c : Int32) : Bool := decide (c = (-1)) || t_has T c
def t_hall (T : Tb) (b : Int32) : Bool := decide ((b.toUInt32 >>> ((nI (T.1 1)).toUInt32 &&& Int32.toUInt32 31)).toInt32 = 0)
def t_all1 (T : Tb) (c v : Int32) : Bool := !t_has T c || s_btw v (nI 0) (nI 999)
def t_all (T : Tb) (a b c d : Int32) : Bool := t_all1 T (nI 0) a && t_all1 T (nI 1) b && t_all1 T (nI 2) c && t_all1 T (nI 3) d
/-- the value at a place, 0 where there is none -/
def t_v (T : Tb) (r c : Nat) : Nat := if r < T.1 3 ∧ c < T.1 1 then T.2 0 (r * 4 + c) else 0
def t_like (T : Tb) (r o b : Nat) : Bool := allN (T.1 1) (fun c => !b.testBit c || decide (t_v T r c = t_v T o c))
def t_first (T : Tb) (r b : Nat) : Bool := allN r (fun e => !t_like T e r b)
def t_unl (T : Tb) (b : Nat) : Nat := cntN (T.1 3) (fun r => t_first T r b)
def t_grp (T : Tb) (b : Nat) : Nat → Nat
  | 0 => 1
  | n + 1 => t_grp T b n * (if b.testBit n = true then T.2 1 n else 1)
def t_groups (T : Tb) (b : Nat) : Nat := min (t_grp T b (T.1 1)) (T.1 5)
/-- what passes a test, of m rows, by counts -/
def t_pass (T : Tb) (m c f t : Nat) : Nat := if m = 0 ∨ min t (T.2 3 c) < max f (T.2 2 c) then 0 else if f = t then s_up m (T.2 1 c) else s_up (m * (min t (T.2 3 c) - max f (T.2 2 c) + 1)) (T.2 3 c - T.2 2 c + 1)
def t_min (T : Tb) (c : Nat) : Nat → Nat
  | 0 => t_v T 0 c
  | 1 => t_v T 0 c
  | n + 2 => min (t_min T c (n + 1)) (t_v T (n + 1) c)
def t_max (T : Tb) (c : Nat) : Nat → Nat
  | 0 => t_v T 0 c
  | 1 => t_v T 0 c
  | n + 2 => max (t_max T c (n + 1)) (t_v T (n + 1) c)
def t_cc (T : Tb) (c w : Int32) : Int32 := if t_has T c = true then (if w = 2 then nI (T.2 1 c.toNatClampNeg) else if w = 3 then nI (T.2 2 c.toNatClampNeg) else if w = 4 then nI (T.2 3 c.toNatClampNeg) else -1) else -1
theorem t_has_nI {T : Tb} {c : Nat} (hT : T.1 1 ≤ 4) (hc : c < 2 ^ 31) : t_has T (nI c) = decide (c < T.1 1) := by
  unfold t_has
  rw [decide_eq_false (nI_pos hc)]
  by_cases h : T.1 1 ≤ c
  · rw [decide_eq_true ((nI_leI (by omega) hc).mpr h), decide_eq_false (by omega)]; rfl
  · rw [decide_eq_false (fun q => h ((nI_leI (by omega) hc).mp q)), decide_eq_true (by omega)]; rfl
theorem t_has_ex {T : Tb} {c : Int32} (hT : T.1 1 ≤ 4) (h : t_has T c = true) : ∃ k, k < T.1 1 ∧ c = nI k := by
  unfold t_has at h
  rcases pk_ix c (n := T.1 1) (by omega) with q | q | q
  · rw [decide_eq_true q] at h; simp at h
  · rw [decide_eq_true q] at h; simp at h
  · exact q
