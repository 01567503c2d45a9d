section XW7
variable {p : Program} {l : Launch} {e : Env} {R : Room} {s : State} {m : MethodId} {args : Array Value} {below : List Frame} {meth : Method} {c : Code} {H : Heap} {locs : List Loc} {cells slots : Nat} {Q : State → Prop}
variable {cc : ByteArray} {pc : Nat} {ls : Array Slot} {rest : List Value} {nL : Nat} {own : String}
theorem nO_m1 {p : Nat} (h : p < 2 ^ 31) : nO p = (-1) ↔ p = 0 := by
  cases p with
  | zero => exact ⟨fun _ => rfl, fun _ => rfl⟩
  | succ p =>
    refine ⟨fun q => ?_, fun q => by omega⟩
    have q2 : nI p = -1 := q
    exact absurd (show nI p < 0 by rw [q2]; decide) (nI_pos (by omega))
theorem x_icmpO1_ne {a : Nat} {off : Int} {tgt : Nat} (cx : CallFix p m c cc nL s args x_gw own) (hdg : decode cc pc = .ok (.if_icmp .ne off, 3)) (ht : (pc : Int) + off = (tgt : Int)) (h : a < 2 ^ 31)
    (kt : ¬ a = 0 → W p l e R s m args below meth c H locs cells slots Q (F0 m tgt ls rest)) (kf : a = 0 → W p l e R s m args below meth c H locs cells slots Q (F0 m (pc + 3) ls rest)) : W p l e R s m args below meth c H locs cells slots Q (F0 m pc ls (.int (-1) :: .int (nO a) :: rest)) :=
  lv_icmp_ne cx.1 cx.2.1 hdg ht (fun q => kt (fun w => q ((nO_m1 h).mpr w))) (fun q => kf ((nO_m1 h).mp q))
theorem x_icmpO1_eq {a : Nat} {off : Int} {tgt : Nat} (cx : CallFix p m c cc nL s args x_gw own) (hdg : decode cc pc = .ok (.if_icmp .eq off, 3)) (ht : (pc : Int) + off = (tgt : Int)) (h : a < 2 ^ 31)
    (kt : a = 0 → W p l e R s m args below meth c H locs cells slots Q (F0 m tgt ls rest)) (kf : ¬ a = 0 → W p l e R s m args below meth c H locs cells slots Q (F0 m (pc + 3) ls rest)) : W p l e R s m args below meth c H locs cells slots Q (F0 m pc ls (.int (-1) :: .int (nO a) :: rest)) :=
  lv_icmp_eq cx.1 cx.2.1 hdg ht (fun q => kt ((nO_m1 h).mp q)) (fun q => kf (fun w => q ((nO_m1 h).mpr w)))
theorem x_i2lN {a : Nat} (cx : CallFix p m c cc nL s args x_gw own) (hdg : decode cc pc = .ok (.i2l, 1)) (h : a < 2 ^ 31) (k : W p l e R s m args below meth c H locs cells slots Q (F0 m (pc + 1) ls (.long (lN a) :: rest))) : W p l e R s m args below meth c H locs cells slots Q (F0 m pc ls (.int (nI a) :: rest)) :=
  lv_i2l cx.1 cx.2.1 hdg (nI_l h) k
theorem x_laddN {a b : Nat} (cx : CallFix p m c cc nL s args x_gw own) (hdg : decode cc pc = .ok (.ladd, 1)) (k : W p l e R s m args below meth c H locs cells slots Q (F0 m (pc + 1) ls (.long (lN (a + b)) :: rest))) : W p l e R s m args below meth c H locs cells slots Q (F0 m pc ls (.long (lN b) :: .long (lN a) :: rest)) :=
  lv_ladd cx.1 cx.2.1 hdg (by rw [lN_add]; exact k)
theorem x_lmulN {a b : Nat} (cx : CallFix p m c cc nL s args x_gw own) (hdg : decode cc pc = .ok (.lmul, 1)) (k : W p l e R s m args below meth c H locs cells slots Q (F0 m (pc + 1) ls (.long (lN (a * b)) :: rest))) : W p l e R s m args below meth c H locs cells slots Q (F0 m pc ls (.long (lN b) :: .long (lN a) :: rest)) :=
  lv_lmul cx.1 cx.2.1 hdg (by rw [lN_mul]; exact k)
end XW7
def m_fetch (S : St) (q p : Nat) : Nat := if p = 0 then s_up ((sT S (qt S q)).1 3) ((sT S (qt S q)).1 2) else a_fetch (sT S (qt S q)) (qQ S q) (aA S (p - 1))
def m_plan (S : St) (q : Nat) : Nat := m_pl S q (sn S 2) (sn S 1)
/-! the public answers -/
def P_counts (S : St) (t c w : Int32) : Int32 := if m_isT S t = true then (if w = 0 then nI ((sT S t.toNatClampNeg).1 5) else if w = 1 then nI (s_up ((sT S t.toNatClampNeg).1 5) ((sT S t.toNatClampNeg).1 2)) else if w = 5 then nI ((sT S t.toNatClampNeg).1 3) else t_cc (sT S t.toNatClampNeg) c w) else -1
def P_cost (S : St) (q a : Int32) : Int32 := if x_in (sn S 0) q = true then (if a = (-1) then nI (m_plain S q.toNatClampNeg) else if x_in (sn S 1) a = true ∧ m_helps S q.toNatClampNeg a.toNatClampNeg = true then nI (m_cost S q.toNatClampNeg a.toNatClampNeg) else -1) else -1
def P_plan (S : St) (q : Int32) : Int32 := if x_in (sn S 0) q = true then nO (m_plan S q.toNatClampNeg) else -2
def P_run (S : St) (q w : Int32) : Int32 := if x_in (sn S 0) q = true then (if w = 0 then nI (q_ans (sT S (qt S q.toNatClampNeg)) (qQ S q.toNatClampNeg)) else if w = 1 then nI (q_sum (sT S (qt S q.toNatClampNeg)) (qQ S q.toNatClampNeg)) else if w = 2 then nI (m_fetch S q.toNatClampNeg (m_plan S q.toNatClampNeg)) else if w = 3 then nI (m_pc S q.toNatClampNeg (m_plan S q.toNatClampNeg)) else -1) else -1
def P_total (S : St) (s : Int32) : Int64 := if m_isS S s = true then lN (m_tot S s.toNatClampNeg) else -1
def P_room (S : St) (s : Int32) : Int32 := if m_isS S s = true then nI (m_rs S s.toNatClampNeg (sn S 1)) else -1
def P_look (S : St) (a w : Int32) : Int64 := if x_in (sn S 1) a = true then (if w = 0 then lN ((aA S a.toNatClampNeg).1 0) else if w = 1 then lN (ao S a.toNatClampNeg) else if w = 2 then lN (m_sp S a.toNatClampNeg) else if w = 3 then (if (sn S 2).testBit a.toNatClampNeg = true then 1 else 0) else if w = 4 then lN (m_tot S 0) - lN (m_tot S (2 ^ a.toNatClampNeg)) else if w = 5 then (if (sn S 2).testBit a.toNatClampNeg = true then lN (m_tot S (sn S 2 ^^^ 2 ^ a.toNatClampNeg)) - lN (m_tot S (sn S 2)) else -1) else -1) else -1
def P_count (S : St) (w : Int32) : Int32 := if w = 0 then nI (cntN 4 (fun t => decide (0 < (sT S t).1 1))) else if w = 1 then nI (sn S 0) else if w = 2 then nI (sn S 1) else if w = 3 then nI (sumN 4 (fun t => (sT S t).1 3)) else -1
/-- s comes ahead of t among sets of like cost -/
def s_dif (s t : Nat) : Nat → Nat
  | 0 => 0
  | n + 1 => if s_dif s t n < n then s_dif s t n else if s.testBit n = t.testBit n then n + 1 else n
def s_ahead (s t : Nat) : Bool := if pop s = pop t then (decide (s_dif s t 12 < 12) && s.testBit (s_dif s t 12)) else decide (pop s < pop t)
theorem s_dif_lt {s t k : Nat} : ∀ {n : Nat}, k < n → (∀ j, j < k → s.testBit j = t.testBit j) → s.testBit k ≠ t.testBit k → s_dif s t n = k
  | 0, h, _, _ => by omega
  | n + 1, h, ha, hb => by
    rw [s_dif]
    rcases Nat.lt_succ_iff_lt_or_eq.mp h with e | e
    · rw [s_dif_lt e ha hb, if_pos e]
    · subst e
      have : s_dif s t k = k := by
        clear hb h
        induction k with
        | zero => rfl
        | succ k ih => rw [s_dif, ih (fun j hj => ha j (by omega)), if_neg (by omega), if_pos (ha k (by omega))]
      rw [this, if_neg (by omega), if_neg hb]
theorem s_dif_all {s t : Nat} : ∀ {n : Nat}, (∀ j, j < n → s.testBit j = t.testBit j) → s_dif s t n = n
  | 0, _ => rfl
  | n + 1, ha => by rw [s_dif, s_dif_all (fun j hj => ha j (by omega)), if_neg (by omega), if_pos (ha n (by omega))]
theorem m_pl_ok {S : St} (q s : Nat) : m_pl S q s (sn S 1) = 0 ∨ (m_pl S q s (sn S 1) - 1 < sn S 1 ∧ m_helps S q (m_pl S q s (sn S 1) - 1) = true) := by
  obtain ⟨h1, h2⟩ := m_pl_le S q s (sn S 1)
  by_cases h : m_pl S q s (sn S 1) = 0
  · exact Or.inl h
  · exact Or.inr ⟨by omega, h2 h⟩
theorem m_helps_same {S : St} {q a : Nat} (h : m_helps S q a = true) : ao S a = qt S q := by
  unfold m_helps at h
  rw [Bool.and_eq_true] at h
  exact of_decide_eq_true h.1
theorem nI_shr0 {n k : Nat} (hk : k < 32) (hn : n < 2 ^ 31) : nI n >>> (nI k &&& 31) = 0 ↔ n < 2 ^ k := by
  rw [nI_shr hk hn, show (0 : Int32) = nI 0 from rfl, nI_eq (Nat.lt_of_le_of_lt (Nat.div_le_self _ _) hn) (by decide), Nat.div_eq_zero_iff]
  have : 0 < 2 ^ k := Nat.two_pow_pos k
  omega
theorem xor_lt {s k n : Nat} (h : s < 2 ^ n) (hk : k < n) : s ^^^ 2 ^ k < 2 ^ n := Nat.xor_lt_two_pow h (Nat.pow_lt_pow_right (by decide) hk)
theorem nI_xor (a b : Nat) : nI a ^^^ nI b = nI (a ^^^ b) := by
  unfold nI
  apply Int32.toBitVec.inj
  rw [Int32.toBitVec_xor, Int32.toBitVec_ofNat', Int32.toBitVec_ofNat', Int32.toBitVec_ofNat']
  apply BitVec.eq_of_toNat_eq
  simp [BitVec.toNat_xor, Nat.xor_mod_two_pow]
section XW8
variable {p : Program} {l : Launch} {e : Env} {R : Room} {s : State} {m : MethodId} {args : Array Value} {below : List Frame} {meth : Method} {c : Code} {H : Heap} {locs : List Loc} {cells slots : Nat} {Q : State → Prop}
variable {cc : ByteArray} {pc : Nat} {ls : Array Slot} {rest : List Value} {nL : Nat} {own : String}
theorem x_iorB {a b : Nat} (cx : CallFix p m c cc nL s args x_gw own) (hdg : decode cc pc = .ok (.ior, 1)) (k : W p l e R s m args below meth c H locs cells slots Q (F0 m (pc + 1) ls (.int (nI (a ||| b)) :: rest))) : W p l e R s m args below meth c H locs cells slots Q (F0 m pc ls (.int (nI b) :: .int (nI a) :: rest)) :=
  lv_ior cx.1 cx.2.1 hdg (by rw [nI_or]; exact k)
theorem x_iandB {a b : Nat} (cx : CallFix p m c cc nL s args x_gw own) (hdg : decode cc pc = .ok (.iand, 1)) (k : W p l e R s m args below meth c H locs cells slots Q (F0 m (pc + 1) ls (.int (nI (a &&& b)) :: rest))) : W p l e R s m args below meth c H locs cells slots Q (F0 m pc ls (.int (nI b) :: .int (nI a) :: rest)) :=
  lv_iand cx.1 cx.2.1 hdg (by rw [nI_and]; exact k)
theorem x_ixorB {a b : Nat} (cx : CallFix p m c cc nL s args x_gw own) (hdg : decode cc pc = .ok (.ixor, 1)) (k : W p l e R s m args below meth c H locs cells slots Q (F0 m (pc + 1) ls (.int (nI (a ^^^ b)) :: rest))) : W p l e R s m args below meth c H locs cells slots Q (F0 m pc ls (.int (nI b) :: .int (nI a) :: rest)) :=
  lv_ixor cx.1 cx.2.1 hdg (by rw [nI_xor]; exact k)
theorem x_ishlB {b : Nat} (cx : CallFix p m c cc nL s args x_gw own) (h : b < 31) (hdg : decode cc pc = .ok (.ishl, 1)) (k : W p l e R s m args below meth c H locs cells slots Q (F0 m (pc + 1) ls (.int (nI (2 ^ b)) :: rest))) : W p l e R s m args below meth c H locs cells slots Q (F0 m pc ls (.int (nI b) :: .int (nI 1) :: rest)) :=
  lv_ishl cx.1 cx.2.1 hdg (by rw [nI_shl h]; exact k)
theorem x_ishrB {a b : Nat} (cx : CallFix p m c cc nL s args x_gw own) (h : b < 32 ∧ a < 2 ^ 31) (hdg : decode cc pc = .ok (.ishr, 1)) (k : W p l e R s m args below meth c H locs cells slots Q (F0 m (pc + 1) ls (.int (nI (a / 2 ^ b)) :: rest))) : W p l e R s m args below meth c H locs cells slots Q (F0 m pc ls (.int (nI b) :: .int (nI a) :: rest)) :=
  lv_ishr cx.1 cx.2.1 hdg (by rw [nI_shr h.1 h.2]; exact k)
end XW8
theorem bO_s {k : Nat} (h : ¬ k = 0) : bO k = 2 ^ (k - 1) := by
  cases k with
  | zero => exact absurd rfl h
  | succ k => rfl
theorem ite_min {c : Bool} {P : Prop} [Decidable P] {m p y : Nat} (hP : ¬ P) (h : y = if c = true then 0 else if p ≤ m then p else m) : y = if P ∨ c = true then 0 else min m p := by
  subst h
  by_cases hc : c = true
  · rw [if_pos hc, if_pos (Or.inr hc)]
  · have hq : ¬ (P ∨ c = true) := fun w => w.elim hP hc
    rw [if_neg hc, if_neg hq]
    split <;> omega
