/-! the state that both sides hold: tables; questions (table, picture); aids (table, picture); 0 how many questions, 1 aids, 2 built (bits) -/
abbrev St : Type := (Nat → Tb) × (Nat → Nat × Qn) × (Nat → Nat × Ad) × (Nat → Nat)
abbrev sT (S : St) (t : Nat) : Tb := S.1 t
abbrev qt (S : St) (q : Nat) : Nat := (S.2.1 q).1
abbrev qQ (S : St) (q : Nat) : Qn := (S.2.1 q).2
abbrev ao (S : St) (a : Nat) : Nat := (S.2.2.1 a).1
abbrev aA (S : St) (a : Nat) : Ad := (S.2.2.1 a).2
abbrev sn (S : St) (i : Nat) : Nat := S.2.2.2 i
def Sok (S : St) : Prop := (∀ t, t < 4 → (0 < (sT S t).1 1 → Tok (sT S t)) ∧ ((sT S t).1 1 = 0 → (sT S t).1 3 = 0)) ∧ sn S 0 ≤ 24 ∧ sn S 1 ≤ 12 ∧ sn S 2 < 2 ^ sn S 1 ∧ (∀ q, q < sn S 0 → qt S q < 4 ∧ 0 < (sT S (qt S q)).1 1 ∧ Qok (sT S (qt S q)) (qQ S q)) ∧ (∀ a, a < sn S 1 → ao S a < 4 ∧ 0 < (sT S (ao S a)).1 1 ∧ Aok (sT S (ao S a)) (aA S a))
/-- the reference's cells -/
def m_ob (lo : x_L) (S : St) : List Value := [.ref (lo 1), .ref (lo 2), .ref (lo 3), .ref (lo 4), .ref (lo 5), .ref (lo 6), .ref (lo 7), .ref (lo 8), .ref (lo 9), .int (nI (sn S 0)), .ref (lo 11), .ref (lo 12), .ref (lo 13), .ref (lo 14), .ref (lo 15), .ref (lo 16), .ref (lo 17), .int (nI (sn S 1)), .int (nI (sn S 2)), .ref (lo 20), .ref (lo 21), .ref (lo 22), .ref (lo 23), .ref (lo 24), .ref (lo 25), .ref (lo 26), .ref (lo 27), .ref (lo 28), .ref (lo 29)]
def m_ar (G : x_G) (S : St) (m : Nat → Nat → Int32) : Nat → Option va_E
  | 1 => some (.inl (G.2 0, 4, .inl (fun j => nI ((sT S j).1 1))))
  | 2 => some (.inl (G.2 0, 4, .inl (fun j => nI ((sT S j).1 2))))
  | 3 => some (.inl (G.2 0, 4, .inl (fun j => nI ((sT S j).1 3))))
  | 4 => some (.inl (G.2 0, 960, .inl (fun j => nI ((sT S (j / 240)).2 0 (j % 240)))))
  | 5 => some (.inl (G.2 0, 4, .inl (fun j => nI ((sT S j).1 5))))
  | 6 => some (.inl (G.2 0, 16, .inl (fun j => nI ((sT S (j / 4)).2 1 (j % 4)))))
  | 7 => some (.inl (G.2 0, 16, .inl (fun j => nI ((sT S (j / 4)).2 2 (j % 4)))))
  | 8 => some (.inl (G.2 0, 16, .inl (fun j => nI ((sT S (j / 4)).2 3 (j % 4)))))
  | 9 => some (.inl (G.2 0, 4, .inl (fun j => nI ((sT S j).1 4))))
  | 11 => some (.inl (G.2 0, 24, .inl (fun j => nI (qt S j))))
  | 12 => some (.inl (G.2 0, 24, .inl (fun j => nI ((qQ S j).1 0))))
  | 13 => some (.inl (G.2 0, 24, .inl (fun j => nO ((qQ S j).1 3))))
  | 14 => some (.inl (G.2 0, 24, .inl (fun j => nI ((qQ S j).1 1))))
  | 15 => some (.inl (G.2 1, 96, .inl (fun j => bI (((qQ S (j / 4)).1 2).testBit (j % 4)))))
  | 16 => some (.inl (G.2 0, 96, .inl (fun j => nI ((qQ S (j / 4)).2 0 (j % 4)))))
  | 17 => some (.inl (G.2 0, 96, .inl (fun j => nI ((qQ S (j / 4)).2 1 (j % 4)))))
  | 20 => some (.inl (G.2 0, 12, .inl (fun j => nI ((aA S j).1 0))))
  | 21 => some (.inl (G.2 0, 12, .inl (fun j => nI (ao S j))))
  | 22 => some (.inl (G.2 0, 12, .inl (fun j => nI ((aA S j).1 1))))
  | 23 => some (.inl (G.2 0, 36, .inl (fun j => m 0 j)))
  | 24 => some (.inl (G.2 0, 12, .inl (fun j => nI ((aA S j).1 2))))
  | 25 => some (.inl (G.2 0, 12, .inl (fun j => m 1 j)))
  | 26 => some (.inl (G.2 0, 12, .inl (fun j => nI ((aA S j).1 4))))
  | 27 => some (.inl (G.2 0, 12, .inl (fun j => nI ((aA S j).1 5))))
  | 28 => some (.inl (G.2 0, 312, .inl (fun j => m 2 j)))
  | 29 => some (.inl (G.2 0, 12, .inl (fun j => m 3 j)))
  | _ => none
def isM (G : x_G) (lo : x_L) (co : x_C) (S : St) (m : Nat → Nat → Int32) : Prop := co 0 = some (.inr (10, m_ob lo S)) ∧ ∀ i e, m_ar G S m i = some e → co i = some e
def Mok (S : St) (m : Nat → Nat → Int32) : Prop := ∀ a, a < sn S 1 → (∀ i, i < (aA S a).1 1 → m 0 (3 * a + i) = nI ((aA S a).2 i)) ∧ ((aA S a).1 0 = 2 ∨ (aA S a).1 0 = 3 → m 1 a = nI ((aA S a).1 3))
/-- a number within: 0 to n - 1 -/
def x_in (n : Nat) (q : Int32) : Bool := !decide (q < 0) && !decide (nI n ≤ q)
theorem x_in_ex {n : Nat} {q : Int32} (hn : n < 2 ^ 31) (h : x_in n q = true) : ∃ k, k < n ∧ q = nI k := by
  unfold x_in at h
  rcases pk_ix q (n := n) hn with e | e | e
  · rw [decide_eq_true e] at h; simp at h
  · rw [decide_eq_true e] at h; simp at h
  · exact e
theorem x_in_nI {n k : Nat} (hn : n < 2 ^ 31) (hk : k < 2 ^ 31) : x_in n (nI k) = decide (k < n) := by
  unfold x_in
  rw [decide_eq_false (nI_pos hk), show decide (nI n ≤ nI k) = decide (n ≤ k) from decide_eq_decide.mpr (nI_leI hn hk)]
  by_cases h : n ≤ k
  · rw [decide_eq_true h, decide_eq_false (by omega)]; rfl
  · rw [decide_eq_false h, decide_eq_true (by omega)]; rfl
theorem s_btw_sub {n : Nat} {q : Int32} (hn : n < 2 ^ 30) : s_btw q (nI 0) (nI n - nI 1) = x_in n q := by
  unfold s_btw x_in
  rw [show nI 0 = 0 from rfl]
  congr 2
  apply decide_eq_decide.mpr
  rw [fa_lt, fa_le, pk_sub_toInt hn (by decide), nI_toInt (by omega)]
  omega
theorem s_btw_pos {n : Nat} {q : Int32} (h0 : 0 < n) (hn : n < 2 ^ 30) : s_btw q (nI 0) (nI (n - 1)) = x_in n q := by
  rw [← s_btw_sub hn, pk_sub h0]
def m_isT (S : St) (t : Int32) : Bool := x_in 4 t && decide (0 < (sT S t.toNatClampNeg).1 1)
theorem m_isT_ex {S : St} {t : Int32} (h : m_isT S t = true) : ∃ k, k < 4 ∧ 0 < (sT S k).1 1 ∧ t = nI k := by
  unfold m_isT at h
  rw [Bool.and_eq_true] at h
  obtain ⟨k, hk, e⟩ := x_in_ex (by decide) h.1
  refine ⟨k, hk, ?_, e⟩
  have := of_decide_eq_true h.2
  rw [e, nI_clamp (by omega)] at this
  exact this
theorem m_isT_nI {S : St} {k : Nat} (hk : k < 2 ^ 31) : m_isT S (nI k) = decide (k < 4 ∧ 0 < (sT S k).1 1) := by
  unfold m_isT
  rw [x_in_nI (by decide) hk, nI_clamp hk, Bool.decide_and]
def m_isC (S : St) (t c : Int32) : Bool := m_isT S t && t_has (sT S t.toNatClampNeg) c
theorem t_has_xin (T : Tb) (c : Int32) : t_has T c = x_in (T.1 1) c := rfl
/-- columns in turn -/
def s_turn (T : Tb) (a b c : Int32) : Bool := t_has T a && t_hon T b && t_hon T c && (if b = (-1) then decide (c = (-1)) else (!decide (a = b) && !decide (a = c) && !decide (b = c)))
theorem dm4 {t c : Nat} (h : c < 4) : (4 * t + c) / 4 = t ∧ (4 * t + c) % 4 = c := by omega
theorem dm240 {t c : Nat} (h : c < 240) : (240 * t + c) / 240 = t ∧ (240 * t + c) % 240 = c := by omega
section XW6
variable {p : Program} {l : Launch} {e : Env} {R : Room} {s : State} {m : MethodId} {args : Array Value} {below : List Frame} {meth : Method} {c : Code} {H : Heap} {locs : List Loc} {cells slots : Nat} {Q : State → Prop}
variable {cc : ByteArray} {pc : Nat} {ls : Array Slot} {rest : List Value} {G : x_G} {lo : x_L} {co : x_C} {nL : Nat} {own : String}
theorem x_ialdE {t n k : Nat} {f : Nat → Int32} {x : Int32} (cx : CallFix p m c cc nL s args x_gw own) (hk : x_K G s) (hw : x_R G lo co H) (ha : co t = some (.inl (G.2 0, n, .inl f))) (hlt : k < n) (hn : n < 2 ^ 31) (hv : f k = x) (hdg : decode cc pc = .ok (.iaload, 1))
    (kk : W p l e R s m args below meth c H locs cells slots Q (F0 m (pc + 1) ls (.int x :: rest))) : W p l e R s m args below meth c H locs cells slots Q (F0 m pc ls (.int (nI k) :: .ref (lo t) :: rest)) := by
  subst hv; exact x_ialdN cx hk hw ha hlt hn hdg kk
theorem x_zaldE {t n k : Nat} {f : Nat → Int32} {x : Int32} (cx : CallFix p m c cc nL s args x_gw own) (hk : x_K G s) (hw : x_R G lo co H) (ha : co t = some (.inl (G.2 1, n, .inl f))) (hlt : k < n) (hn : n < 2 ^ 31) (hv : f k = x) (hdg : decode cc pc = .ok (.baload, 1))
    (kk : W p l e R s m args below meth c H locs cells slots Q (F0 m (pc + 1) ls (.int x :: rest))) : W p l e R s m args below meth c H locs cells slots Q (F0 m pc ls (.int (nI k) :: .ref (lo t) :: rest)) := by
  subst hv; exact x_zaldN cx hk hw ha hlt hn hdg kk
end XW6
theorem nI_shr {n k : Nat} (hk : k < 32) (hn : n < 2 ^ 31) : nI n >>> (nI k &&& 31) = nI (n / 2 ^ k) :=
  pk_shrN hn (nI k &&& 31) k (by
    have : ∀ j : Fin 32, ((nI j.val &&& 31).toBitVec.smod 32).toNat = j.val := by decide +kernel
    exact this ⟨k, hk⟩)
theorem nI_shb {n k : Nat} (hk : k < 32) (hn : n < 2 ^ 31) : (nI n >>> (nI k &&& 31)) &&& nI 1 = nI 1 ↔ n.testBit k = true := by
  rw [nI_shr hk hn, nI_and1 (Nat.lt_of_le_of_lt (Nat.div_le_self _ _) (by omega))]
  have e : n / 2 ^ k % 2 = 1 ↔ n.testBit k = true := by
    rw [Nat.testBit, Nat.shiftRight_eq_div_pow, Nat.and_comm, Nat.and_one_is_mod]
    rcases Nat.mod_two_eq_zero_or_one (n / 2 ^ k) with h | h <;> rw [h] <;> decide
  rw [← e]
  exact nI_eq (by omega) (by decide)
