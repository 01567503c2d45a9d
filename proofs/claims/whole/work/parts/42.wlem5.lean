def s_own (a b c : Int32) : Nat := bO (cO a) ||| bO (cO b) ||| bO (cO c)
def m_turn (S : St) (t a b c : Int32) : Int32 := if (m_isT S t && s_turn (sT S t.toNatClampNeg) a b c) = true then nI (s_own a b c) else -1
theorem sh_b {T : Tb} {b : Int32} (hT : T.1 1 ≤ 4) (h : t_hon T b = true) : (if b = (-1) then nI 0 else nI 1 <<< (b &&& 31)) = nI (bO (cO b)) := by
  by_cases e : b = (-1)
  · rw [if_pos e, cO, if_pos e]; rfl
  · rw [if_neg e, cO, if_neg e]
    unfold t_hon at h
    rw [decide_eq_false e, Bool.false_or] at h
    obtain ⟨k, hk, e2⟩ := t_has_ex hT h
    rw [e2, nI_clamp (by omega), nI_shl (by omega)]; rfl
theorem sh_a {T : Tb} {a : Int32} (hT : T.1 1 ≤ 4) (h : t_has T a = true) : nI 1 <<< (a &&& 31) = nI (bO (cO a)) ∧ ¬ a = (-1) := by
  have hne : ¬ a = (-1) := fun e => by rw [e, t_has_m1] at h; exact absurd h (by decide)
  obtain ⟨k, hk, e2⟩ := t_has_ex hT h
  refine ⟨?_, hne⟩
  rw [cO, if_neg hne, e2, nI_clamp (by omega), nI_shl (by omega)]; rfl
theorem mt_no {S : St} {t a b c : Int32} (h : m_isC S t a = false) : (m_isT S t && s_turn (sT S t.toNatClampNeg) a b c) = false := by
  unfold m_isC at h
  unfold s_turn
  cases e : m_isT S t with
  | false => rfl
  | true => rw [e, Bool.true_and] at h; rw [h]; rfl
theorem turn_hon {T : Tb} {a b c : Int32} (h : s_turn T a b c = true) : t_has T a = true ∧ t_hon T b = true ∧ t_hon T c = true := by
  unfold s_turn at h
  simp only [Bool.and_eq_true] at h
  exact ⟨h.1.1.1, h.1.1.2, h.1.2⟩
/-- an aid comes -/
def addA (S : St) (e : Nat × Ad) : St := (S.1, S.2.1, va_up S.2.2.1 (sn S 1) e, va_up S.2.2.2 1 (sn S 1 + 1))
def s_many (b c : Int32) : Nat := if b = (-1) then 1 else if c = (-1) then 2 else 3
def A00 (k n : Nat) : Ad := (fun i => if i = 0 then k else if i = 1 then n else 0, fun _ => 0)
def mA (m : Nat → Nat → Int32) (n : Nat) (a b c : Int32) : Nat → Nat → Int32 := va_up (va_up m 0 (upd (upd (upd (m 0) (3 * n) a) (3 * n + 1) b) (3 * n + 2) c)) 1 (upd (m 1) n (-1))
/-- the reference's rows behind 'aid' -/
def m_aw (S : St) (m : Nat → Nat → Int32) (t k : Nat) (a b c : Int32) : Nat → Nat → Int32 := fun i => if i = 20 then upd (mS S m 20) (sn S 1) (nI k) else if i = 21 then upd (mS S m 21) (sn S 1) (nI t) else if i = 22 then upd (mS S m 22) (sn S 1) (nI (s_many b c)) else if i = 23 then mA m (sn S 1) a b c 0 else if i = 24 then upd (mS S m 24) (sn S 1) (nI 0) else if i = 25 then mA m (sn S 1) a b c 1 else mS S m i
theorem waid {G : x_G} {lo : x_L} {S : St} {m : Nat → Nat → Int32} {t k : Nat} {a b c : Int32} (hZ : Szz S) : mco G lo (va_up (nS S) 1 (nI (sn S 1 + 1))) (m_aw S m t k a b c) = mco G lo (nS (addA S (t, A00 k (s_many b c)))) (mS (addA S (t, A00 k (s_many b c))) (mA m (sn S 1) a b c)) := by
  obtain ⟨z1, z2⟩ := hZ.2.2 (sn S 1) (Nat.le_refl _)
  refine mco_ext rfl (tags_all ?_ ?_ ?_ ?_ ?_ ?_ ?_ ?_ ?_ ?_ ?_ ?_ ?_ ?_ ?_ ?_ ?_ ?_ ?_ ?_ ?_ ?_ ?_ ?_ ?_ ?_)
  iterate 16 rfl
  · exact row_u (f := S.2.2.1) (e := (t, A00 k (s_many b c))) (fun e => nI (e.2.1 0)) rfl
  · exact row_u (f := S.2.2.1) (e := (t, A00 k (s_many b c))) (fun e => nI e.1) rfl
  · exact row_u (f := S.2.2.1) (e := (t, A00 k (s_many b c))) (fun e => nI (e.2.1 1)) rfl
  · rfl
  · exact row_u (f := S.2.2.1) (e := (t, A00 k (s_many b c))) (fun e => nI (e.2.1 2)) rfl
  · rfl
  · exact row_k1 (f := S.2.2.1) (k := sn S 1) (e := (t, A00 k (s_many b c))) (fun e => nI (e.2.1 4)) (by show nI 0 = nI ((aA S (sn S 1)).1 4); rw [z1])
  · exact row_k1 (f := S.2.2.1) (k := sn S 1) (e := (t, A00 k (s_many b c))) (fun e => nI (e.2.1 5)) (by show nI 0 = nI ((aA S (sn S 1)).1 5); rw [z2])
  all_goals rfl
