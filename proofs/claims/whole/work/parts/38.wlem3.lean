def Szz (S : St) : Prop := (∀ t, t < 4 → (sT S t).1 1 = 0 → Tz (sT S t)) ∧ (∀ q, sn S 0 ≤ q → (qQ S q).1 2 = 0 ∧ ∀ i j, (qQ S q).2 i j = 0) ∧ ∀ a, sn S 1 ≤ a → (aA S a).1 4 = 0 ∧ (aA S a).1 5 = 0
def cO (a : Int32) : Nat := if a = (-1) then 0 else a.toNatClampNeg + 1
theorem cO_hon {T : Tb} {a : Int32} (hT : T.1 1 ≤ 4) (h : t_hon T a = true) : nO (cO a) = a ∧ cO a ≤ T.1 1 := by
  unfold t_hon at h
  unfold cO
  by_cases e : a = (-1)
  · rw [if_pos e, e]; exact ⟨rfl, Nat.zero_le _⟩
  · rw [decide_eq_false e, Bool.false_or] at h
    obtain ⟨k, hk, e2⟩ := t_has_ex hT h
    rw [if_neg e, e2, nI_clamp (by omega)]
    exact ⟨rfl, hk⟩
def newQ (w n a : Nat) : Qn := (fun i => if i = 0 then w else if i = 1 then n else if i = 3 then a else 0, fun _ _ => 0)
def addQ (S : St) (e : Nat × Qn) : St := (S.1, va_up S.2.1 (sn S 0) e, S.2.2.1, va_up S.2.2.2 0 (sn S 0 + 1))
def setQ (S : St) (q : Nat) (Q : Qn) : St := (S.1, va_up S.2.1 q (qt S q, Q), S.2.2)
def okQ (S : St) (t w a n : Int32) : Prop := sn S 0 ≠ 24 ∧ m_isT S t = true ∧ x_in (2 ^ (sT S t.toNatClampNeg).1 1) w = true ∧ t_hon (sT S t.toNatClampNeg) a = true ∧ s_btw n (nI 1) (nI 100) = true
def P_question (S : St) (t w a n : Int32) : Int32 × St := if sn S 0 ≠ 24 ∧ m_isT S t = true ∧ x_in (2 ^ (sT S t.toNatClampNeg).1 1) w = true ∧ t_hon (sT S t.toNatClampNeg) a = true ∧ s_btw n (nI 1) (nI 100) = true then (nI (sn S 0), addQ S (t.toNatClampNeg, newQ w.toNatClampNeg n.toNatClampNeg (cO a))) else (-1, S)
theorem row_u {α : Type} {f : Nat → α} {k : Nat} {e : α} (φ : α → Int32) {x : Int32} (hx : x = φ e) : upd (fun j => φ (f j)) k x = fun j => φ (va_up f k e j) := by
  refine upd_eq (fun j => ?_)
  by_cases q : j = k
  · subst q; rw [va_up_self, if_pos rfl, hx]
  · rw [va_up_ne _ _ q, if_neg q]
theorem row_k {α : Type} {f : Nat → α} {k : Nat} {e : α} (d : Nat) (φ : α → Nat → Int32) (h : ∀ i, φ e i = φ (f k) i) : (fun j => φ (f (j / d)) (j % d)) = fun j => φ (va_up f k e (j / d)) (j % d) := by
  funext j
  by_cases q : j / d = k
  · rw [q, va_up_self, h]
  · rw [va_up_ne _ _ q]
theorem row_k1 {α : Type} {f : Nat → α} {k : Nat} {e : α} (φ : α → Int32) (h : φ e = φ (f k)) : (fun j => φ (f j)) = fun j => φ (va_up f k e j) := by
  funext j
  by_cases q : j = k
  · rw [q, va_up_self, h]
  · rw [va_up_ne _ _ q]
theorem row_kd {α : Type} {f : Nat → α} {k c : Nat} {e : α} (φ : α → Nat → Int32) {x : Int32} (hc : c < 4) (hx : φ e c = x) (h : ∀ i, i ≠ c → φ e i = φ (f k) i) : upd (fun j => φ (f (j / 4)) (j % 4)) (4 * k + c) x = fun j => φ (va_up f k e (j / 4)) (j % 4) := by
  refine upd_eq (fun j => ?_)
  by_cases q : j / 4 = k
  · rw [q, va_up_self]
    by_cases r : j % 4 = c
    · rw [r, if_pos (by omega), hx]
    · rw [if_neg (by omega), h _ r]
  · rw [va_up_ne _ _ q, if_neg (by omega)]
theorem wqu {G : x_G} {lo : x_L} {S : St} {m : Nat → Nat → Int32} {t w n : Nat} {a : Int32} (hZ : Szz S) (ha : nO (cO a) = a) : mco G lo (va_up (nS S) 0 (nI (sn S 0 + 1))) (va_up (va_up (va_up (va_up (mS S m) 11 (upd (mS S m 11) (sn S 0) (nI t))) 12 (upd (va_up (mS S m) 11 (upd (mS S m 11) (sn S 0) (nI t)) 12) (sn S 0) (nI w))) 13 (upd (va_up (va_up (mS S m) 11 (upd (mS S m 11) (sn S 0) (nI t))) 12 (upd (va_up (mS S m) 11 (upd (mS S m 11) (sn S 0) (nI t)) 12) (sn S 0) (nI w)) 13) (sn S 0) a)) 14 (upd (va_up (va_up (va_up (mS S m) 11 (upd (mS S m 11) (sn S 0) (nI t))) 12 (upd (va_up (mS S m) 11 (upd (mS S m 11) (sn S 0) (nI t)) 12) (sn S 0) (nI w))) 13 (upd (va_up (va_up (mS S m) 11 (upd (mS S m 11) (sn S 0) (nI t))) 12 (upd (va_up (mS S m) 11 (upd (mS S m 11) (sn S 0) (nI t)) 12) (sn S 0) (nI w)) 13) (sn S 0) a) 14) (sn S 0) (nI n))) = mco G lo (nS (addQ S (t, newQ w n (cO a)))) (mS (addQ S (t, newQ w n (cO a))) m) := by
  obtain ⟨z1, z2⟩ := hZ.2.1 (sn S 0) (Nat.le_refl _)
  refine mco_ext rfl (tags_all ?_ ?_ ?_ ?_ ?_ ?_ ?_ ?_ ?_ ?_ ?_ ?_ ?_ ?_ ?_ ?_ ?_ ?_ ?_ ?_ ?_ ?_ ?_ ?_ ?_ ?_)
  iterate 9 rfl
  · exact row_u (f := S.2.1) (e := (t, newQ w n (cO a))) (fun e => nI e.1) rfl
  · exact row_u (f := S.2.1) (e := (t, newQ w n (cO a))) (fun e => nI (e.2.1 0)) rfl
  · exact row_u (f := S.2.1) (e := (t, newQ w n (cO a))) (fun e => nO (e.2.1 3)) ha.symm
  · exact row_u (f := S.2.1) (e := (t, newQ w n (cO a))) (fun e => nI (e.2.1 1)) rfl
  · exact row_k (f := S.2.1) (k := sn S 0) (e := (t, newQ w n (cO a))) 4 (fun e i => bI ((e.2.1 2).testBit i)) (fun i => by show bI (Nat.testBit 0 i) = bI (Nat.testBit ((qQ S (sn S 0)).1 2) i); rw [z1])
  · exact row_k (f := S.2.1) (k := sn S 0) (e := (t, newQ w n (cO a))) 4 (fun e i => nI (e.2.2 0 i)) (fun i => by show nI 0 = nI ((qQ S (sn S 0)).2 0 i); rw [z2])
  · exact row_k (f := S.2.1) (k := sn S 0) (e := (t, newQ w n (cO a))) 4 (fun e i => nI (e.2.2 1 i)) (fun i => by show nI 0 = nI ((qQ S (sn S 0)).2 1 i); rw [z2])
  all_goals rfl
def tstQ (Q : Qn) (c f t : Nat) : Qn := (va_up Q.1 2 (Q.1 2 ||| 2 ^ c), va_up (va_up Q.2 0 (va_up (Q.2 0) c f)) 1 (va_up (Q.2 1) c t))
def P_test (S : St) (q c f t : Int32) : Bool × St := if x_in (sn S 0) q = true ∧ t_has (sT S (qt S q.toNatClampNeg)) c = true ∧ s_rng f t = true then (true, setQ S q.toNatClampNeg (tstQ (qQ S q.toNatClampNeg) c.toNatClampNeg f.toNatClampNeg t.toNatClampNeg)) else (false, S)
theorem rng_eq (f t : Int32) : s_rng f t = (s_btw f (nI 0) (nI 999) && s_btw t f (nI 999)) := by
  unfold s_rng s_btw
  rw [show nI 0 = 0 from rfl]
  by_cases h1 : f < 0
  · simp [h1]
  · by_cases h2 : t < f
    · simp [h2]
    · by_cases h3 : nI 999 < t
      · simp [h3]
      · have h4 : ¬ nI 999 < f := by
          rw [fa_lt] at h2 h3 ⊢; omega
        simp [h1, h2, h3, h4]
theorem wts {G : x_G} {lo : x_L} {S : St} {m : Nat → Nat → Int32} {q c f t : Nat} (hc : c < 4) : mco G lo (nS S) (va_up (va_up (va_up (mS S m) 15 (upd (mS S m 15) (4 * q + c) (bI true))) 16 (upd (va_up (mS S m) 15 (upd (mS S m 15) (4 * q + c) (bI true)) 16) (4 * q + c) (nI f))) 17 (upd (va_up (va_up (mS S m) 15 (upd (mS S m 15) (4 * q + c) (bI true))) 16 (upd (va_up (mS S m) 15 (upd (mS S m 15) (4 * q + c) (bI true)) 16) (4 * q + c) (nI f)) 17) (4 * q + c) (nI t))) = mco G lo (nS (setQ S q (tstQ (qQ S q) c f t))) (mS (setQ S q (tstQ (qQ S q) c f t)) m) := by
  refine mco_ext rfl (tags_all ?_ ?_ ?_ ?_ ?_ ?_ ?_ ?_ ?_ ?_ ?_ ?_ ?_ ?_ ?_ ?_ ?_ ?_ ?_ ?_ ?_ ?_ ?_ ?_ ?_ ?_)
  iterate 9 rfl
  · exact row_k1 (f := S.2.1) (k := q) (e := (qt S q, tstQ (qQ S q) c f t)) (fun e => nI e.1) rfl
  · exact row_k1 (f := S.2.1) (k := q) (e := (qt S q, tstQ (qQ S q) c f t)) (fun e => nI (e.2.1 0)) rfl
  · exact row_k1 (f := S.2.1) (k := q) (e := (qt S q, tstQ (qQ S q) c f t)) (fun e => nO (e.2.1 3)) rfl
  · exact row_k1 (f := S.2.1) (k := q) (e := (qt S q, tstQ (qQ S q) c f t)) (fun e => nI (e.2.1 1)) rfl
  · refine row_kd (f := S.2.1) (k := q) (e := (qt S q, tstQ (qQ S q) c f t)) (fun e i => bI ((e.2.1 2).testBit i)) hc ?_ (fun i hi => ?_)
    · show bI (Nat.testBit ((qQ S q).1 2 ||| 2 ^ c) c) = bI true
      simp
    · show bI (Nat.testBit ((qQ S q).1 2 ||| 2 ^ c) i) = bI (Nat.testBit ((qQ S q).1 2) i)
      rw [Nat.testBit_or, Nat.testBit_two_pow_of_ne (Ne.symm hi), Bool.or_false]
  · refine row_kd (f := S.2.1) (k := q) (e := (qt S q, tstQ (qQ S q) c f t)) (fun e i => nI (e.2.2 0 i)) hc ?_ (fun i hi => ?_)
    · show nI (va_up ((qQ S q).2 0) c f c) = nI f
      rw [va_up_self]
    · show nI (va_up ((qQ S q).2 0) c f i) = nI ((qQ S q).2 0 i)
      rw [va_up_ne _ _ hi]
  · refine row_kd (f := S.2.1) (k := q) (e := (qt S q, tstQ (qQ S q) c f t)) (fun e i => nI (e.2.2 1 i)) hc ?_ (fun i hi => ?_)
    · show nI (va_up ((qQ S q).2 1) c t c) = nI t
      rw [va_up_self]
    · show nI (va_up ((qQ S q).2 1) c t i) = nI ((qQ S q).2 1 i)
      rw [va_up_ne _ _ hi]
  all_goals rfl
