/-- a new aid's picture: kind, how many, set, own, column, low, high, columns in turn -/
def newA (k n s o c f u : Nat) (a b d : Int32) : Ad := (fun i => if i = 0 then k else if i = 1 then n else if i = 2 then s else if i = 3 then c else if i = 4 then f else if i = 5 then u else if i = 7 then o else 0, fun i => if i = 0 then a.toNatClampNeg else if i = 1 then b.toNatClampNeg else d.toNatClampNeg)
def P_order (S : St) (t k a b c w : Int32) : Int32 × St := if sn S 1 ≠ 12 ∧ m_isT S t = true ∧ s_turn (sT S t.toNatClampNeg) a b c = true ∧ (k = nI 0 ∨ k = nI 4 ∨ (k = nI 1 ∧ x_in (2 ^ (sT S t.toNatClampNeg).1 1) w = true ∧ ¬ w &&& (nI (s_own a b c) ^^^ (-1)) = 0)) then (nI (sn S 1), addA S (t.toNatClampNeg, newA k.toNatClampNeg (s_many b c) (if k = nI 1 then w.toNatClampNeg ||| s_own a b c else s_own a b c) (s_own a b c) 0 0 0 a b c)) else (-1, S)
def P_part (S : St) (t a b c f u : Int32) : Int32 × St := if sn S 1 ≠ 12 ∧ m_isT S t = true ∧ s_turn (sT S t.toNatClampNeg) a b (-1) = true ∧ t_has (sT S t.toNatClampNeg) c = true ∧ s_rng f u = true then (nI (sn S 1), addA S (t.toNatClampNeg, newA 2 (s_many b (-1)) 0 (s_own a b (-1)) c.toNatClampNeg f.toNatClampNeg u.toNatClampNeg a b (-1))) else (-1, S)
def P_sums (S : St) (t s c : Int32) : Int32 × St := if sn S 1 ≠ 12 ∧ m_isT S t = true ∧ t_has (sT S t.toNatClampNeg) c = true ∧ x_in (2 ^ (sT S t.toNatClampNeg).1 1) s = true ∧ 1 ≤ pop s.toNatClampNeg ∧ pop s.toNatClampNeg ≤ 2 then (nI (sn S 1), addA S (t.toNatClampNeg, newA 3 0 s.toNatClampNeg 0 c.toNatClampNeg 0 0 (-1) (-1) (-1))) else (-1, S)
theorem row_c {α : Type} {f : Nat → α} {k : Nat} {e1 e2 : α} (φ : α → Int32) (h : φ e1 = φ e2) : (fun j => φ (va_up f k e1 j)) = fun j => φ (va_up f k e2 j) := by
  funext j
  by_cases q : j = k
  · rw [q, va_up_self, va_up_self, h]
  · rw [va_up_ne _ _ q, va_up_ne _ _ q]
theorem row_cu {α : Type} {f : Nat → α} {k : Nat} {e1 e2 : α} (φ : α → Int32) {x : Int32} (h : x = φ e2) : upd (fun j => φ (va_up f k e1 j)) k x = fun j => φ (va_up f k e2 j) := by
  refine upd_eq (fun j => ?_)
  by_cases q : j = k
  · rw [q, va_up_self, if_pos rfl, h]
  · rw [va_up_ne _ _ q, va_up_ne _ _ q, if_neg q]
theorem mok_add {S : St} {m m' : Nat → Nat → Int32} {t : Nat} {A : Ad} (hS : Sok S) (hM : Mok S m) (h1 : ∀ i, i < A.1 1 → m' 0 (3 * sn S 1 + i) = nI (A.2 i)) (h2 : A.1 0 = 2 ∨ A.1 0 = 3 → m' 1 (sn S 1) = nI (A.1 3)) (h3 : ∀ j, j < 3 * sn S 1 → m' 0 j = m 0 j) (h4 : ∀ j, j < sn S 1 → m' 1 j = m 1 j) : Mok (addA S (t, A)) m' := by
  obtain ⟨s1, s2, s3, s4, s5, s6⟩ := id hS
  intro a ha
  have ha' : a < sn S 1 + 1 := ha
  by_cases e : a = sn S 1
  · subst e
    rw [show aA (addA S (t, A)) (sn S 1) = A from congrArg Prod.snd (va_up_self _ _ _)]
    exact ⟨h1, h2⟩
  · rw [show aA (addA S (t, A)) a = aA S a from congrArg Prod.snd (va_up_ne _ _ e)]
    have hlt : a < sn S 1 := by omega
    obtain ⟨g1, g2⟩ := hM a hlt
    have := (s6 a hlt).2.2.2.1
    exact ⟨fun i hi => by rw [h3 _ (by omega)]; exact g1 i hi, fun h => by rw [h4 _ hlt]; exact g2 h⟩
theorem mA_old0 {m : Nat → Nat → Int32} {n j : Nat} {a b c : Int32} (h : j < 3 * n) : mA m n a b c 0 j = m 0 j := by
  show upd (upd (upd (m 0) (3 * n) a) (3 * n + 1) b) (3 * n + 2) c j = m 0 j
  unfold upd; rw [if_neg (by omega), if_neg (by omega), if_neg (by omega)]
theorem mA_old1 {m : Nat → Nat → Int32} {n j : Nat} {a b c : Int32} (h : j < n) : mA m n a b c 1 j = m 1 j := by
  show upd (m 1) n (-1) j = m 1 j
  unfold upd; rw [if_neg (by omega)]
theorem mA_new {m : Nat → Nat → Int32} {n i : Nat} {a b c : Int32} : mA m n a b c 0 (3 * n + i) = if i = 0 then a else if i = 1 then b else if i = 2 then c else m 0 (3 * n + i) := by
  show upd (upd (upd (m 0) (3 * n) a) (3 * n + 1) b) (3 * n + 2) c (3 * n + i) = _
  unfold upd
  by_cases h0 : i = 0
  · subst h0; rw [if_neg (by omega), if_neg (by omega), if_pos (by omega), if_pos rfl]
  · by_cases h1 : i = 1
    · subst h1; rw [if_neg (by omega), if_pos (by omega), if_neg (by omega), if_pos rfl]
    · by_cases h2 : i = 2
      · subst h2; rw [if_pos (by omega), if_neg (by omega), if_neg (by omega), if_pos rfl]
      · rw [if_neg (by omega), if_neg (by omega), if_neg (by omega), if_neg h0, if_neg h1, if_neg h2]
theorem s_many_le (b c : Int32) : s_many b c ≤ 3 ∧ 1 ≤ s_many b c := by unfold s_many; split <;> (try split) <;> omega
theorem many_in {T : Tb} {a b c : Int32} {i : Nat} (hT : T.1 1 ≤ 4) (h : s_turn T a b c = true) (hi : i < s_many b c) : (if i = 0 then a else if i = 1 then b else if i = 2 then c else 0) = nI (if i = 0 then a.toNatClampNeg else if i = 1 then b.toNatClampNeg else c.toNatClampNeg) ∧ (if i = 0 then a.toNatClampNeg else if i = 1 then b.toNatClampNeg else c.toNatClampNeg) < T.1 1 := by
  obtain ⟨g1, g2, g3⟩ := turn_hon h
  have key : ∀ x : Int32, t_hon T x = true → ¬ x = (-1) → x = nI x.toNatClampNeg ∧ x.toNatClampNeg < T.1 1 := fun x hx hne => by
    unfold t_hon at hx
    rw [decide_eq_false hne, Bool.false_or] at hx
    obtain ⟨k, hk, e⟩ := t_has_ex hT hx
    rw [e, nI_clamp (by omega)]
    exact ⟨rfl, hk⟩
  have hle := (s_many_le b c).1
  have ha : ¬ a = (-1) := (sh_a hT g1).2
  have ga : t_hon T a = true := by unfold t_hon; rw [g1, Bool.or_true]
  unfold s_many at hi
  by_cases h0 : i = 0
  · subst h0; rw [if_pos rfl, if_pos rfl]; exact key a ga ha
  · rw [if_neg h0, if_neg h0]
    by_cases hb : b = (-1)
    · rw [if_pos hb] at hi; omega
    · rw [if_neg hb] at hi
      by_cases h1 : i = 1
      · subst h1; rw [if_pos rfl, if_pos rfl]; exact key b g2 hb
      · rw [if_neg h1, if_neg h1]
        by_cases hc : c = (-1)
        · rw [if_pos hc] at hi; omega
        · rw [if_neg hc] at hi
          rw [if_pos (by omega)]; exact key c g3 hc
theorem m_turn_pos {S : St} {t a b c : Int32} (h : ¬ m_turn S t a b c < 0) : m_isT S t = true ∧ s_turn (sT S t.toNatClampNeg) a b c = true ∧ m_turn S t a b c = nI (s_own a b c) := by
  unfold m_turn at h ⊢
  by_cases e : (m_isT S t && s_turn (sT S t.toNatClampNeg) a b c) = true
  · rw [if_pos e] at h ⊢
    rw [Bool.and_eq_true] at e
    exact ⟨e.1, e.2, rfl⟩
  · rw [if_neg e] at h
    exact absurd (by decide) h
theorem bO_lt {T : Tb} {x : Int32} (hT : T.1 1 ≤ 4) (h : t_hon T x = true) : bO (cO x) < 2 ^ T.1 1 := by
  have h2 := (cO_hon hT h).2
  cases e : cO x with
  | zero => exact Nat.two_pow_pos _
  | succ k => rw [e] at h2; exact Nat.pow_lt_pow_right (by decide) h2
theorem own_lt {T : Tb} {a b c : Int32} (hT : T.1 1 ≤ 4) (h : s_turn T a b c = true) : s_own a b c < 2 ^ T.1 1 := by
  obtain ⟨g1, g2, g3⟩ := turn_hon h
  have ga : t_hon T a = true := by unfold t_hon; rw [g1, Bool.or_true]
  exact Nat.or_lt_two_pow (Nat.or_lt_two_pow (bO_lt hT ga) (bO_lt hT g2)) (bO_lt hT g3)
theorem m_turn_neg {S : St} {t a b c : Int32} (hS : Sok S) (h : m_turn S t a b c < 0) : ¬ (m_isT S t = true ∧ s_turn (sT S t.toNatClampNeg) a b c = true) := by
  intro w
  unfold m_turn at h
  rw [if_pos (by rw [w.1, w.2]; rfl)] at h
  refine absurd h (nI_pos ?_)
  obtain ⟨k, hk, hk2, e⟩ := m_isT_ex w.1
  have w2 := w.2
  rw [e, nI_clamp (by omega)] at w2
  have hc := ((hS.1 k hk).1 hk2).2.1
  exact Nat.lt_of_lt_of_le (own_lt hc w2) (Nat.le_trans (pow_col hc) (by decide))
theorem wset {G : x_G} {lo : x_L} {S : St} {m1 : Nat → Nat → Int32} {t k n s o : Nat} {a b c : Int32} : mco G lo (nS (addA S (t, A00 k n))) (va_up (mS (addA S (t, A00 k n)) m1) 24 (upd (mS (addA S (t, A00 k n)) m1 24) (sn S 1) (nI s))) = mco G lo (nS (addA S (t, newA k n s o 0 0 0 a b c))) (mS (addA S (t, newA k n s o 0 0 0 a b c)) m1) := by
  refine mco_ext rfl (tags_all ?_ ?_ ?_ ?_ ?_ ?_ ?_ ?_ ?_ ?_ ?_ ?_ ?_ ?_ ?_ ?_ ?_ ?_ ?_ ?_ ?_ ?_ ?_ ?_ ?_ ?_)
  iterate 16 rfl
  · exact row_c (f := S.2.2.1) (fun e => nI (e.2.1 0)) rfl
  · exact row_c (f := S.2.2.1) (fun e => nI e.1) rfl
  · exact row_c (f := S.2.2.1) (fun e => nI (e.2.1 1)) rfl
  · rfl
  · exact row_cu (f := S.2.2.1) (fun e => nI (e.2.1 2)) rfl
  · rfl
  · exact row_c (f := S.2.2.1) (fun e => nI (e.2.1 4)) rfl
  · exact row_c (f := S.2.2.1) (fun e => nI (e.2.1 5)) rfl
  all_goals rfl
theorem wpart {G : x_G} {lo : x_L} {S : St} {m1 : Nat → Nat → Int32} {t n o c f u : Nat} {a b d : Int32} {M : Nat → Nat → Int32} (hM : M = mS (addA S (t, A00 2 n)) m1) : mco G lo (nS (addA S (t, A00 2 n))) (va_up (va_up (va_up M 25 (upd (M 25) (sn S 1) (nI c))) 26 (upd (M 26) (sn S 1) (nI f))) 27 (upd (M 27) (sn S 1) (nI u))) = mco G lo (nS (addA S (t, newA 2 n 0 o c f u a b d))) (mS (addA S (t, newA 2 n 0 o c f u a b d)) (va_up m1 1 (upd (m1 1) (sn S 1) (nI c)))) := by
  subst hM
  refine mco_ext rfl (tags_all ?_ ?_ ?_ ?_ ?_ ?_ ?_ ?_ ?_ ?_ ?_ ?_ ?_ ?_ ?_ ?_ ?_ ?_ ?_ ?_ ?_ ?_ ?_ ?_ ?_ ?_)
  iterate 16 rfl
  · exact row_c (f := S.2.2.1) (fun e => nI (e.2.1 0)) rfl
  · exact row_c (f := S.2.2.1) (fun e => nI e.1) rfl
  · exact row_c (f := S.2.2.1) (fun e => nI (e.2.1 1)) rfl
  · rfl
  · exact row_c (f := S.2.2.1) (fun e => nI (e.2.1 2)) rfl
  · rfl
  · exact row_cu (f := S.2.2.1) (fun e => nI (e.2.1 4)) rfl
  · exact row_cu (f := S.2.2.1) (fun e => nI (e.2.1 5)) rfl
  all_goals rfl
theorem wsums {G : x_G} {lo : x_L} {S : St} {m1 : Nat → Nat → Int32} {t n c s : Nat} {a b d : Int32} {M : Nat → Nat → Int32} (hM : M = mS (addA S (t, A00 3 n)) m1) : mco G lo (nS (addA S (t, A00 3 n))) (va_up (va_up (va_up M 22 (upd (M 22) (sn S 1) (nI 0))) 24 (upd (M 24) (sn S 1) (nI s))) 25 (upd (M 25) (sn S 1) (nI c))) = mco G lo (nS (addA S (t, newA 3 0 s 0 c 0 0 a b d))) (mS (addA S (t, newA 3 0 s 0 c 0 0 a b d)) (va_up m1 1 (upd (m1 1) (sn S 1) (nI c)))) := by
  subst hM
  refine mco_ext rfl (tags_all ?_ ?_ ?_ ?_ ?_ ?_ ?_ ?_ ?_ ?_ ?_ ?_ ?_ ?_ ?_ ?_ ?_ ?_ ?_ ?_ ?_ ?_ ?_ ?_ ?_ ?_)
  iterate 16 rfl
  · exact row_c (f := S.2.2.1) (fun e => nI (e.2.1 0)) rfl
  · exact row_c (f := S.2.2.1) (fun e => nI e.1) rfl
  · exact row_cu (f := S.2.2.1) (fun e => nI (e.2.1 1)) rfl
  · rfl
  · exact row_cu (f := S.2.2.1) (fun e => nI (e.2.1 2)) rfl
  · rfl
  · exact row_c (f := S.2.2.1) (fun e => nI (e.2.1 4)) rfl
  · exact row_c (f := S.2.2.1) (fun e => nI (e.2.1 5)) rfl
  all_goals rfl
theorem mok_order {S : St} {m : Nat → Nat → Int32} {t k s o : Nat} {T : Tb} {a b c : Int32} (hS : Sok S) (hM : Mok S m) (hT : T.1 1 ≤ 4) (h : s_turn T a b c = true) (hk : k ≠ 2 ∧ k ≠ 3) : Mok (addA S (t, newA k (s_many b c) s o 0 0 0 a b c)) (mA m (sn S 1) a b c) :=
  mok_add hS hM (fun i hi => by rw [mA_new]; have hi2 : i < s_many b c := hi; have := (s_many_le b c).1; have q := (many_in hT h hi2).1; rw [← show (if i = 0 then a else if i = 1 then b else if i = 2 then c else 0) = (if i = 0 then a else if i = 1 then b else if i = 2 then c else m 0 (3 * sn S 1 + i)) from by rcases (show i = 0 ∨ i = 1 ∨ i = 2 by omega) with e | e | e <;> subst e <;> rfl]; exact q) (fun q => by have q2 : k = 2 ∨ k = 3 := q; omega) (fun j hj => mA_old0 hj) (fun j hj => mA_old1 hj)
theorem mok_part {S : St} {m : Nat → Nat → Int32} {t o x f u : Nat} {T : Tb} {a b c : Int32} (hS : Sok S) (hM : Mok S m) (hT : T.1 1 ≤ 4) (h : s_turn T a b c = true) : Mok (addA S (t, newA 2 (s_many b c) 0 o x f u a b c)) (va_up (mA m (sn S 1) a b c) 1 (upd (mA m (sn S 1) a b c 1) (sn S 1) (nI x))) :=
  mok_add hS hM (fun i hi => by show mA m (sn S 1) a b c 0 _ = _; rw [mA_new]; have hi2 : i < s_many b c := hi; have := (s_many_le b c).1; have q := (many_in hT h hi2).1; rw [← show (if i = 0 then a else if i = 1 then b else if i = 2 then c else 0) = (if i = 0 then a else if i = 1 then b else if i = 2 then c else m 0 (3 * sn S 1 + i)) from by rcases (show i = 0 ∨ i = 1 ∨ i = 2 by omega) with e | e | e <;> subst e <;> rfl]; exact q) (fun _ => by show upd _ _ _ _ = _; exact if_pos rfl) (fun j hj => mA_old0 hj) (fun j hj => by show upd _ _ _ j = _; unfold upd; rw [if_neg (by omega)]; exact mA_old1 hj)
theorem mok_sums {S : St} {m : Nat → Nat → Int32} {t s x : Nat} {a b c : Int32} (hS : Sok S) (hM : Mok S m) : Mok (addA S (t, newA 3 0 s 0 x 0 0 a b c)) (va_up (mA m (sn S 1) a b c) 1 (upd (mA m (sn S 1) a b c 1) (sn S 1) (nI x))) :=
  mok_add hS hM (fun i hi => absurd hi (Nat.not_lt_zero i)) (fun _ => by show upd _ _ _ _ = _; exact if_pos rfl) (fun j hj => mA_old0 hj) (fun j hj => by show upd _ _ _ j = _; unfold upd; rw [if_neg (by omega)]; exact mA_old1 hj)
