/-! the choice: what the class explores, and that it is the reference's -/
/-- of a set and the best so far -/
def kb (S : St) (s b : Nat) : Nat := if m_tot S s < m_tot S b ∨ (m_tot S s = m_tot S b ∧ pop s < pop b) then s else b
/-- whether aid a is taken beside s -/
def exC (S : St) (r a s : Nat) : Prop := d_rivs S a &&& s = 0 ∧ m_rs S s (sn S 1) + m_sp S a ≤ r ∧ m_tot S (s ||| 2 ^ a) < m_tot S s
def exN (S : St) (r : Nat) : Nat → Nat → Nat → Nat → Nat
  | 0, _, s, b => kb S s b
  | n + 1, a, s, b => exN S r n (a + 1) s (if d_rivs S a &&& s = 0 ∧ m_rs S s (sn S 1) + m_sp S a ≤ r ∧ m_tot S (s ||| 2 ^ a) < m_tot S s then exN S r n (a + 1) (s ||| 2 ^ a) b else b)
/-- the sets that may be chosen -/
def okS (S : St) (r s : Nat) : Prop := s < 2 ^ sn S 1 ∧ m_set S s = true ∧ m_rs S s (sn S 1) ≤ r
/-- t is better than b -/
def btr (S : St) (t b : Nat) : Prop := m_tot S t < m_tot S b ∨ (m_tot S t = m_tot S b ∧ s_ahead t b = true)
theorem ahead_iff {s t : Nat} : s_ahead s t = true ↔ pop s < pop t ∨ (pop s = pop t ∧ ∃ k, k < 12 ∧ s.testBit k = true ∧ t.testBit k = false ∧ ∀ j, j < k → s.testBit j = t.testBit j) := by
  unfold s_ahead
  by_cases hp : pop s = pop t
  · rw [if_pos hp]
    have hdi : ∀ n, s_dif s t n = n ∨ (s_dif s t n < n ∧ s.testBit (s_dif s t n) ≠ t.testBit (s_dif s t n)) := fun n => by
      induction n with
      | zero => exact Or.inl rfl
      | succ n ih =>
        rw [s_dif]
        rcases ih with e | ⟨e1, e2⟩
        · rw [e, if_neg (Nat.lt_irrefl n)]
          by_cases hb : s.testBit n = t.testBit n
          · rw [if_pos hb]; exact Or.inl rfl
          · rw [if_neg hb]; exact Or.inr ⟨Nat.lt_succ_self n, hb⟩
        · rw [if_pos e1]; exact Or.inr ⟨by omega, e2⟩
    have hal : ∀ n, ∀ j, j < s_dif s t n → s.testBit j = t.testBit j := fun n => by
      induction n with
      | zero => intro j hj; exact absurd hj (Nat.not_lt_zero j)
      | succ n ih =>
        intro j hj
        rw [s_dif] at hj
        split at hj
        · exact ih j hj
        · next h1 =>
          have hn : s_dif s t n = n := (hdi n).resolve_right (fun q => h1 q.1)
          split at hj
          · next h2 =>
            rcases Nat.lt_succ_iff_lt_or_eq.mp hj with e | e
            · exact ih j (by omega)
            · rw [e]; exact h2
          · exact ih j (by omega)
    rw [Bool.and_eq_true, decide_eq_true_iff]
    constructor
    · rintro ⟨h1, h2⟩
      refine Or.inr ⟨hp, s_dif s t 12, h1, h2, ?_, hal 12⟩
      rcases hdi 12 with e | ⟨-, e⟩
      · omega
      · rw [h2] at e; cases q : t.testBit (s_dif s t 12) with
        | false => rfl
        | true => rw [q] at e; exact absurd rfl e
    · rintro (h | ⟨-, k, hk, h1, h2, h3⟩)
      · omega
      · rw [s_dif_lt hk h3 (by rw [h1, h2]; decide)]
        exact ⟨hk, h1⟩
  · rw [if_neg hp, decide_eq_true_iff]
    constructor
    · exact Or.inl
    · rintro (h | h)
      · exact h
      · exact absurd h.1 hp
theorem ahead_irr (s : Nat) : ¬ s_ahead s s = true := by
  rw [ahead_iff]
  rintro (h | ⟨-, k, -, h1, h2, -⟩)
  · omega
  · rw [h1] at h2; exact absurd h2 (by decide)
theorem ahead_tr {s t u : Nat} (h1 : s_ahead s t = true) (h2 : s_ahead t u = true) : s_ahead s u = true := by
  rw [ahead_iff] at *
  rcases h1 with h1 | ⟨p1, k1, hk1, a1, b1, c1⟩ <;> rcases h2 with h2 | ⟨p2, k2, hk2, a2, b2, c2⟩
  · exact Or.inl (by omega)
  · exact Or.inl (by omega)
  · exact Or.inl (by omega)
  · refine Or.inr ⟨by omega, ?_⟩
    rcases Nat.lt_trichotomy k1 k2 with e | e | e
    · exact ⟨k1, hk1, a1, by rw [← c2 k1 e]; exact b1, fun j hj => (c1 j hj).trans (c2 j (by omega))⟩
    · subst e; rw [b1] at a2; exact absurd a2 (by decide)
    · exact ⟨k2, hk2, by rw [c1 k2 e]; exact a2, b2, fun j hj => (c1 j (by omega)).trans (c2 j hj)⟩
theorem first_dif {s t : Nat} : ∀ n, (∀ j, j < n → s.testBit j = t.testBit j) ∨ ∃ k, k < n ∧ s.testBit k ≠ t.testBit k ∧ ∀ j, j < k → s.testBit j = t.testBit j
  | 0 => Or.inl (fun j h => absurd h (Nat.not_lt_zero j))
  | n + 1 => by
    rcases first_dif (s := s) (t := t) n with h | ⟨k, h1, h2, h3⟩
    · by_cases e : s.testBit n = t.testBit n
      · refine Or.inl (fun j hj => ?_)
        rcases Nat.lt_succ_iff_lt_or_eq.mp hj with q | q
        · exact h j q
        · rw [q]; exact e
      · exact Or.inr ⟨n, Nat.lt_succ_self n, e, h⟩
    · exact Or.inr ⟨k, by omega, h2, h3⟩
theorem eq_of_12 {s t : Nat} (hs : s < 2 ^ 12) (ht : t < 2 ^ 12) (h : ∀ j, j < 12 → s.testBit j = t.testBit j) : s = t := by
  apply Nat.eq_of_testBit_eq
  intro j
  by_cases e : j < 12
  · exact h j e
  · rw [Nat.testBit_lt_two_pow (Nat.lt_of_lt_of_le hs (Nat.pow_le_pow_right (by decide) (by omega))), Nat.testBit_lt_two_pow (Nat.lt_of_lt_of_le ht (Nat.pow_le_pow_right (by decide) (by omega)))]
theorem ahead_tot {s t : Nat} (hs : s < 2 ^ 12) (ht : t < 2 ^ 12) : s = t ∨ s_ahead s t = true ∨ s_ahead t s = true := by
  rw [ahead_iff, ahead_iff]
  rcases Nat.lt_trichotomy (pop s) (pop t) with e | e | e
  · exact Or.inr (Or.inl (Or.inl e))
  · rcases first_dif (s := s) (t := t) 12 with h | ⟨k, h1, h2, h3⟩
    · exact Or.inl (eq_of_12 hs ht h)
    · cases q : s.testBit k with
      | true => exact Or.inr (Or.inl (Or.inr ⟨e, k, h1, q, by rw [q] at h2; cases w : t.testBit k with | false => rfl | true => exact absurd w.symm h2, h3⟩))
      | false => exact Or.inr (Or.inr (Or.inr ⟨e.symm, k, h1, by rw [q] at h2; cases w : t.testBit k with | true => rfl | false => exact absurd w.symm h2, q, fun j hj => (h3 j hj).symm⟩))
  · exact Or.inr (Or.inr (Or.inl e))
theorem btr_irr {S : St} (s : Nat) : ¬ btr S s s := fun h => h.elim (fun h => Nat.lt_irrefl _ h) (fun h => ahead_irr s h.2)
theorem btr_tr {S : St} {s t u : Nat} (h1 : btr S s t) (h2 : btr S t u) : btr S s u := by
  rcases h1 with h1 | ⟨h1, g1⟩ <;> rcases h2 with h2 | ⟨h2, g2⟩
  · exact Or.inl (by omega)
  · exact Or.inl (by omega)
  · exact Or.inl (by omega)
  · exact Or.inr ⟨by omega, ahead_tr g1 g2⟩
theorem btr_tot {S : St} {s t : Nat} (hs : s < 2 ^ 12) (ht : t < 2 ^ 12) : s = t ∨ btr S s t ∨ btr S t s := by
  rcases Nat.lt_trichotomy (m_tot S s) (m_tot S t) with e | e | e
  · exact Or.inr (Or.inl (Or.inl e))
  · rcases ahead_tot hs ht with h | h | h
    · exact Or.inl h
    · exact Or.inr (Or.inl (Or.inr ⟨e, h⟩))
    · exact Or.inr (Or.inr (Or.inr ⟨e.symm, h⟩))
  · exact Or.inr (Or.inr (Or.inl e))
/-- at least as good -/
def btq (S : St) (s t : Nat) : Prop := s = t ∨ btr S s t
theorem btq_tr {S : St} {s t u : Nat} (h1 : btq S s t) (h2 : btq S t u) : btq S s u := by
  rcases h1 with h1 | h1
  · rw [h1]; exact h2
  · rcases h2 with h2 | h2
    · rw [← h2]; exact Or.inr h1
    · exact Or.inr (btr_tr h1 h2)
theorem btq_anti {S : St} {s t : Nat} (h1 : btq S s t) (h2 : btq S t s) : s = t := by
  rcases h1 with h1 | h1
  · exact h1
  · rcases h2 with h2 | h2
    · exact h2.symm
    · exact absurd (btr_tr h1 h2) (btr_irr s)
/-- the reference's best is one of the sets below n, and the best of them -/
theorem c_best_ok {S : St} {r : Nat} (hS : Sok S) (h0 : okS S r 0) : ∀ n, n ≤ 2 ^ sn S 1 → 0 < n → okS S r (c_best S r n) ∧ c_best S r n < n ∧ ∀ t, t < n → okS S r t → btq S (c_best S r n) t
  | 0, _, h => absurd h (Nat.lt_irrefl 0)
  | 1, _, _ => by
    have e : c_best S r 1 = 0 := by rw [c_best, if_neg (by simp)]; rfl
    rw [e]
    exact ⟨h0, Nat.one_pos, fun t ht _ => Or.inl (by omega)⟩
  | n + 2, hn, _ => by
    obtain ⟨i1, i2, i3⟩ := c_best_ok hS h0 (n + 1) (by omega) (Nat.succ_pos n)
    rw [c_best]
    by_cases h : n + 1 ≠ 0 ∧ m_set S (n + 1) = true ∧ m_rs S (n + 1) (sn S 1) ≤ r ∧ (m_tot S (n + 1) < m_tot S (c_best S r (n + 1)) ∨ (m_tot S (n + 1) = m_tot S (c_best S r (n + 1)) ∧ s_ahead (n + 1) (c_best S r (n + 1)) = true))
    · rw [if_pos h]
      refine ⟨⟨by omega, h.2.1, h.2.2.1⟩, by omega, fun t ht hk => ?_⟩
      rcases Nat.lt_succ_iff_lt_or_eq.mp ht with e | e
      · exact btq_tr (Or.inr h.2.2.2) (i3 t e hk)
      · exact Or.inl e.symm
    · rw [if_neg h]
      refine ⟨i1, by omega, fun t ht hk => ?_⟩
      rcases Nat.lt_succ_iff_lt_or_eq.mp ht with e | e
      · exact i3 t e hk
      · subst e
        have h2 : ¬ btr S (n + 1) (c_best S r (n + 1)) := fun q => h ⟨Nat.succ_ne_zero n, hk.2.1, hk.2.2, q⟩
        have hb : 2 ^ sn S 1 ≤ 2 ^ 12 := Nat.pow_le_pow_right (by decide) hS.2.2.1
        rcases btr_tot (S := S) (s := c_best S r (n + 1)) (t := n + 1) (by omega) (by omega) with q | q | q
        · exact Or.inl q
        · exact Or.inr q
        · exact absurd q h2
/-- t agrees with s below a -/
def sub_ (S : St) (a s t : Nat) : Prop := t < 2 ^ sn S 1 ∧ ∀ j, j < a → t.testBit j = s.testBit j
theorem tb_lt {s a j : Nat} (h : s < 2 ^ a) (hj : a ≤ j) : s.testBit j = false := Nat.testBit_lt_two_pow (Nat.lt_of_lt_of_le h (Nat.pow_le_pow_right (by decide) hj))
theorem or_tb (s a j : Nat) : (s ||| 2 ^ a).testBit j = (s.testBit j || decide (j = a)) := by
  rw [Nat.testBit_or]
  by_cases e : j = a
  · subst e; rw [Nat.testBit_two_pow_self, decide_eq_true rfl]
  · rw [Nat.testBit_two_pow_of_ne (Ne.symm e), decide_eq_false e]
theorem xor_tb {t a j : Nat} (h : t.testBit a = true) : (t ^^^ 2 ^ a).testBit j = (t.testBit j && !decide (j = a)) := by
  rw [Nat.testBit_xor]
  by_cases e : j = a
  · subst e; rw [Nat.testBit_two_pow_self, decide_eq_true rfl, h]; rfl
  · rw [Nat.testBit_two_pow_of_ne (Ne.symm e), decide_eq_false e, Bool.xor_false]; simp
theorem xor_or {t a : Nat} (h : t.testBit a = true) : (t ^^^ 2 ^ a) ||| 2 ^ a = t := by
  apply Nat.eq_of_testBit_eq
  intro j
  rw [or_tb, xor_tb h]
  by_cases e : j = a
  · subst e; rw [h]; simp
  · rw [decide_eq_false e]; simp
theorem m_set_sub {S : St} {s t : Nat} (h : ∀ j, s.testBit j = true → t.testBit j = true) (ht : m_set S t = true) : m_set S s = true := by
  rw [m_set_riv] at ht ⊢
  intro a ha hs
  have := ht a ha (h a hs)
  rw [and_0] at this ⊢
  exact fun j hj => this j ⟨hj.1, h j hj.2⟩
theorem m_rs_sub {S : St} {s t : Nat} (h : ∀ j, s.testBit j = true → t.testBit j = true) : ∀ n, m_rs S s n ≤ m_rs S t n
  | 0 => Nat.le_refl _
  | n + 1 => by
    have ih := m_rs_sub (S := S) h n
    unfold m_rs at ih ⊢
    rw [sumN, sumN]
    by_cases e : s.testBit n = true
    · rw [if_pos e, if_pos (h n e)]; omega
    · rw [if_neg e]; omega
theorem m_lc_sub {S : St} {q s t : Nat} (h : ∀ j, s.testBit j = true → t.testBit j = true) : ∀ n, m_lc S q t n ≤ m_lc S q s n
  | 0 => Nat.le_refl _
  | n + 1 => by
    have ih := m_lc_sub (S := S) (q := q) h n
    rw [lc_s, lc_s]
    by_cases e : s.testBit n = true
    · rw [if_pos e, if_pos (h n e)]
      omega
    · rw [if_neg e]
      split
      · exact Nat.le_trans (Nat.min_le_left _ _) ih
      · exact ih
theorem sumN_mono {f g : Nat → Nat} : ∀ n, (∀ q, q < n → f q ≤ g q) → sumN n f ≤ sumN n g
  | 0, _ => Nat.le_refl _
  | n + 1, h => by
    have := sumN_mono n (fun q hq => h q (by omega))
    have := h n (Nat.lt_succ_self n)
    rw [sumN, sumN]; omega
theorem svN_mono {S : St} {a n : Nat} {e f : Nat → Nat} (h : ∀ q, e q ≤ f q) : svN S a e n ≤ svN S a f n :=
  sumN_mono n (fun q _ => Nat.mul_le_mul_left _ (by have := h q; omega))
theorem pop_or {s a : Nat} (ha : a < 12) (h : s.testBit a = false) : pop (s ||| 2 ^ a) = pop s + 1 := cnt_or ha h
theorem pop_0 {t : Nat} (ht : t < 2 ^ 12) (h : pop t = 0) : t = 0 := by
  refine eq_of_12 ht (by decide) (fun j hj => ?_)
  rw [Nat.zero_testBit]
  cases e : t.testBit j with
  | false => rfl
  | true =>
    have h1 : t.testBit j = true := e
    have h2 : (t ^^^ 2 ^ j).testBit j = false := by rw [xor_tb h1, decide_eq_true rfl]; simp
    have := pop_or hj h2
    rw [xor_or h1] at this
    omega
theorem pop_z : pop 0 = 0 := by decide
theorem okS_0 {S : St} (r : Nat) : okS S r 0 := by
  refine ⟨Nat.two_pow_pos _, m_set_riv.mpr (fun a _ h => by rw [Nat.zero_testBit] at h; exact absurd h (by decide)), ?_⟩
  have : ∀ n, m_rs S 0 n = 0 := fun n => by
    induction n with
    | zero => rfl
    | succ n ih => unfold m_rs at ih ⊢; rw [sumN, ih, Nat.zero_testBit]; rfl
  rw [this]; exact Nat.zero_le _
theorem exN_ok {S : St} {r : Nat} (hS : Sok S) : ∀ n a s b, a + n = sn S 1 → s < 2 ^ a → okS S r s → okS S r b → (∀ t, sub_ S a s t → pop t = pop b → b = t ∨ s_ahead b t = true) →
    okS S r (exN S r n a s b) ∧ btq S (exN S r n a s b) b ∧ (∀ t, sub_ S a s t → okS S r t → btq S (exN S r n a s b) t) ∧ (exN S r n a s b = b ∨ sub_ S a s (exN S r n a s b))
  | 0, a, s, b, han, hs, ks, kb_, hb => by
    have ha : a = sn S 1 := by omega
    subst ha
    have same : ∀ t, sub_ S (sn S 1) s t → t = s := fun t ht => by
      apply Nat.eq_of_testBit_eq
      intro j
      by_cases e : j < sn S 1
      · exact ht.2 j e
      · rw [tb_lt ht.1 (by omega), tb_lt hs (by omega)]
    have hself : sub_ S (sn S 1) s s := ⟨hs, fun _ _ => rfl⟩
    rw [exN, kb]
    by_cases c : m_tot S s < m_tot S b ∨ (m_tot S s = m_tot S b ∧ pop s < pop b)
    · rw [if_pos c]
      refine ⟨ks, Or.inr ?_, fun t ht _ => Or.inl (same t ht).symm, Or.inr hself⟩
      rcases c with c | c
      · exact Or.inl c
      · exact Or.inr ⟨c.1, ahead_iff.mpr (Or.inl c.2)⟩
    · rw [if_neg c]
      refine ⟨kb_, Or.inl rfl, fun t ht _ => ?_, Or.inl rfl⟩
      rw [same t ht]
      have c1 : ¬ m_tot S s < m_tot S b := fun q => c (Or.inl q)
      have c2 : ¬ (m_tot S s = m_tot S b ∧ pop s < pop b) := fun q => c (Or.inr q)
      by_cases e : m_tot S b < m_tot S s
      · exact Or.inr (Or.inl e)
      · have e1 : m_tot S s = m_tot S b := by omega
        have e2 : ¬ pop s < pop b := fun q => c2 ⟨e1, q⟩
        by_cases e3 : pop b < pop s
        · exact Or.inr (Or.inr ⟨e1.symm, ahead_iff.mpr (Or.inl e3)⟩)
        · rcases hb s hself (by omega) with q | q
          · exact Or.inl q
          · exact Or.inr (Or.inr ⟨e1.symm, q⟩)
  | n + 1, a, s, b, han, hs, ks, kb_, hb => by
    have h12 : sn S 1 ≤ 12 := hS.2.2.1
    have ha : a < sn S 1 := by omega
    have hsa : s.testBit a = false := tb_lt hs (Nat.le_refl a)
    have hs1 : s < 2 ^ (a + 1) := Nat.lt_trans hs (Nat.pow_lt_pow_right (by decide) (Nat.lt_succ_self a))
    have hs2 : s ||| 2 ^ a < 2 ^ (a + 1) := Nat.or_lt_two_pow hs1 (Nat.pow_lt_pow_right (by decide) (Nat.lt_succ_self a))
    have sub1 : ∀ t, sub_ S (a + 1) (s ||| 2 ^ a) t → sub_ S a s t ∧ t.testBit a = true := fun t ht => ⟨⟨ht.1, fun j hj => by rw [ht.2 j (by omega), or_tb, decide_eq_false (by omega), Bool.or_false]⟩, by rw [ht.2 a (Nat.lt_succ_self a), or_tb, decide_eq_true rfl, Bool.or_true]⟩
    have sub2 : ∀ t, sub_ S (a + 1) s t → sub_ S a s t ∧ t.testBit a = false := fun t ht => ⟨⟨ht.1, fun j hj => ht.2 j (by omega)⟩, by rw [ht.2 a (Nat.lt_succ_self a), hsa]⟩
    rw [exN]
    -- the first half
    have first : ∀ b1, b1 = (if d_rivs S a &&& s = 0 ∧ m_rs S s (sn S 1) + m_sp S a ≤ r ∧ m_tot S (s ||| 2 ^ a) < m_tot S s then exN S r n (a + 1) (s ||| 2 ^ a) b else b) → okS S r b1 ∧ btq S b1 b ∧ ((d_rivs S a &&& s = 0 ∧ m_rs S s (sn S 1) + m_sp S a ≤ r ∧ m_tot S (s ||| 2 ^ a) < m_tot S s) → ∀ t, sub_ S (a + 1) (s ||| 2 ^ a) t → okS S r t → btq S b1 t) ∧ (b1 = b ∨ sub_ S (a + 1) (s ||| 2 ^ a) b1) := fun b1 e1 => by
      by_cases c : d_rivs S a &&& s = 0 ∧ m_rs S s (sn S 1) + m_sp S a ≤ r ∧ m_tot S (s ||| 2 ^ a) < m_tot S s
      · rw [if_pos c] at e1
        have k1 : okS S r (s ||| 2 ^ a) := ⟨or_lt ks.1 ha, (set_add ks.2.1 ha hsa).mpr c.1, by rw [rs_or hsa, if_pos ha]; exact c.2.1⟩
        obtain ⟨i1, i2, i3, i4⟩ := exN_ok hS n (a + 1) (s ||| 2 ^ a) b (by omega) hs2 k1 kb_ (fun t ht hp => hb t (sub1 t ht).1 hp)
        rw [e1]
        exact ⟨i1, i2, fun _ => i3, i4⟩
      · rw [if_neg c] at e1
        rw [e1]
        exact ⟨kb_, Or.inl rfl, fun q => absurd q c, Or.inl rfl⟩
    generalize hb1 : (if d_rivs S a &&& s = 0 ∧ m_rs S s (sn S 1) + m_sp S a ≤ r ∧ m_tot S (s ||| 2 ^ a) < m_tot S s then exN S r n (a + 1) (s ||| 2 ^ a) b else b) = b1
    obtain ⟨f1, f2, f3, f4⟩ := first b1 hb1.symm
    obtain ⟨i1, i2, i3, i4⟩ := exN_ok hS n (a + 1) s b1 (by omega) hs1 ks f1 (fun t ht hp => by
      obtain ⟨t1, t2⟩ := sub2 t ht
      rcases f4 with e | e
      · rw [e] at hp ⊢; exact hb t t1 hp
      · obtain ⟨g1, g2⟩ := sub1 b1 e
        exact Or.inr (ahead_iff.mpr (Or.inr ⟨hp.symm, a, by omega, g2, t2, fun j hj => (g1.2 j hj).trans (t1.2 j hj).symm⟩)))
    generalize exN S r n (a + 1) s b1 = b2 at i1 i2 i3 i4
    refine ⟨i1, btq_tr i2 f2, fun t ht hk => ?_, ?_⟩
    · cases e : t.testBit a with
      | false =>
        refine i3 t ⟨ht.1, fun j hj => ?_⟩ hk
        rcases Nat.lt_succ_iff_lt_or_eq.mp hj with q | q
        · exact ht.2 j q
        · rw [q, e, hsa]
      | true =>
        have ht1 : sub_ S (a + 1) (s ||| 2 ^ a) t := ⟨ht.1, fun j hj => by
          rw [or_tb]
          rcases Nat.lt_succ_iff_lt_or_eq.mp hj with q | q
          · rw [decide_eq_false (by omega), Bool.or_false]; exact ht.2 j q
          · rw [q, e, decide_eq_true rfl, Bool.or_true]⟩
        by_cases c : d_rivs S a &&& s = 0 ∧ m_rs S s (sn S 1) + m_sp S a ≤ r ∧ m_tot S (s ||| 2 ^ a) < m_tot S s
        · exact btq_tr i2 (f3 c t ht1 hk)
        · -- without a it is better
          have hsub : ∀ j, s.testBit j = true → t.testBit j = true := fun j hj => by
            by_cases q : j < a
            · rw [ht.2 j q]; exact hj
            · rw [tb_lt hs (by omega)] at hj; exact absurd hj (by decide)
          have htx : ∀ j, (t ^^^ 2 ^ a).testBit j = true → t.testBit j = true := fun j hj => by
            rw [xor_tb e, Bool.and_eq_true] at hj; exact hj.1
          have hxa : (t ^^^ 2 ^ a).testBit a = false := by rw [xor_tb e, decide_eq_true rfl]; simp
          have hsx : ∀ j, s.testBit j = true → (t ^^^ 2 ^ a).testBit j = true := fun j hj => by
            have : j ≠ a := fun q => by rw [q, hsa] at hj; exact absurd hj (by decide)
            rw [xor_tb e, hsub j hj, decide_eq_false this]; rfl
          have hor := xor_or e
          have c1 : d_rivs S a &&& s = 0 := by
            have := m_set_riv.mp hk.2.1 a ha e
            rw [and_0] at this ⊢
            exact fun j hj => this j ⟨hj.1, hsub j hj.2⟩
          have c2 : m_rs S s (sn S 1) + m_sp S a ≤ r := by
            have h1 := m_rs_sub (S := S) hsx (sn S 1)
            have h2 := rs_or (S := S) (s := t ^^^ 2 ^ a) (a := a) hxa (sn S 1)
            rw [hor, if_pos ha] at h2
            have := hk.2.2
            omega
          have c3 : ¬ m_tot S (s ||| 2 ^ a) < m_tot S s := fun q => c ⟨c1, c2, q⟩
          have t1 := tot_or (S := S) (s := s) ha hsa
          have t2 := tot_or (S := S) (s := t ^^^ 2 ^ a) ha hxa
          rw [hor] at t2
          have t3 := svN_mono (S := S) (a := a) (n := sn S 0) (e := fun q => m_lc S q (t ^^^ 2 ^ a) (sn S 1)) (f := fun q => m_lc S q s (sn S 1)) (fun q => m_lc_sub hsx _)
          have hp := pop_or (s := t ^^^ 2 ^ a) (a := a) (by omega) hxa
          rw [hor] at hp
          have hbt : btr S (t ^^^ 2 ^ a) t := by
            by_cases q : m_tot S (t ^^^ 2 ^ a) < m_tot S t
            · exact Or.inl q
            · exact Or.inr ⟨by omega, ahead_iff.mpr (Or.inl (by omega))⟩
          have kx : okS S r (t ^^^ 2 ^ a) := ⟨xor_lt ht.1 ha, m_set_sub htx hk.2.1, Nat.le_trans (m_rs_sub htx _) hk.2.2⟩
          refine btq_tr (i3 (t ^^^ 2 ^ a) ⟨kx.1, fun j hj => ?_⟩ kx) (Or.inr hbt)
          rw [xor_tb e]
          rcases Nat.lt_succ_iff_lt_or_eq.mp hj with q | q
          · rw [decide_eq_false (by omega), ht.2 j q]; simp
          · rw [q, decide_eq_true rfl, hsa]; simp
    · rcases i4 with e | e
      · rw [e]
        rcases f4 with q | q
        · exact Or.inl q
        · exact Or.inr (sub1 b1 q).1
      · exact Or.inr (sub2 b2 e).1
/-- the class's choice is the reference's -/
theorem exN_best {S : St} {r : Nat} (hS : Sok S) : exN S r (sn S 1) 0 0 0 = c_best S r (2 ^ sn S 1) := by
  have h12 : 2 ^ sn S 1 ≤ 2 ^ 12 := Nat.pow_le_pow_right (by decide) hS.2.2.1
  have h0 := okS_0 (S := S) r
  obtain ⟨i1, i2, i3, i4⟩ := exN_ok (r := r) hS (sn S 1) 0 0 0 (by omega) (by decide) h0 h0 (fun t ht hp => Or.inl (by rw [pop_z] at hp; exact (pop_0 (by have := ht.1; omega) hp).symm))
  obtain ⟨j1, j2, j3⟩ := c_best_ok (r := r) hS h0 (2 ^ sn S 1) (Nat.le_refl _) (Nat.two_pow_pos _)
  exact btq_anti (i3 _ ⟨j2, fun j hj => absurd hj (Nat.not_lt_zero j)⟩ j1) (j3 _ i1.1 i1)
