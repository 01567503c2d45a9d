theorem ite_iff {α : Type} {b c : Prop} [Decidable b] [Decidable c] {x y : α} (h : b ↔ c) : (if b then x else y) = if c then x else y := by
  by_cases w : b
  · rw [if_pos w, if_pos (h.mp w)]
  · rw [if_neg w, if_neg (fun q => w (h.mpr q))]
theorem lNd_toInt {a b : Nat} (ha : a < 2 ^ 31) (hb : b < 2 ^ 31) : (lN a - lN b).toInt = (a : Int) - b := by
  rw [Int64.toInt_sub, lN_toInt ha, lN_toInt hb]
  exact Int.bmod_eq_of_le (by omega) (by omega)
theorem l_lt {x y : Int64} : x < y ↔ x.toInt < y.toInt := Int64.lt_iff_toInt_lt
theorem l_le {x y : Int64} : x ≤ y ↔ x.toInt ≤ y.toInt := Int64.le_iff_toInt_le
theorem l_eq {x y : Int64} : x = y ↔ x.toInt = y.toInt := Int64.toInt_inj.symm
theorem lNd_lt {a b c d : Nat} (ha : a < 2 ^ 31) (hb : b < 2 ^ 31) (hc : c < 2 ^ 31) (hd : d < 2 ^ 31) : lN a - lN b < lN c - lN d ↔ a + d < c + b := by
  rw [l_lt, lNd_toInt ha hb, lNd_toInt hc hd]; omega
theorem lNd_eq {a b c d : Nat} (ha : a < 2 ^ 31) (hb : b < 2 ^ 31) (hc : c < 2 ^ 31) (hd : d < 2 ^ 31) : lN a - lN b = lN c - lN d ↔ a + d = c + b := by
  rw [l_eq, lNd_toInt ha hb, lNd_toInt hc hd]; omega
theorem lNd_le0 {a b : Nat} (ha : a < 2 ^ 31) (hb : b < 2 ^ 31) : lN a - lN b ≤ lN 0 ↔ a ≤ b := by
  rw [l_le, lNd_toInt ha hb, lN_toInt (by decide)]; omega
theorem lNd_0 (a : Nat) : lN a - lN a = lN 0 := Int64.sub_self _
theorem m_tot_le {S : St} (hS : Sok S) (s : Nat) : m_tot S s ≤ 192000 := by
  have h1 := m_tq_le (s := s) hS (Nat.le_refl _)
  have h2 := m_tk_le (s := s) hS (Nat.le_refl _)
  unfold m_tot; omega
/-- the reference's worked costs -/
def wkv (S : St) (q x : Nat) : Int32 := if x = 12 then nI (m_plain S q) else nO (if m_helps S q x = true then m_cost S q x + 1 else 0)
def wkf (S : St) (m : Nat → Nat → Int32) (P : Nat → Bool) : Nat → Int32 := fun j => if P j = true then wkv S (j / 13) (j % 13) else m 2 j
def wk2 (S : St) (m : Nat → Nat → Int32) (P : Nat → Bool) : Nat → Nat → Int32 := va_up m 2 (wkf S m P)
def wk3 (S : St) (m : Nat → Nat → Int32) (P : Nat → Bool) (a : Nat) : Nat → Nat → Int32 := va_up (wk2 S m P) 3 (fun j => if j < a then nI (m_sp S j) else m 3 j)
def W0 (n q : Nat) : Nat → Bool := fun j => decide (j / 13 < q ∧ (j % 13 = 12 ∨ j % 13 < n))
def W1 (n q a : Nat) : Nat → Bool := fun j => decide ((j / 13 < q ∧ (j % 13 = 12 ∨ j % 13 < n)) ∨ (j / 13 = q ∧ (j % 13 = 12 ∨ j % 13 < a)))
theorem mok_wk2 {S : St} {m : Nat → Nat → Int32} {P : Nat → Bool} (h : Mok S m) : Mok S (wk2 S m P) := h
theorem mok_wk3 {S : St} {m : Nat → Nat → Int32} {P : Nat → Bool} {a : Nat} (h : Mok S m) : Mok S (wk3 S m P a) := h
theorem wkf_s {S : St} {m : Nat → Nat → Int32} {P P' : Nat → Bool} {i : Nat} {x : Int32} (hx : x = wkv S (i / 13) (i % 13)) (h : ∀ j, P' j = true ↔ j = i ∨ P j = true) : upd (wkf S m P) i x = wkf S m P' := by
  refine upd_eq (fun j => ?_)
  unfold wkf
  by_cases e : j = i
  · rw [if_pos e, if_pos ((h j).mpr (Or.inl e)), e, hx]
  · rw [if_neg e]
    by_cases q : P j = true
    · rw [if_pos q, if_pos ((h j).mpr (Or.inr q))]
    · rw [if_neg q, if_neg (fun w => ((h j).mp w).elim e q)]
theorem wk_eq {G : x_G} {lo : x_L} {S : St} {m m' : Nat → Nat → Int32} {M : Nat → Nat → Int32} (f g : Nat → Int32) (hm : m' = va_up (va_up m 2 f) 3 g) (h28 : M 28 = f) (h29 : M 29 = g) (h : ∀ i, i ≠ 28 → i ≠ 29 → M i = mS S m i) : mco G lo (nS S) M = mco G lo (nS S) (mS S m') := by
  subst hm
  refine mco_ext rfl (tags_all ?_ ?_ ?_ ?_ ?_ ?_ ?_ ?_ ?_ ?_ ?_ ?_ ?_ ?_ ?_ ?_ ?_ ?_ ?_ ?_ ?_ ?_ ?_ ?_ ?_ ?_)
  iterate 24 exact h _ (by decide) (by decide)
  · exact h28
  · exact h29
theorem wk_init {G : x_G} {lo : x_L} {S : St} {m : Nat → Nat → Int32} {n : Nat} : mco G lo (nS S) (mS S m) = mco G lo (nS S) (mS S (wk2 S m (W0 n 0))) := by
  have : wk2 S m (W0 n 0) = m := by
    unfold wk2
    rw [show wkf S m (W0 n 0) = m 2 from funext fun j => if_neg (by unfold W0; simp), va_up_id]
  rw [this]
theorem wk_up28 {G : x_G} {lo : x_L} {S : St} {m : Nat → Nat → Int32} {P P' : Nat → Bool} {i : Nat} {x : Int32} (hx : x = wkv S (i / 13) (i % 13)) (h : ∀ j, P' j = true ↔ j = i ∨ P j = true) : mco G lo (nS S) (va_up (mS S (wk2 S m P)) 28 (upd (mS S (wk2 S m P) 28) i x)) = mco G lo (nS S) (mS S (wk2 S m P')) := by
  refine mco_ext rfl (tags_all ?_ ?_ ?_ ?_ ?_ ?_ ?_ ?_ ?_ ?_ ?_ ?_ ?_ ?_ ?_ ?_ ?_ ?_ ?_ ?_ ?_ ?_ ?_ ?_ ?_ ?_)
  iterate 24 rfl
  · exact wkf_s hx h
  · rfl
theorem wk_next {S : St} {m : Nat → Nat → Int32} {n q a : Nat} (ha : a = n) : wk2 S m (W1 n q a) = wk2 S m (W0 n (q + 1)) := by
  subst ha
  unfold wk2
  congr 1
  unfold wkf
  funext j
  have : (W1 a q a j = true) = (W0 a (q + 1) j = true) := by
    unfold W0 W1; simp only [decide_eq_true_eq]; apply propext; omega
  simp only [this]
theorem wk_r0 {G : x_G} {lo : x_L} {S : St} {m : Nat → Nat → Int32} {P : Nat → Bool} : mco G lo (nS S) (mS S (wk2 S m P)) = mco G lo (nS S) (mS S (wk3 S m P 0)) := by
  have : wk3 S m P 0 = wk2 S m P := by
    unfold wk3
    rw [show (fun j => if j < 0 then nI (m_sp S j) else m 3 j) = wk2 S m P 3 from funext fun j => if_neg (by omega), va_up_id]
  rw [this]
theorem wk_rs {G : x_G} {lo : x_L} {S : St} {m : Nat → Nat → Int32} {P : Nat → Bool} {a : Nat} : mco G lo (nS S) (va_up (mS S (wk3 S m P a)) 29 (upd (mS S (wk3 S m P a) 29) a (nI (m_sp S a)))) = mco G lo (nS S) (mS S (wk3 S m P (a + 1))) := by
  refine mco_ext rfl (tags_all ?_ ?_ ?_ ?_ ?_ ?_ ?_ ?_ ?_ ?_ ?_ ?_ ?_ ?_ ?_ ?_ ?_ ?_ ?_ ?_ ?_ ?_ ?_ ?_ ?_ ?_)
  iterate 25 rfl
  · refine upd_eq (fun j => ?_)
    show (if j < a + 1 then nI (m_sp S j) else m 3 j) = if j = a then nI (m_sp S a) else (if j < a then nI (m_sp S j) else m 3 j)
    by_cases e : j = a
    · rw [if_pos e, if_pos (by omega), e]
    · rw [if_neg e]
      by_cases q : j < a
      · rw [if_pos q, if_pos (by omega)]
      · rw [if_neg q, if_neg (by omega)]
theorem wok_wk {S : St} {m : Nat → Nat → Int32} {q a : Nat} (hS : Sok S) (hq : q = sn S 0) (ha : a = sn S 1) : Wok S (wk3 S m (W0 (sn S 1) q) a) := by
  subst hq ha
  have h12 := hS.2.2.1
  refine ⟨fun q hq => ⟨?_, fun a ha => ?_⟩, fun a ha => if_pos ha⟩
  · show wkf S m _ _ = _
    unfold wkf W0
    rw [if_pos (by simp only [decide_eq_true_eq]; omega), show (13 * q + 12) / 13 = q by omega, show (13 * q + 12) % 13 = 12 by omega]; rfl
  · show wkf S m _ _ = _
    unfold wkf W0
    rw [if_pos (by simp only [decide_eq_true_eq]; omega), show (13 * q + a) / 13 = q by omega, show (13 * q + a) % 13 = a by omega, wkv, if_neg (by omega)]
theorem P_cost_m1 {S : St} {q : Nat} (hS : Sok S) (hq : q < sn S 0) : P_cost S (nI q) (-1) = nI (m_plain S q) := by
  have := hS.2.1
  unfold P_cost; rw [x_in_nI (by omega) (by omega), if_pos (decide_eq_true hq), if_pos rfl, nI_clamp (by omega)]
theorem P_cost_a {S : St} {q a : Nat} (hS : Sok S) (hq : q < sn S 0) (ha : a < sn S 1) : P_cost S (nI q) (nI a) = nO (if m_helps S q a = true then m_cost S q a + 1 else 0) := by
  have := hS.2.1
  have := hS.2.2.1
  have hne : ¬ nI a = (-1) := fun e => absurd (show nI a < 0 by rw [e]; decide) (nI_pos (by omega))
  unfold P_cost; rw [x_in_nI (by omega) (by omega), if_pos (decide_eq_true hq), if_neg hne, x_in_nI (by omega) (by omega), nI_clamp (by omega), nI_clamp (by omega)]
  by_cases h : m_helps S q a = true
  · rw [if_pos ⟨decide_eq_true ha, h⟩, if_pos h]; rfl
  · rw [if_neg (fun w => h w.2), if_neg h]; rfl
/-- the choice: of the sets below n, the best -/
def c_best (S : St) (r : Nat) : Nat → Nat
  | 0 => 0
  | s + 1 => if s ≠ 0 ∧ m_set S s = true ∧ m_rs S s (sn S 1) ≤ r ∧ (m_tot S s < m_tot S (c_best S r s) ∨ (m_tot S s = m_tot S (c_best S r s) ∧ s_ahead s (c_best S r s) = true)) then s else c_best S r s
theorem c_best_lt (S : St) (r : Nat) : ∀ n, 0 < n → c_best S r n < n
  | 0, h => by omega
  | 1, _ => by rw [c_best, if_neg (by simp)]; exact Nat.one_pos
  | n + 2, _ => by
    have := c_best_lt S r (n + 1) (by omega)
    rw [c_best]; split <;> omega
def P_choose (S : St) (r : Int32) : Int32 := if s_btw r (nI 0) (nI 10000) = true then nI (c_best S r.toNatClampNeg (2 ^ sn S 1)) else -1
/-- greedy: the next aid (and 1) for a set; 0 for none -/
def g_nx (S : St) (r s : Nat) : Nat → Nat
  | 0 => 0
  | a + 1 => if s.testBit a = false ∧ m_set S (s ||| 2 ^ a) = true ∧ m_rs S (s ||| 2 ^ a) (sn S 1) ≤ r ∧ m_tot S (s ||| 2 ^ a) < m_tot S s ∧ (g_nx S r s a = 0 ∨ m_tot S (s ||| 2 ^ a) < m_tot S (s ||| 2 ^ (g_nx S r s a - 1)) ∨ (m_tot S (s ||| 2 ^ a) = m_tot S (s ||| 2 ^ (g_nx S r s a - 1)) ∧ m_sp S a < m_sp S (g_nx S r s a - 1))) then a + 1 else g_nx S r s a
def g_it (S : St) (r : Nat) : Nat → Nat
  | 0 => 0
  | i + 1 => if g_nx S r (g_it S r i) (sn S 1) = 0 then g_it S r i else g_it S r i ||| 2 ^ (g_nx S r (g_it S r i) (sn S 1) - 1)
def P_greedy (S : St) (r : Int32) : Int32 := if s_btw r (nI 0) (nI 10000) = true then nI (g_it S r.toNatClampNeg (sn S 1)) else -1
theorem g_nx_le (S : St) (r s : Nat) : ∀ n, g_nx S r s n ≤ n ∧ (g_nx S r s n ≠ 0 → s.testBit (g_nx S r s n - 1) = false ∧ m_set S (s ||| 2 ^ (g_nx S r s n - 1)) = true ∧ m_rs S (s ||| 2 ^ (g_nx S r s n - 1)) (sn S 1) ≤ r ∧ m_tot S (s ||| 2 ^ (g_nx S r s n - 1)) < m_tot S s)
  | 0 => ⟨Nat.le_refl 0, fun h => absurd rfl h⟩
  | n + 1 => by
    obtain ⟨h1, h2⟩ := g_nx_le S r s n
    rw [g_nx]
    split
    · next h => exact ⟨Nat.le_refl _, fun _ => ⟨h.1, h.2.1, h.2.2.1, h.2.2.2.1⟩⟩
    · exact ⟨by omega, h2⟩
theorem cnt_or {s a n : Nat} (ha : a < n) (h : s.testBit a = false) : cntN n (fun k => (s ||| 2 ^ a).testBit k) = cntN n (fun k => s.testBit k) + 1 := by
  induction n with
  | zero => omega
  | succ n ih =>
    rw [cntN, cntN]
    by_cases e : a = n
    · subst e
      have hc : cntN a (fun k => (s ||| 2 ^ a).testBit k) = cntN a (fun k => s.testBit k) := cntN_congr (fun k hk => by show (s ||| 2 ^ a).testBit k = s.testBit k; rw [Nat.testBit_or, Nat.testBit_two_pow_of_ne (by omega), Bool.or_false])
      have h2 : (s ||| 2 ^ a).testBit a = true := by simp
      rw [hc]; simp only [h2, h]; rfl
    · have h2 : (s ||| 2 ^ a).testBit n = s.testBit n := by rw [Nat.testBit_or, Nat.testBit_two_pow_of_ne (by omega), Bool.or_false]
      rw [ih (by omega)]; simp only [h2]; omega
theorem g_it_cnt (S : St) (r : Nat) : ∀ i, (∀ j, j < i → g_nx S r (g_it S r j) (sn S 1) ≠ 0) → cntN (sn S 1) (fun k => (g_it S r i).testBit k) = i
  | 0, _ => by
    have : ∀ n, cntN n (fun k => Nat.testBit 0 k) = 0 := fun n => by
      induction n with
      | zero => rfl
      | succ n ih => rw [cntN, ih]; simp
    exact this _
  | i + 1, h => by
    have h0 := h i (Nat.lt_succ_self i)
    obtain ⟨h1, h2⟩ := g_nx_le S r (g_it S r i) (sn S 1)
    have ih := g_it_cnt S r i (fun j hj => h j (by omega))
    rw [g_it, if_neg h0, cnt_or (by omega) (h2 h0).1, ih]
theorem g_it_le {S : St} {r i : Nat} (h : ∀ j, j < i → g_nx S r (g_it S r j) (sn S 1) ≠ 0) : i ≤ sn S 1 := by
  have := g_it_cnt S r i h
  have h2 := cntN_le (p := fun k => (g_it S r i).testBit k) (sn S 1)
  omega
theorem g_it_fix {S : St} {r i : Nat} (h : g_nx S r (g_it S r i) (sn S 1) = 0) : ∀ d, g_it S r (i + d) = g_it S r i
  | 0 => rfl
  | d + 1 => by rw [← Nat.add_assoc, g_it, g_it_fix h d, if_pos h]
theorem g_it_lt {S : St} (r : Nat) : ∀ i, g_it S r i < 2 ^ sn S 1
  | 0 => Nat.two_pow_pos _
  | i + 1 => by
    have ih := g_it_lt (S := S) r i
    rw [g_it]; split
    · exact ih
    · next h => exact or_lt ih (by have := (g_nx_le S r (g_it S r i) (sn S 1)).1; omega)
theorem g_step {S : St} {r s a b : Nat} {sv : Int64} (hS : Sok S) (hb : b = g_nx S r s a) (hsv : sv = lN (m_tot S s) - lN (if b = 0 then m_tot S s else m_tot S (s ||| 2 ^ (b - 1)))) :
    (g_nx S r s (a + 1) = if s.testBit a = false ∧ m_set S (s ||| 2 ^ a) = true ∧ m_rs S (s ||| 2 ^ a) (sn S 1) ≤ r ∧ ¬ lg_cmp (lN (m_tot S s) - lN (m_tot S (s ||| 2 ^ a))) (lN 0) ≤ 0 ∧ (b = 0 ∨ (¬ lg_cmp (lN (m_tot S s) - lN (m_tot S (s ||| 2 ^ a))) sv < 0 ∧ (¬ lg_cmp (lN (m_tot S s) - lN (m_tot S (s ||| 2 ^ a))) sv = 0 ∨ m_sp S a < m_sp S (b - 1)))) then a + 1 else b) := by
  have t1 := m_tot_le hS s
  have t2 := m_tot_le hS (s ||| 2 ^ a)
  have t3 := m_tot_le hS (s ||| 2 ^ (b - 1))
  rw [g_nx, ← hb]
  refine ite_iff ?_
  rw [lg_cmp_le, lNd_le0 (by omega) (by omega), lg_cmp_lt, lg_cmp_eq]
  by_cases h0 : b = 0
  · simp only [h0, true_or, and_true, Nat.not_le]
  · rw [if_neg h0] at hsv
    rw [hsv, lNd_lt (by omega) (by omega) (by omega) (by omega), lNd_eq (by omega) (by omega) (by omega) (by omega)]
    simp only [h0, false_or]
    constructor
    · rintro ⟨g1, g2, g3, g4, g5⟩
      exact ⟨g1, g2, g3, by omega, by omega, by omega⟩
    · rintro ⟨g1, g2, g3, g4, g5, g6⟩
      exact ⟨g1, g2, g3, by omega, by omega⟩
theorem x_D.cast {A : Nat → Prop} {G : x_G} {H0 H : Heap} {lo : x_L} {co co' : x_C} {locs : List Loc} (e : co = co') (h : x_D A G H0 lo co H locs) : x_D A G H0 lo co' H locs := e ▸ h
