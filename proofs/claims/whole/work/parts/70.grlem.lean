/-! what is gathered -/
/-- what fits beside a set is what makes a set that fits -/
theorem fit_iff {S : St} {s a r l : Nat} (hs : m_set S s = true) (ha : a < sn S 1) (hl : l + m_rs S s (sn S 1) = r) : (!s.testBit a && decide (m_sp S a ≤ l) && decide (d_rivs S a &&& s = 0)) = true ↔ s.testBit a = false ∧ m_set S (s ||| 2 ^ a) = true ∧ m_rs S (s ||| 2 ^ a) (sn S 1) ≤ r := by
  rw [Bool.and_eq_true, Bool.and_eq_true, Bool.not_eq_true', decide_eq_true_iff, decide_eq_true_iff]
  constructor
  · rintro ⟨⟨h1, h2⟩, h3⟩
    exact ⟨h1, (set_add hs ha h1).mpr h3, by rw [rs_or h1, if_pos ha]; omega⟩
  · rintro ⟨h1, h2, h3⟩
    rw [rs_or h1, if_pos ha] at h3
    exact ⟨⟨h1, by omega⟩, (set_add hs ha h1).mp h2⟩
/-- saved, as the class has it -/
theorem sv_tot {S : St} {s a : Nat} (ha : a < sn S 1) (h : s.testBit a = false) : lN (svN S a (fun q => m_lc S q s (sn S 1)) (sn S 0)) - lN (m_kc S a) = lN (m_tot S s) - lN (m_tot S (s ||| 2 ^ a)) := by
  have t := tot_or (S := S) ha h
  have e : lN (m_tot S (s ||| 2 ^ a)) + lN (svN S a (fun q => m_lc S q s (sn S 1)) (sn S 0)) = lN (m_tot S s) + lN (m_kc S a) := by rw [lN_add, lN_add, t]
  have e2 : lN (svN S a (fun q => m_lc S q s (sn S 1)) (sn S 0)) = lN (m_tot S s) + lN (m_kc S a) - lN (m_tot S (s ||| 2 ^ a)) := by rw [← e, Int64.add_comm, Int64.add_sub_cancel]
  rw [e2]
  simp only [Int64.sub_eq_add_neg]
  rw [Int64.add_assoc (lN (m_tot S s)), Int64.add_assoc (lN (m_tot S s)), Int64.add_assoc, Int64.add_comm (lN (m_kc S a)), Int64.add_assoc, Int64.add_left_neg, Int64.add_zero]
/-- the next aid: one step -/
theorem ms_step {S : St} {r s a b sm b' : Nat} {sv ms : Int64} (hS : Sok S) (hs : m_set S s = true) (ha : a < sn S 1) (hb : b = g_nx S r s a)
    (hms : ms = lN (m_tot S s) - lN (if b = 0 then m_tot S s else m_tot S (s ||| 2 ^ (b - 1))))
    (hsv : sv = if s.testBit a = false ∧ m_set S (s ||| 2 ^ a) = true ∧ m_rs S (s ||| 2 ^ a) (sn S 1) ≤ r then lN (m_tot S s) - lN (m_tot S (s ||| 2 ^ a)) else lN 0)
    (hsm : sm = if b = 0 then 0 else if lg_cmp sv ms = 0 then (if m_sp S (b - 1) ≤ m_sp S a then 0 else 1) else 0)
    (hb' : b' = if 0 < lg_cmp sv ms then a + 1 else if sm = 0 then b else a + 1) : b' = g_nx S r s (a + 1) := by
  have t1 := m_tot_le hS s
  have t2 := m_tot_le hS (s ||| 2 ^ a)
  have t3 := m_tot_le hS (s ||| 2 ^ (b - 1))
  have hle := g_nx_le S r s a
  rw [← hb] at hle
  rw [g_nx, ← hb, hb']
  rw [ite_iff (lg_cmp_gt sv ms)]
  rw [ite_iff (lg_cmp_eq sv ms)] at hsm
  by_cases hf : s.testBit a = false ∧ m_set S (s ||| 2 ^ a) = true ∧ m_rs S (s ||| 2 ^ a) (sn S 1) ≤ r
  · rw [if_pos hf] at hsv
    by_cases h0 : b = 0
    · rw [if_pos h0] at hsm
      rw [if_pos h0, lNd_0] at hms
      rw [hsm, if_pos rfl, hsv, hms]
      have hlt : (lN 0 < lN (m_tot S s) - lN (m_tot S (s ||| 2 ^ a))) ↔ m_tot S (s ||| 2 ^ a) < m_tot S s := by
        rw [← lNd_0 0, lNd_lt (by decide) (by decide) (by omega) (by omega)]; omega
      by_cases h1 : m_tot S (s ||| 2 ^ a) < m_tot S s
      · rw [if_pos (hlt.mpr h1), if_pos ⟨hf.1, hf.2.1, hf.2.2, h1, Or.inl h0⟩]
      · rw [if_neg (fun q => h1 (hlt.mp q)), if_neg (fun q => h1 q.2.2.2.1)]
    · rw [if_neg h0] at hsm hms
      have hbt := (hle.2 h0).2.2.2
      have hlt : (ms < sv) ↔ m_tot S (s ||| 2 ^ a) < m_tot S (s ||| 2 ^ (b - 1)) := by
        rw [hms, hsv, lNd_lt (by omega) (by omega) (by omega) (by omega)]; omega
      have heq : (sv = ms) ↔ m_tot S (s ||| 2 ^ a) = m_tot S (s ||| 2 ^ (b - 1)) := by
        rw [hms, hsv, lNd_eq (by omega) (by omega) (by omega) (by omega)]; omega
      by_cases h1 : m_tot S (s ||| 2 ^ a) < m_tot S (s ||| 2 ^ (b - 1))
      · rw [if_pos (hlt.mpr h1), if_pos ⟨hf.1, hf.2.1, hf.2.2, by omega, Or.inr (Or.inl h1)⟩]
      · rw [if_neg (fun q => h1 (hlt.mp q))]
        by_cases h2 : m_tot S (s ||| 2 ^ a) = m_tot S (s ||| 2 ^ (b - 1))
        · rw [if_pos (heq.mpr h2)] at hsm
          by_cases h3 : m_sp S (b - 1) ≤ m_sp S a
          · rw [if_pos h3] at hsm
            rw [hsm, if_pos rfl, if_neg (fun q => by have := q.2.2.2.2; omega)]
          · rw [if_neg h3] at hsm
            rw [hsm, if_neg (by decide), if_pos ⟨hf.1, hf.2.1, hf.2.2, by omega, Or.inr (Or.inr ⟨h2, by omega⟩)⟩]
        · rw [if_neg (fun q => h2 (heq.mp q))] at hsm
          rw [hsm, if_pos rfl, if_neg (fun q => by have := q.2.2.2.2; omega)]
  · rw [if_neg hf] at hsv
    refine Eq.trans ?_ (if_neg (fun q => hf ⟨q.1, q.2.1, q.2.2.1⟩)).symm
    have hms0 : ¬ ms < lN 0 ∧ (b ≠ 0 → ¬ lN 0 = ms) := by
      by_cases h0 : b = 0
      · rw [if_pos h0, lNd_0] at hms
        rw [hms]
        exact ⟨fun q => by rw [l_lt] at q; omega, fun q => absurd h0 q⟩
      · rw [if_neg h0] at hms
        have hbt := (hle.2 h0).2.2.2
        rw [hms]
        refine ⟨fun q => ?_, fun _ q => ?_⟩
        · rw [← lNd_0 0, lNd_lt (by omega) (by omega) (by decide) (by decide)] at q; omega
        · rw [← lNd_0 0, lNd_eq (by decide) (by decide) (by omega) (by omega)] at q; omega
    rw [hsv, if_neg hms0.1]
    rw [hsv] at hsm
    by_cases h0 : b = 0
    · rw [if_pos h0] at hsm; rw [hsm, if_pos rfl]
    · rw [if_neg h0, if_neg (hms0.2 h0)] at hsm; rw [hsm, if_pos rfl]
theorem ms_sv {S : St} {s a b b' sm : Nat} {sv ms ms' : Int64} (hms : ms = lN (m_tot S s) - lN (if b = 0 then m_tot S s else m_tot S (s ||| 2 ^ (b - 1)))) (hb' : b' = if 0 < lg_cmp sv ms then a + 1 else if sm = 0 then b else a + 1) (hms' : ms' = if 0 < lg_cmp sv ms then sv else if sm = 0 then ms else sv)
    (h : b' = a + 1 → sv = lN (m_tot S s) - lN (m_tot S (s ||| 2 ^ a))) (hlt : b ≤ a) : ms' = lN (m_tot S s) - lN (if b' = 0 then m_tot S s else m_tot S (s ||| 2 ^ (b' - 1))) := by
  by_cases c1 : 0 < lg_cmp sv ms
  · rw [if_pos c1] at hb' hms'
    rw [hms', h hb', hb', if_neg (Nat.succ_ne_zero a), Nat.add_sub_cancel]
  · rw [if_neg c1] at hb' hms'
    by_cases c2 : sm = 0
    · rw [if_pos c2] at hb' hms'
      rw [hms', hb', hms]
    · rw [if_neg c2] at hb' hms'
      rw [hms', h hb', hb', if_neg (Nat.succ_ne_zero a), Nat.add_sub_cancel]
theorem g_it_set {S : St} {r : Nat} : ∀ i, m_set S (g_it S r i) = true ∧ m_rs S (g_it S r i) (sn S 1) ≤ r
  | 0 => ⟨(okS_0 (S := S) r).2.1, (okS_0 (S := S) r).2.2⟩
  | i + 1 => by
    rw [g_it]
    split
    · exact g_it_set i
    · next h =>
      have := (g_nx_le S r (g_it S r i) (sn S 1)).2 h
      exact ⟨this.2.1, this.2.2.1⟩
theorem m_tot_0 (S : St) : m_tot S 0 = sq S (fun q => m_plain S q) (sn S 0) := by
  have h1 : ∀ n, m_tk S 0 n = 0 := fun n => by
    induction n with
    | zero => rfl
    | succ n ih => unfold m_tk at ih ⊢; rw [sumN, ih, Nat.zero_testBit]; rfl
  unfold m_tot
  rw [h1, Nat.add_zero, m_tq_sq]
  refine sumN_congr (fun q _ => ?_)
  have := lc_hi (S := S) (q := q) (s := 0) (a := 0) (by decide) (sn S 1)
  rw [Nat.zero_add] at this
  show wq S q * m_lc S q 0 (sn S 1) = wq S q * m_plain S q
  rw [this]; rfl
theorem m_rs_0 (S : St) : m_rs S 0 (sn S 1) = 0 := Nat.le_zero.mp (okS_0 (S := S) 0).2.2
theorem exN_lt {S : St} {r m : Nat} : ∀ n a s b, a + n ≤ m → s < 2 ^ m → b < 2 ^ m → exN S r n a s b < 2 ^ m
  | 0, a, s, b, _, hs, hb => by rw [exN, kb]; split <;> assumption
  | n + 1, a, s, b, h, hs, hb => by
    rw [exN]
    refine exN_lt n (a + 1) s _ (by omega) hs ?_
    split
    · exact exN_lt n (a + 1) _ b (by omega) (or_lt hs (by omega)) hb
    · exact hb
/-- what the recursion leaves -/
def exP (G : x_G) (lo : x_L) (co : x_C) (S : St) (r n a s b : Nat) (X : Sc) : Option Value → x_L → x_C → Prop := fun v lo1 co1 => v = none ∧ lo1 = lo ∧ ofr co co1 6 47 ∧ ∃ X1, isSc G lo co1 X1 ∧ Lok S X1 ∧ (∀ k, k ≤ a → X1.2.2 (40 + k) = X.2.2 (40 + k)) ∧ X1.1 2 = nI (exN S r n a s b) ∧ X1.2.1 = lN (m_tot S (exN S r n a s b))
def exH (l : Launch) (G : x_G) (lo : x_L) (S : St) (r n a : Nat) : Prop := ∀ (co : x_C) (X : Sc) (s b l_ : Nat), isSc G lo co X → Lok S X → Lrow S X a (fun q => m_lc S q s a) → s < 2 ^ a → X.1 2 = nI b → b < 2 ^ sn S 1 → X.2.1 = lN (m_tot S b) → l_ + m_rs S s (sn S 1) = r → x_Wr l G lo co yX7_explore cX7_explore 8 none (n + 3) 0 0 [.ref (lo 6), .int (nI a), .int (nI s), .long (lN (m_tot S s)), .int (nI l_)] (exP G lo co S r n a s b X)
theorem ex_fit {S : St} {a s r l : Nat} (hs : s < 2 ^ a) (hl : l + m_rs S s (sn S 1) = r) : (!s.testBit a && decide (m_sp S a ≤ l) && decide (d_rivs S a &&& s = 0)) = true ↔ d_rivs S a &&& s = 0 ∧ m_rs S s (sn S 1) + m_sp S a ≤ r := by
  rw [tb_lt hs (Nat.le_refl a), Bool.and_eq_true, Bool.and_eq_true, decide_eq_true_iff, decide_eq_true_iff]
  constructor
  · rintro ⟨⟨-, h2⟩, h3⟩; exact ⟨h3, by omega⟩
  · rintro ⟨h1, h2⟩; exact ⟨⟨rfl, by omega⟩, h1⟩
/-- row a holds the least costs of a set of aids below a: of all aids -/
theorem lc_na {S : St} {q s a : Nat} (hs : s < 2 ^ a) (ha : a ≤ sn S 1) : m_lc S q s a = m_lc S q s (sn S 1) := by
  have := lc_hi (S := S) (q := q) hs (sn S 1 - a)
  rw [show a + (sn S 1 - a) = sn S 1 by omega] at this
  exact this.symm
theorem sv_ex {S : St} {s a : Nat} (ha : a < sn S 1) (hs : s < 2 ^ a) : lN (svN S a (fun q => m_lc S q s a) (sn S 0)) - lN (m_kc S a) = lN (m_tot S s) - lN (m_tot S (s ||| 2 ^ a)) := by
  rw [← sv_tot ha (tb_lt hs (Nat.le_refl a))]
  have : (fun q => m_lc S q s a) = fun q => m_lc S q s (sn S 1) := funext fun q => lc_na hs (by omega)
  rw [this]
theorem ex_row {S : St} {q s a : Nat} (hs : s < 2 ^ a) : m_lc S q (s ||| 2 ^ a) (a + 1) = min (m_lc S q s a) (cst S a q) := by
  rw [lc_or, if_pos (Nat.lt_succ_self a)]
  congr 1
  rw [lc_s, tb_lt hs (Nat.le_refl a), if_neg (by decide)]
theorem ex_row0 {S : St} {q s a : Nat} (hs : s < 2 ^ a) : m_lc S q s (a + 1) = m_lc S q s a := by
  rw [lc_s, tb_lt hs (Nat.le_refl a), if_neg (by decide)]
theorem lNd_lNd (a b : Nat) : lN a - (lN a - lN b) = lN b := lN_mv (Nat.add_comm b a)
