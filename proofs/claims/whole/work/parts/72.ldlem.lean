/-! the scales are loaded: step by step -/
theorem sc6 {G : x_G} {lo : x_L} {co : x_C} {X : Sc} {a b : Nat} (h : isSc G lo co X) (h0 : X.1 0 = nI a) (h1 : X.1 1 = nI b) : co 6 = some (.inr (6, [.int (nI a), .int (nI b), .ref (lo 7), .ref (lo 8), .ref (lo 9), .ref (lo 10), .ref (lo 11), .ref (lo 12), .int (X.1 2), .long X.2.1])) := by
  rw [← h0, ← h1]; exact h.1
def L1 (S : St) (X : Sc) (k : Nat) : Prop := X.1 0 = nI (sn S 0) ∧ X.1 1 = nI (sn S 1) ∧ ∀ q, q < k → X.2.2 0 q = nI (wq S q) ∧ X.2.2 (40 + 0) q = nI (m_plain S q)
def L2a (S : St) (X : Sc) (a : Nat) : Prop := X.2.2 1 a = nI (m_sp S a) ∧ X.2.2 2 a = nI (m_kc S a) ∧ X.2.2 3 a = nI (d_rivs S a) ∧ ∀ q, q < sn S 0 → X.2.2 (20 + a) q = nI (cst S a q)
def L2 (S : St) (X : Sc) (k : Nat) : Prop := L1 S X (sn S 0) ∧ ∀ a, a < k → L2a S X a
def L3 (S : St) (X : Sc) (a k : Nat) : Prop := L2 S X a ∧ X.2.2 1 a = nI (m_sp S a) ∧ X.2.2 2 a = nI (m_kc S a) ∧ X.2.2 3 a = nI (d_rivs S a) ∧ ∀ q, q < k → X.2.2 (20 + a) q = nI (cst S a q)
theorem upd_at {f : Nat → Int32} {k : Nat} {x : Int32} : upd f k x k = x := if_pos rfl
theorem upd_ne {f : Nat → Int32} {k j : Nat} {x : Int32} (h : j ≠ k) : upd f k x j = f j := if_neg h
theorem L1_s {S : St} {X : Sc} {k : Nat} (h : L1 S X k) : L1 S (sX (sX X 0 (upd (X.2.2 0) k (nI (wq S k)))) (40 + 0) (upd ((sX X 0 (upd (X.2.2 0) k (nI (wq S k)))).2.2 (40 + 0)) k (nI (m_plain S k)))) (k + 1) := by
  refine ⟨h.1, h.2.1, fun q hq => ?_⟩
  rw [sX_ne (show 0 ≠ 40 + 0 by decide), sX_at, sX_at, sX_ne (show 40 + 0 ≠ 0 by decide)]
  by_cases e : q = k
  · subst e; rw [upd_at, upd_at]; exact ⟨rfl, rfl⟩
  · rw [upd_ne e, upd_ne e]; exact h.2.2 q (by omega)
theorem L2_0 {S : St} {X : Sc} {k : Nat} (h : L1 S X k) (hk : k = sn S 0) : L2 S X 0 := ⟨hk ▸ h, fun a ha => absurd ha (Nat.not_lt_zero a)⟩
theorem L3_0 {S : St} {X : Sc} {a : Nat} (h : L2 S X a) (h12 : a < 12) : L3 S (sX (sX (sX X 1 (upd (X.2.2 1) a (nI (m_sp S a)))) 2 (upd ((sX X 1 (upd (X.2.2 1) a (nI (m_sp S a)))).2.2 2) a (nI (m_kc S a)))) 3 (upd ((sX (sX X 1 (upd (X.2.2 1) a (nI (m_sp S a)))) 2 (upd ((sX X 1 (upd (X.2.2 1) a (nI (m_sp S a)))).2.2 2) a (nI (m_kc S a)))).2.2 3) a (nI (d_rivs S a)))) a 0 := by
  refine ⟨⟨⟨h.1.1, h.1.2.1, fun q hq => h.1.2.2 q hq⟩, fun b hb => ?_⟩, ?_, ?_, ?_, fun q hq => absurd hq (Nat.not_lt_zero q)⟩
  · obtain ⟨g1, g2, g3, g4⟩ := h.2 b hb
    refine ⟨?_, ?_, ?_, fun q hq => ?_⟩
    · rw [sX_ne (by decide), sX_ne (by decide), sX_at, upd_ne (by omega)]; exact g1
    · rw [sX_ne (by decide), sX_at, upd_ne (by omega), sX_ne (by decide)]; exact g2
    · rw [sX_at, upd_ne (by omega), sX_ne (by decide), sX_ne (by decide)]; exact g3
    · rw [sX_ne (by omega), sX_ne (by omega), sX_ne (by omega)]; exact g4 q hq
  · rw [sX_ne (by decide), sX_ne (by decide), sX_at, upd_at]
  · rw [sX_ne (by decide), sX_at, upd_at]
  · rw [sX_at, upd_at]
theorem L3_s {S : St} {X : Sc} {a k : Nat} (h : L3 S X a k) (h12 : a < 12) : L3 S (sX X (20 + a) (upd (X.2.2 (20 + a)) k (nI (cst S a k)))) a (k + 1) := by
  obtain ⟨⟨h1, h2⟩, g1, g2, g3, g4⟩ := h
  refine ⟨⟨⟨h1.1, h1.2.1, fun q hq => ?_⟩, fun b hb => ?_⟩, ?_, ?_, ?_, fun q hq => ?_⟩
  · rw [sX_ne (by omega), sX_ne (by omega)]; exact h1.2.2 q hq
  · obtain ⟨e1, e2, e3, e4⟩ := h2 b hb
    exact ⟨by rw [sX_ne (by omega)]; exact e1, by rw [sX_ne (by omega)]; exact e2, by rw [sX_ne (by omega)]; exact e3, fun q hq => by rw [sX_ne (by omega)]; exact e4 q hq⟩
  · rw [sX_ne (by omega)]; exact g1
  · rw [sX_ne (by omega)]; exact g2
  · rw [sX_ne (by omega)]; exact g3
  · rw [sX_at]
    by_cases e : q = k
    · subst e; rw [upd_at]
    · rw [upd_ne e]; exact g4 q (by omega)
theorem L2_s {S : St} {X : Sc} {a k : Nat} (h : L3 S X a k) (hk : k = sn S 0) : L2 S X (a + 1) := by
  subst hk
  refine ⟨h.1.1, fun b hb => ?_⟩
  rcases Nat.lt_succ_iff_lt_or_eq.mp hb with e | e
  · exact h.1.2 b e
  · subst e; exact h.2
theorem L2_e {S : St} {X : Sc} {a : Nat} (h : L2 S X a) (ha : a = sn S 1) : Lok S X ∧ Lrow S X 0 (fun q => m_plain S q) := by
  subst ha
  exact ⟨⟨h.1.1, h.1.2.1, fun q hq => (h.1.2.2 q hq).1, h.2⟩, fun q hq => (h.1.2.2 q hq).2⟩
