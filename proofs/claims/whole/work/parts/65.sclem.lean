/-! the scales: pure -/
/-- what stands in for an aid's cost: PLAIN's where it doesn't help -/
def cst (S : St) (a q : Nat) : Nat := if m_helps S q a = true then m_cost S q a else m_plain S q
def wq (S : St) (q : Nat) : Nat := (qQ S q).1 1
/-- what an aid lowers, by questions' least costs e -/
def svN (S : St) (a : Nat) (e : Nat → Nat) (n : Nat) : Nat := sumN n (fun q => wq S q * (e q - cst S a q))
def sq (S : St) (e : Nat → Nat) (n : Nat) : Nat := sumN n (fun q => wq S q * e q)
theorem m_lc_pl (S : St) (q s : Nat) : ∀ n, m_lc S q s n ≤ m_plain S q
  | 0 => Nat.le_refl _
  | n + 1 => by
    have := m_lc_pl S q s n
    rw [m_lc]; split
    · exact Nat.le_trans (Nat.min_le_left _ _) this
    · exact this
theorem lc_s (S : St) (q s n : Nat) : m_lc S q s (n + 1) = if s.testBit n = true then min (m_lc S q s n) (cst S n q) else m_lc S q s n := by
  have := m_lc_pl S q s n
  rw [m_lc]
  by_cases h1 : s.testBit n = true
  · rw [if_pos h1]
    unfold cst
    by_cases h2 : m_helps S q n = true
    · rw [if_pos ⟨h1, h2⟩, if_pos h2]
    · rw [if_neg (fun z => h2 z.2), if_neg h2, Nat.min_eq_left this]
  · rw [if_neg h1, if_neg (fun z => h1 z.1)]
theorem lc_hi {S : St} {q s a : Nat} (hs : s < 2 ^ a) : ∀ d, m_lc S q s (a + d) = m_lc S q s a
  | 0 => rfl
  | d + 1 => by
    have hb : s.testBit (a + d) = false := Nat.testBit_lt_two_pow (Nat.lt_of_lt_of_le hs (Nat.pow_le_pow_right (by decide) (by omega)))
    rw [← Nat.add_assoc, lc_s, hb, if_neg (by decide), lc_hi hs d]
theorem lc_or {S : St} {q s a : Nat} : ∀ n, m_lc S q (s ||| 2 ^ a) n = if a < n then min (m_lc S q s n) (cst S a q) else m_lc S q s n
  | 0 => rfl
  | n + 1 => by
    have ih := lc_or (S := S) (q := q) (s := s) (a := a) n
    rw [lc_s, lc_s, ih]
    by_cases e : a = n
    · subst e
      have hb : (s ||| 2 ^ a).testBit a = true := by simp
      rw [if_pos hb, if_neg (Nat.lt_irrefl a), if_pos (Nat.lt_succ_self a)]
      split
      · rw [Nat.min_assoc, Nat.min_self]
      · rfl
    · have hb : (s ||| 2 ^ a).testBit n = s.testBit n := by rw [Nat.testBit_or, Nat.testBit_two_pow_of_ne e, Bool.or_false]
      rw [hb]
      by_cases h : a < n
      · rw [if_pos h, if_pos (by omega : a < n + 1)]
        split
        · rw [Nat.min_assoc, Nat.min_comm (cst S a q), ← Nat.min_assoc]
        · rfl
      · rw [if_neg h, if_neg (by omega : ¬ a < n + 1)]
theorem sumN_add {f g : Nat → Nat} : ∀ n, sumN n (fun q => f q + g q) = sumN n f + sumN n g
  | 0 => rfl
  | n + 1 => by rw [sumN, sumN, sumN, sumN_add n]; omega
theorem sq_min {S : St} {a : Nat} {e : Nat → Nat} (n : Nat) : sq S (fun q => min (e q) (cst S a q)) n + svN S a e n = sq S e n := by
  unfold sq svN
  rw [← sumN_add]
  refine sumN_congr (fun q _ => ?_)
  show wq S q * min (e q) (cst S a q) + wq S q * (e q - cst S a q) = wq S q * e q
  rw [← Nat.mul_add]
  congr 1
  omega
theorem m_tq_sq (S : St) (s n : Nat) : m_tq S s n = sq S (fun q => m_lc S q s (sn S 1)) n := rfl
theorem tk_or {S : St} {s a : Nat} (h : s.testBit a = false) : ∀ n, m_tk S (s ||| 2 ^ a) n = m_tk S s n + if a < n then m_kc S a else 0
  | 0 => rfl
  | n + 1 => by
    have ih := tk_or (S := S) h n
    unfold m_tk at ih ⊢
    rw [sumN, sumN, ih]
    by_cases e : a = n
    · subst e
      have hb : (s ||| 2 ^ a).testBit a = true := by simp
      rw [if_pos hb, if_neg (Nat.lt_irrefl a), if_pos (Nat.lt_succ_self a), h, if_neg (by decide)]
    · have hb : (s ||| 2 ^ a).testBit n = s.testBit n := by rw [Nat.testBit_or, Nat.testBit_two_pow_of_ne e, Bool.or_false]
      rw [hb]
      by_cases hlt : a < n
      · rw [if_pos hlt, if_pos (by omega : a < n + 1)]; omega
      · rw [if_neg hlt, if_neg (by omega : ¬ a < n + 1)]; omega
theorem rs_or {S : St} {s a : Nat} (h : s.testBit a = false) : ∀ n, m_rs S (s ||| 2 ^ a) n = m_rs S s n + if a < n then m_sp S a else 0
  | 0 => rfl
  | n + 1 => by
    have ih := rs_or (S := S) h n
    unfold m_rs at ih ⊢
    rw [sumN, sumN, ih]
    by_cases e : a = n
    · subst e
      have hb : (s ||| 2 ^ a).testBit a = true := by simp
      rw [if_pos hb, if_neg (Nat.lt_irrefl a), if_pos (Nat.lt_succ_self a), h, if_neg (by decide)]
    · have hb : (s ||| 2 ^ a).testBit n = s.testBit n := by rw [Nat.testBit_or, Nat.testBit_two_pow_of_ne e, Bool.or_false]
      rw [hb]
      by_cases hlt : a < n
      · rw [if_pos hlt, if_pos (by omega : a < n + 1)]; omega
      · rw [if_neg hlt, if_neg (by omega : ¬ a < n + 1)]; omega
/-- what an aid saves -/
theorem tot_or {S : St} {s a : Nat} (ha : a < sn S 1) (h : s.testBit a = false) : m_tot S (s ||| 2 ^ a) + svN S a (fun q => m_lc S q s (sn S 1)) (sn S 0) = m_tot S s + m_kc S a := by
  unfold m_tot
  rw [tk_or h, if_pos ha, m_tq_sq, m_tq_sq]
  have := sq_min (S := S) (a := a) (e := fun q => m_lc S q s (sn S 1)) (sn S 0)
  have e : sq S (fun q => m_lc S q (s ||| 2 ^ a) (sn S 1)) (sn S 0) = sq S (fun q => min (m_lc S q s (sn S 1)) (cst S a q)) (sn S 0) := sumN_congr (fun q _ => by show wq S q * m_lc S q (s ||| 2 ^ a) (sn S 1) = _; rw [lc_or, if_pos ha])
  rw [e]
  omega
theorem cst_le {S : St} {a q : Nat} (hS : Sok S) (hq : q < sn S 0) (ha : a < sn S 1) : cst S a q ≤ 121 := by
  unfold cst
  split
  · next h =>
    obtain ⟨s1, s2, s3, s4, s5, s6⟩ := id hS
    obtain ⟨u1, u2, hA⟩ := s6 a ha
    obtain ⟨v1, v2, hQ⟩ := s5 q hq
    rw [← m_helps_same h] at hQ
    exact a_cost_le ((s1 _ u1).1 u2) hQ hA
  · have := m_plain_le hS hq; omega
theorem wq_le {S : St} {q : Nat} (hS : Sok S) (hq : q < sn S 0) : wq S q ≤ 100 := (hS.2.2.2.2.1 q hq).2.2.2.2.1
theorem svN_le {S : St} {a n : Nat} {e : Nat → Nat} (hS : Sok S) (hn : n ≤ sn S 0) (he : ∀ q, q < sn S 0 → e q ≤ 60) : svN S a e n ≤ 144000 := by
  have h := sumN_le (n := n) (g := fun q => wq S q * (e q - cst S a q)) (b := 6000) (fun q hq => by
    have h1 := wq_le hS (q := q) (by omega)
    have h2 := he q (by omega)
    exact Nat.mul_le_mul h1 (by omega : e q - cst S a q ≤ 60))
  exact Nat.le_trans h (by have := hS.2.1; exact Nat.mul_le_mul_right 6000 (Nat.le_trans hn this))
theorem sq_le {S : St} {n : Nat} {e : Nat → Nat} (hS : Sok S) (hn : n ≤ sn S 0) (he : ∀ q, q < sn S 0 → e q ≤ 60) : sq S e n ≤ 144000 := by
  have h := sumN_le (n := n) (g := fun q => wq S q * e q) (b := 6000) (fun q hq => by
    have h1 := wq_le hS (q := q) (by omega)
    have h2 := he q (by omega)
    exact Nat.mul_le_mul h1 h2)
  exact Nat.le_trans h (by have := hS.2.1; exact Nat.mul_le_mul_right 6000 (Nat.le_trans hn this))
/-- what 'load' leaves -/
def Lok (S : St) (X : Sc) : Prop := X.1 0 = nI (sn S 0) ∧ X.1 1 = nI (sn S 1) ∧ (∀ q, q < sn S 0 → X.2.2 0 q = nI (wq S q)) ∧ ∀ a, a < sn S 1 → X.2.2 1 a = nI (m_sp S a) ∧ X.2.2 2 a = nI (m_kc S a) ∧ X.2.2 3 a = nI (d_rivs S a) ∧ ∀ q, q < sn S 0 → X.2.2 (20 + a) q = nI (cst S a q)
/-- row k of the least costs -/
def Lrow (S : St) (X : Sc) (k : Nat) (e : Nat → Nat) : Prop := ∀ q, q < sn S 0 → X.2.2 (40 + k) q = nI (e q)
/-- a row overwritten in its first n places -/
def ovr (n : Nat) (e : Nat → Nat) (f : Nat → Int32) : Nat → Int32 := fun q => if q < n then nI (e q) else f q
theorem ovr_0 (e : Nat → Nat) (f : Nat → Int32) : ovr 0 e f = f := funext fun q => if_neg (Nat.not_lt_zero q)
theorem ovr_s {n : Nat} {e : Nat → Nat} {f : Nat → Int32} {v : Nat} (h : v = e n) : upd (ovr n e f) n (nI v) = ovr (n + 1) e f := by
  subst h
  refine upd_eq (fun j => ?_)
  unfold ovr
  by_cases q : j = n
  · rw [if_pos q, if_pos (by omega), q]
  · rw [if_neg q]
    by_cases w : j < n
    · rw [if_pos w, if_pos (by omega)]
    · rw [if_neg w, if_neg (by omega)]
/-- X with row i changed -/
def sX (X : Sc) (i : Nat) (f : Nat → Int32) : Sc := (X.1, X.2.1, va_up X.2.2 i f)
theorem sX_ne {X : Sc} {i j : Nat} {f : Nat → Int32} (h : j ≠ i) : (sX X i f).2.2 j = X.2.2 j := va_up_ne _ _ h
theorem sX_at {X : Sc} {i : Nat} {f : Nat → Int32} : (sX X i f).2.2 i = f := va_up_self _ _ _
theorem sX_sX (X : Sc) (i : Nat) (f g : Nat → Int32) : sX (sX X i f) i g = sX X i g := by unfold sX; rw [va_up_up]
theorem sX_id (X : Sc) (i : Nat) : sX X i (X.2.2 i) = X := by unfold sX; rw [va_up_id]
theorem Lok.row {S : St} {X : Sc} {k : Nat} {f : Nat → Int32} (hS : Sok S) (h : Lok S X) : Lok S (sX X (40 + k) f) := by
  obtain ⟨h0, h1, h2, h3⟩ := h
  have := hS.2.2.1
  refine ⟨h0, h1, fun q hq => by rw [sX_ne (by omega)]; exact h2 q hq, fun a ha => ?_⟩
  obtain ⟨g1, g2, g3, g4⟩ := h3 a ha
  exact ⟨by rw [sX_ne (by omega)]; exact g1, by rw [sX_ne (by omega)]; exact g2, by rw [sX_ne (by omega)]; exact g3, fun q hq => by rw [sX_ne (by omega)]; exact g4 q hq⟩
theorem lN_neg {k : Nat} (h : k < 2 ^ 31) : (-(nI k)).toInt64 = lN 0 - lN k := by
  apply Int64.toInt_inj.mp
  rw [lNd_toInt (by decide) h, Int32.toInt_toInt64, Int32.toInt_neg, nI_toInt h]
  rw [Int.bmod_eq_of_le (by omega) (by omega)]
  omega
theorem lN_acc (x k w d : Nat) : lN x - lN k + lN w * lN d = lN (x + w * d) - lN k := by
  rw [lN_mul, ← lN_add]
  rw [Int64.sub_eq_add_neg, Int64.sub_eq_add_neg, Int64.add_assoc, Int64.add_assoc, Int64.add_comm (-lN k)]
section XW14
variable {p : Program} {l : Launch} {e : Env} {R : Room} {s : State} {m : MethodId} {args : Array Value} {below : List Frame} {meth : Method} {c : Code} {H : Heap} {locs : List Loc} {cells slots : Nat} {Q : State → Prop}
variable {cc : ByteArray} {pc : Nat} {ls : Array Slot} {rest : List Value} {G : x_G} {lo : x_L} {co : x_C} {nL : Nat} {own : String} {A : Nat → Prop} {H0 : Heap}
theorem x_mmaxD {index a b : Nat} (cx : CallFix p m c cc nL s args x_gw own) (hl : ls.size = nL) (hlink : Cond.methodLink own index Lib.Math.max.name ∈ x_gw) (h : a < 2 ^ 30 ∧ b < 2 ^ 30) (hs : Cond.static Lib.Math.max.name ∈ x_gw) (hi : Cond.initialized "java/lang/Math" ∈ x_gw) (hc : Cond.code Lib.Math.max.name Lib.Math.max.code 2 (some .int) ∈ x_gw)
    (hR : 1 ≤ R.frames ∧ (rest.map fun v => v.category).sum + 13 ≤ R.locals) (hf : cells ≤ R.cells ∧ slots ≤ R.slots) (hdg : decode cc pc = .ok (.invokestatic index, 3))
    (kk : W p l e R s m args below meth c H locs cells slots Q (F0 m (pc + 3) ls (.int (nI (a - b)) :: rest))) : W p l e R s m args below meth c H locs cells slots Q (F0 m pc ls (.int (nI a - nI b) :: .int (nI 0) :: rest)) := by
  refine va_mmax cx.1 cx.2.1 (cx.2.2.1.trans hl.symm) cx.2.2.2.1 (cx.2.2.2.2 _ hlink) (cx.2.2.2.2 _ hs) (cx.2.2.2.2 _ hi) (cx.2.2.2.2 _ hc) hR.1 hR.2 hf.1 hf.2 hdg ?_
  rw [show (if nI 0 < nI a - nI b then nI a - nI b else nI 0) = nI (a - b) from by
    have ht := pk_sub_toInt h.1 h.2
    by_cases q : b < a
    · rw [if_pos (by rw [fa_lt, ht, nI_toInt (by decide)]; omega), pk_sub (by omega)]
    · rw [if_neg (by rw [fa_lt, ht, nI_toInt (by decide)]; omega), show a - b = 0 by omega]]
  exact kk
end XW14
/-- what a set costs, by the aids below a -/
def wt (S : St) (s a : Nat) : Nat := sq S (fun q => m_lc S q s a) (sn S 0) + m_tk S s a
theorem wt_e (S : St) (s : Nat) : wt S s (sn S 1) = m_tot S s := rfl
theorem wt_0 (S : St) (s : Nat) : wt S s 0 = sq S (fun q => m_plain S q) (sn S 0) := rfl
theorem wt_s {S : St} {s a : Nat} (h : s.testBit a = true) : wt S s (a + 1) + svN S a (fun q => m_lc S q s a) (sn S 0) = wt S s a + m_kc S a := by
  unfold wt
  have h1 := sq_min (S := S) (a := a) (e := fun q => m_lc S q s a) (sn S 0)
  have h2 : sq S (fun q => m_lc S q s (a + 1)) (sn S 0) = sq S (fun q => min (m_lc S q s a) (cst S a q)) (sn S 0) := sumN_congr (fun q _ => by show wq S q * m_lc S q s (a + 1) = _; rw [lc_s, if_pos h])
  have h3 : m_tk S s (a + 1) = m_tk S s a + m_kc S a := by unfold m_tk; rw [sumN, if_pos h]
  omega
theorem wt_n {S : St} {s a : Nat} (h : s.testBit a = false) : wt S s (a + 1) = wt S s a := by
  unfold wt
  have h2 : sq S (fun q => m_lc S q s (a + 1)) (sn S 0) = sq S (fun q => m_lc S q s a) (sn S 0) := sumN_congr (fun q _ => by show wq S q * m_lc S q s (a + 1) = _; rw [lc_s, if_neg (by rw [h]; decide)])
  have h3 : m_tk S s (a + 1) = m_tk S s a := by unfold m_tk; rw [sumN, if_neg (by rw [h]; decide)]; rfl
  omega
theorem lN_mv {w w' x k : Nat} (h : w' + x = w + k) : lN w - (lN x - lN k) = lN w' := by
  have e : lN w' + lN x = lN w + lN k := by rw [lN_add, lN_add, h]
  have : lN w' = lN w + lN k - lN x := by rw [← e, Int64.add_sub_cancel]
  rw [this]
  simp only [Int64.sub_eq_add_neg, Int64.neg_add, Int64.neg_neg]
  rw [Int64.add_assoc, Int64.add_comm (-lN x)]
theorem lN_sub0 (w : Nat) : lN w - lN 0 = lN w := Int64.sub_zero _
theorem wt_le {S : St} (hS : Sok S) (s a : Nat) (ha : a ≤ sn S 1) : wt S s a ≤ 192000 := by
  have h1 := sq_le (n := sn S 0) (e := fun q => m_lc S q s a) hS (Nat.le_refl _) (fun q hq => m_lc_le hS hq a)
  have h2 := m_tk_le (s := s) hS ha
  unfold wt; omega
theorem Lok.X {S : St} {X X1 : Sc} (h : Lok S X) (e2 : X1.2.2 = X.2.2) (e0 : X1.1 0 = X.1 0) (e1 : X1.1 1 = X.1 1) : Lok S X1 := by
  unfold Lok; rw [e2, e0, e1]; exact h
