/-! what every call keeps -/
def Inv (S : St) : Prop := Sok S ∧ Szz S ∧ (∀ t, t < 4 → Tz4 (sT S t)) ∧ m_set S (sn S 2) = true ∧ ∀ t, t < 4 → 0 < (sT S t).1 1 → (sT S t).1 0 = t
theorem inv_0 : Inv S0 := by
  refine ⟨⟨fun t ht => ⟨fun h => absurd h (Nat.lt_irrefl 0), fun _ => rfl⟩, by decide, by decide, by decide, fun q h => absurd h (Nat.not_lt_zero q), fun q h => absurd h (Nat.not_lt_zero q)⟩, ⟨fun t ht _ => ⟨fun i hi => rfl, fun i j => rfl⟩, fun q _ => ⟨rfl, fun i j => rfl⟩, fun a _ => ⟨rfl, rfl⟩⟩, fun t ht j hj => rfl, rfl, fun t ht h => absurd h (Nat.lt_irrefl 0)⟩
theorem qok_c {T T' : Tb} {Q : Qn} (e : T'.1 1 = T.1 1) (h : Qok T Q) : Qok T' Q := by unfold Qok at h ⊢; rw [e]; exact h
theorem aok_c {T T' : Tb} {A : Ad} (e : T'.1 1 = T.1 1) (h : Aok T A) : Aok T' A := by unfold Aok at h ⊢; rw [e]; exact h
theorem inv_T {S : St} {t : Nat} {T : Tb} (h : Inv S) (hc : 0 < T.1 1) (hT : Tok T) (hz : Tz4 T) (hcol : T.1 1 = (sT S t).1 1 ∨ (sT S t).1 1 = 0) (hn : T.1 0 = t) : Inv (setT S t T) := by
  obtain ⟨⟨s1, s2, s3, s4, s5, s6⟩, ⟨z1, z2, z3⟩, h4, hm, hnum⟩ := h
  have key : ∀ u, 0 < (sT S u).1 1 → (sT (setT S t T) u).1 1 = (sT S u).1 1 := fun u hu => by
    rw [sT_set]
    by_cases e : u = t
    · rw [if_pos e]
      subst e
      rcases hcol with q | q
      · exact q
      · omega
    · rw [if_neg e]
  refine ⟨⟨fun u hu => ?_, s2, s3, s4, fun q hq => ?_, fun a ha => ?_⟩, ⟨fun u hu hu2 => ?_, z2, z3⟩, fun u hu => ?_, hm, fun u hu hu2 => ?_⟩
  · rw [sT_set]
    by_cases e : u = t
    · rw [if_pos e]; exact ⟨fun _ => hT, fun q => by omega⟩
    · rw [if_neg e]; exact s1 u hu
  · obtain ⟨a1, a2, a3⟩ := s5 q hq
    have k := key _ a2
    exact ⟨a1, by show 0 < (sT (setT S t T) (qt S q)).1 1; rw [k]; exact a2, qok_c k a3⟩
  · obtain ⟨a1, a2, a3⟩ := s6 a ha
    have k := key _ a2
    exact ⟨a1, by show 0 < (sT (setT S t T) (ao S a)).1 1; rw [k]; exact a2, aok_c k a3⟩
  · rw [sT_set] at hu2 ⊢
    by_cases e : u = t
    · rw [if_pos e] at hu2; omega
    · rw [if_neg e] at hu2 ⊢; exact z1 u hu hu2
  · rw [sT_set]
    by_cases e : u = t
    · rw [if_pos e]; exact hz
    · rw [if_neg e]; exact h4 u hu
  · rw [sT_set] at hu2 ⊢
    by_cases e : u = t
    · rw [if_pos e, hn, e]
    · rw [if_neg e] at hu2 ⊢; exact hnum u hu hu2
theorem inv_tab {S : St} {t : Int32} (h : Inv S) (ht : m_isT S t = true) : ∃ k, k < 4 ∧ t.toNatClampNeg = k ∧ 0 < (sT S k).1 1 ∧ Tok (sT S k) ∧ Tz4 (sT S k) ∧ (sT S k).1 0 = k := by
  obtain ⟨k, h1, h2, h3⟩ := m_isT_ex ht
  exact ⟨k, h1, by rw [h3, nI_clamp (by omega)], h2, (h.1.1 k h1).1 h2, h.2.2.1 k h1, h.2.2.2.2 k h1 h2⟩
theorem inv_table {S : St} (h : Inv S) (t c p : Int32) : Inv (P_table S t c p).2 := by
  unfold P_table
  split
  case isFalse => exact h
  case isTrue hq =>
    rw [Bool.and_eq_true, Bool.and_eq_true, Bool.and_eq_true] at hq
    obtain ⟨⟨⟨h1, h2⟩, h3⟩, h4⟩ := hq
    obtain ⟨k, hk, hke⟩ := x_in_ex (n := 4) (by decide) h1
    obtain ⟨c1, hc1b, hc1a, hc1e⟩ := nI_tc (x := c) (a := 1) (b := 4) (by decide) (by decide) h3
    obtain ⟨p1, hp1b, hp1a, hp1e⟩ := nI_tc (x := p) (a := 2) (b := 8) (by decide) (by decide) h4
    have e : t.toNatClampNeg = k := by rw [hke, nI_clamp (by omega)]
    rw [e] at h2 ⊢
    rw [hc1e, hp1e, nI_clamp (show c1 < 2 ^ 31 by omega), nI_clamp (show p1 < 2 ^ 31 by omega)]
    refine inv_T h hc1a ⟨hc1a, hc1b, hp1a, hp1b, Nat.zero_le _, Nat.zero_le _, Nat.zero_le _, fun r c _ _ => Nat.zero_le _, fun c _ => ⟨Nat.zero_le _, fun q => absurd q (Nat.lt_irrefl 0), Nat.zero_le _, Nat.zero_le _⟩, hk⟩ (fun j _ => rfl) (Or.inr (of_decide_eq_true h2)) rfl
theorem inv_changes {S : St} (h : Inv S) (t n : Int32) : Inv (P_changes S t n).2 := by
  unfold P_changes
  split
  case isFalse => exact h
  case isTrue hq =>
    rw [Bool.and_eq_true] at hq
    obtain ⟨k, hk, e, h1, h2, h3, h4⟩ := inv_tab h hq.1
    obtain ⟨n1, hn1b, hn1a, hn1e⟩ := nI_tc (x := n) (a := 0) (b := 1000) (by decide) (by decide) hq.2
    rw [e, hn1e, nI_clamp (show n1 < 2 ^ 31 by omega)]
    obtain ⟨m1, m2, m3, m4, m5, m6, m7, m8, m9, m10⟩ := h2
    exact inv_T h h1 ⟨m1, m2, m3, m4, m5, hn1b, m7, m8, m9, m10⟩ h3 (Or.inl rfl) h4
theorem tok_put {T : Tb} {a b c d : Int32} (h : Tok T) (h2 : T.1 3 ≠ 60) (hv : s_vals T a b c d = true) : Tok (putT T a b c d) := by
  obtain ⟨m1, m2, m3, m4, m5, m6, m7, m8, m9, m10⟩ := h
  refine ⟨m1, m2, m3, m4, ?_, m6, m7, fun r k hr hk => ?_, m9, m10⟩
  · show T.1 3 + 1 ≤ 60
    omega
  · have hr : r < T.1 3 + 1 := hr
    have hk : k < T.1 1 := hk
    show (if T.1 3 * 4 ≤ r * 4 + k ∧ r * 4 + k < T.1 3 * 4 + T.1 1 then (s_arg a b c d (r * 4 + k - T.1 3 * 4)).toNatClampNeg else T.2 0 (r * 4 + k)) ≤ 999
    split
    case isTrue q =>
      have hx := allN_lt.mp hv (r * 4 + k - T.1 3 * 4) (by omega)
      obtain ⟨x, hx1, -, hx2⟩ := nI_tc (a := 0) (b := 999) (by decide) (by decide) hx
      rw [hx2, nI_clamp (by omega)]
      exact hx1
    case isFalse q => exact m8 r k (by omega) hk
theorem tz4_put {T : Tb} {a b c d : Int32} (h : Tz4 T) (hc : T.1 1 ≤ 4) : Tz4 (putT T a b c d) := by
  intro j hj
  have hj : T.1 1 ≤ j % 4 := hj
  show (if T.1 3 * 4 ≤ j ∧ j < T.1 3 * 4 + T.1 1 then (s_arg a b c d (j - T.1 3 * 4)).toNatClampNeg else T.2 0 j) = 0
  rw [if_neg (by omega)]
  exact h j hj
theorem inv_put {S : St} (h : Inv S) (t a b c d : Int32) : Inv (P_put S t a b c d).2 := by
  unfold P_put
  split
  case isFalse => exact h
  case isTrue hq =>
    obtain ⟨k, hk, e, h1, h2, h3, h4⟩ := inv_tab h hq.1
    rw [e] at hq ⊢
    exact inv_T h h1 (tok_put h2 hq.2.1 hq.2.2) (tz4_put h3 h2.2.1) (Or.inl rfl) h4
theorem tok_str {T : Tb} {r : Nat} (h : Tok T) : Tok (strT T r) := by
  obtain ⟨m1, m2, m3, m4, m5, m6, m7, m8, m9, m10⟩ := h
  refine ⟨m1, m2, m3, m4, ?_, m6, m7, fun q k hq hk => ?_, m9, m10⟩
  · show T.1 3 - 1 ≤ 60
    omega
  · have hq : q < T.1 3 - 1 := hq
    have hk : k < T.1 1 := hk
    show (if 4 * r ≤ q * 4 + k ∧ q * 4 + k < 4 * (T.1 3 - 1) then T.2 0 (q * 4 + k + 4) else T.2 0 (q * 4 + k)) ≤ 999
    split
    · have := m8 (q + 1) k (by omega) hk
      rw [show (q + 1) * 4 + k = q * 4 + k + 4 by omega] at this
      exact this
    · exact m8 q k (by omega) hk
theorem tz4_str {T : Tb} {r : Nat} (h : Tz4 T) : Tz4 (strT T r) := by
  intro j hj
  have hj : T.1 1 ≤ j % 4 := hj
  show (if 4 * r ≤ j ∧ j < 4 * (T.1 3 - 1) then T.2 0 (j + 4) else T.2 0 j) = 0
  split
  · exact h (j + 4) (by omega)
  · exact h j hj
theorem inv_strike {S : St} (h : Inv S) (t r : Int32) : Inv (P_strike S t r).2 := by
  unfold P_strike
  split
  case isFalse => exact h
  case isTrue hq =>
    obtain ⟨k, hk, e, h1, h2, h3, h4⟩ := inv_tab h hq.1
    rw [e]
    exact inv_T h h1 (tok_str h2) (tz4_str h3) (Or.inl rfl) h4
theorem inv_recount {S : St} (h : Inv S) (t : Int32) : Inv (P_recount S t).2 := by
  unfold P_recount
  split
  case isFalse => exact h
  case isTrue hq =>
    obtain ⟨k, hk, e, h1, h2, h3, h4⟩ := inv_tab h hq
    rw [e]
    refine inv_T h h1 (Tok_rec h2) (fun j hj => ?_) (Or.inl rfl) h4
    show (if j < (sT S k).1 1 then (if 0 = 1 then _ else if 0 = 2 then _ else if 0 = 3 then _ else (sT S k).2 0 j) else (sT S k).2 0 j) = 0
    by_cases q : j < (sT S k).1 1
    · rw [if_pos q]
      exact h3 j hj
    · rw [if_neg q]
      exact h3 j hj
theorem inv_addQ {S : St} {e : Nat × Qn} (h : Inv S) (h0 : sn S 0 ≠ 24) (he : e.1 < 4) (h1 : 0 < (sT S e.1).1 1) (hq : Qok (sT S e.1) e.2) : Inv (addQ S e) := by
  obtain ⟨⟨s1, s2, s3, s4, s5, s6⟩, ⟨z1, z2, z3⟩, h4, hm, hnum⟩ := h
  have qe : ∀ q, (addQ S e).2.1 q = if q = sn S 0 then e else S.2.1 q := fun q => rfl
  refine ⟨⟨s1, ?_, s3, s4, fun q hq2 => ?_, s6⟩, ⟨z1, fun q hq2 => ?_, z3⟩, h4, hm, hnum⟩
  · show sn S 0 + 1 ≤ 24
    omega
  · have hq2 : q < sn S 0 + 1 := hq2
    show ((addQ S e).2.1 q).1 < 4 ∧ 0 < (sT S ((addQ S e).2.1 q).1).1 1 ∧ Qok (sT S ((addQ S e).2.1 q).1) ((addQ S e).2.1 q).2
    rw [qe]
    by_cases c : q = sn S 0
    · rw [if_pos c]; exact ⟨he, h1, hq⟩
    · rw [if_neg c]; exact s5 q (by omega)
  · have hq2 : sn S 0 + 1 ≤ q := hq2
    show (((addQ S e).2.1 q).2).1 2 = 0 ∧ ∀ i j, (((addQ S e).2.1 q).2).2 i j = 0
    rw [qe, if_neg (by omega)]
    exact z2 q (by omega)
theorem inv_question {S : St} (h : Inv S) (t w a n : Int32) : Inv (P_question S t w a n).2 := by
  unfold P_question
  split
  case isFalse => exact h
  case isTrue hq =>
    obtain ⟨q1, q2, q3, q4, q5⟩ := hq
    obtain ⟨k, hk, e, h1, h2, h3, h4⟩ := inv_tab h q2
    rw [e] at q3 q4 ⊢
    have h16 : 2 ^ (sT S k).1 1 ≤ 2 ^ 4 := Nat.pow_le_pow_right (by decide) h2.2.1
    obtain ⟨w1, hw1, hw1e⟩ := x_in_ex (n := 2 ^ (sT S k).1 1) (by omega) q3
    obtain ⟨n1, hn1b, hn1a, hn1e⟩ := nI_tc (x := n) (a := 1) (b := 100) (by decide) (by decide) q5
    rw [hw1e, hn1e, nI_clamp (show w1 < 2 ^ 31 by omega), nI_clamp (show n1 < 2 ^ 31 by omega)]
    exact inv_addQ h q1 hk h1 ⟨hw1, hn1a, hn1b, Nat.two_pow_pos _, (cO_hon h2.2.1 q4).2, fun c _ => ⟨Nat.zero_le _, Nat.zero_le _, Nat.zero_le _⟩⟩
theorem inv_test {S : St} (h : Inv S) (q c f t : Int32) : Inv (P_test S q c f t).2 := by
  unfold P_test
  split
  case isFalse => exact h
  case isTrue hq =>
    obtain ⟨q1, q2, q3⟩ := hq
    have s2 := h.1.2.1
    obtain ⟨k, hk, hke⟩ := x_in_ex (n := sn S 0) (by omega) q1
    have e : q.toNatClampNeg = k := by rw [hke, nI_clamp (by omega)]
    rw [e] at q2 ⊢
    obtain ⟨⟨s1, -, s3, s4, s5, s6⟩, ⟨z1, z2, z3⟩, h4, hm, hnum⟩ := h
    obtain ⟨a1, a2, a3⟩ := s5 k hk
    have hT := (s1 _ a1).1 a2
    obtain ⟨c1, hc1, hc1e⟩ := t_has_ex hT.2.1 q2
    have hrg := q3
    rw [rng_eq, Bool.and_eq_true] at hrg
    obtain ⟨f1, hf1b, -, hf1e⟩ := nI_tc (x := f) (a := 0) (b := 999) (by decide) (by decide) hrg.1
    obtain ⟨t1, ht1b, ht1a, ht1e⟩ := nI_tc (x := t) (a := f1) (b := 999) (by omega) (by decide) (by rw [← hf1e]; exact hrg.2)
    have hc4 := hT.2.1
    rw [hc1e, hf1e, ht1e, nI_clamp (show c1 < 2 ^ 31 by omega), nI_clamp (show f1 < 2 ^ 31 by omega), nI_clamp (show t1 < 2 ^ 31 by omega)]
    have qe : ∀ x, (setQ S k (tstQ (qQ S k) c1 f1 t1)).2.1 x = if x = k then (qt S k, tstQ (qQ S k) c1 f1 t1) else S.2.1 x := fun x => rfl
    refine ⟨⟨s1, s2, s3, s4, fun x hx => ?_, s6⟩, ⟨z1, fun x hx => ?_, z3⟩, h4, hm, hnum⟩
    · show ((setQ S k (tstQ (qQ S k) c1 f1 t1)).2.1 x).1 < 4 ∧ 0 < (sT S ((setQ S k (tstQ (qQ S k) c1 f1 t1)).2.1 x).1).1 1 ∧ Qok (sT S ((setQ S k (tstQ (qQ S k) c1 f1 t1)).2.1 x).1) ((setQ S k (tstQ (qQ S k) c1 f1 t1)).2.1 x).2
      rw [qe]
      by_cases g : x = k
      · rw [if_pos g]
        refine ⟨a1, a2, ?_⟩
        obtain ⟨b1, b2, b3, b4, b5, b6⟩ := a3
        refine ⟨b1, b2, b3, ?_, b5, fun y hy => ?_⟩
        · show (qQ S k).1 2 ||| 2 ^ c1 < _
          exact Nat.or_lt_two_pow b4 (Nat.pow_lt_pow_right (by decide) hc1)
        · show (if y = c1 then f1 else (qQ S k).2 0 y) ≤ 999 ∧ (if y = c1 then t1 else (qQ S k).2 1 y) ≤ 999 ∧ (if y = c1 then f1 else (qQ S k).2 0 y) ≤ (if y = c1 then t1 else (qQ S k).2 1 y)
          by_cases g2 : y = c1
          · rw [if_pos g2, if_pos g2]; exact ⟨hf1b, ht1b, ht1a⟩
          · rw [if_neg g2, if_neg g2]; exact b6 y hy
      · rw [if_neg g]; exact s5 x hx
    · have hx : sn S 0 ≤ x := hx
      show (((setQ S k (tstQ (qQ S k) c1 f1 t1)).2.1 x).2).1 2 = 0 ∧ ∀ i j, (((setQ S k (tstQ (qQ S k) c1 f1 t1)).2.1 x).2).2 i j = 0
      rw [qe, if_neg (by omega)]
      exact z2 x hx
theorem m_set_mono {S : St} {s r : Nat} (h : ∀ x, r.testBit x = true → s.testBit x = true) (hs : m_set S s = true) : m_set S r = true := by
  unfold m_set at hs ⊢
  refine allN_lt.mpr (fun a ha => allN_lt.mpr (fun b hb => ?_))
  have h1 := allN_lt.mp (allN_lt.mp hs a ha) b hb
  unfold m_bad at h1 ⊢
  cases p1 : r.testBit a with
  | false => rfl
  | true =>
    cases p2 : r.testBit b with
    | false => rfl
    | true =>
      rw [h a p1, h b p2] at h1
      exact h1
theorem inv_build {S : St} (h : Inv S) (a : Int32) (is : Bool) : Inv (P_build S a is).2 := by
  unfold P_build
  split
  case isFalse => exact h
  case isTrue hq =>
    obtain ⟨q1, q2, q3⟩ := hq
    have s3 := h.1.2.2.1
    obtain ⟨k, hk, hke⟩ := x_in_ex (n := sn S 1) (by omega) q1
    have e : a.toNatClampNeg = k := by rw [hke, nI_clamp (by omega)]
    rw [e] at q2 q3 ⊢
    obtain ⟨⟨s1, s2, -, s4, s5, s6⟩, ⟨z1, z2, z3⟩, h4, hm, hnum⟩ := h
    have tb : ∀ x, (sn S 2 ^^^ 2 ^ k).testBit x = ((sn S 2).testBit x ^^ decide (k = x)) := fun x => by rw [Nat.testBit_xor, Nat.testBit_two_pow]
    refine ⟨⟨s1, s2, s3, Nat.xor_lt_two_pow s4 (Nat.pow_lt_pow_right (by decide) hk), s5, s6⟩, ⟨z1, z2, z3⟩, h4, ?_, hnum⟩
    show m_set S (sn S 2 ^^^ 2 ^ k) = true
    cases is with
    | true =>
      refine m_set_mono (fun x hx => ?_) (q3 rfl)
      rw [tb] at hx
      rw [Nat.testBit_or, Nat.testBit_two_pow]
      cases p : (sn S 2).testBit x with
      | true => rfl
      | false => rw [p, Bool.false_xor] at hx; rw [hx]; rfl
    | false =>
      refine m_set_mono (fun x hx => ?_) hm
      rw [tb] at hx
      by_cases g : k = x
      · subst g
        cases p : (sn S 2).testBit k with
        | true => rfl
        | false => exact absurd p q2
      · rw [decide_eq_false g, Bool.xor_false] at hx; exact hx
theorem inv_addA {S : St} {e : Nat × Ad} (h : Inv S) (h0 : sn S 1 ≠ 12) (he : e.1 < 4) (h1 : 0 < (sT S e.1).1 1) (hq : Aok (sT S e.1) e.2) : Inv (addA S e) := by
  obtain ⟨⟨s1, s2, s3, s4, s5, s6⟩, ⟨z1, z2, z3⟩, h4, hm, hnum⟩ := h
  have qe : ∀ q, (addA S e).2.2.1 q = if q = sn S 1 then e else S.2.2.1 q := fun q => rfl
  refine ⟨⟨s1, s2, ?_, ?_, s5, fun q hq2 => ?_⟩, ⟨z1, z2, fun q hq2 => ?_⟩, h4, ?_, hnum⟩
  · show sn S 1 + 1 ≤ 12
    omega
  · show sn S 2 < 2 ^ (sn S 1 + 1)
    exact Nat.lt_trans s4 (Nat.pow_lt_pow_right (by decide) (by omega))
  · have hq2 : q < sn S 1 + 1 := hq2
    show ((addA S e).2.2.1 q).1 < 4 ∧ 0 < (sT S ((addA S e).2.2.1 q).1).1 1 ∧ Aok (sT S ((addA S e).2.2.1 q).1) ((addA S e).2.2.1 q).2
    rw [qe]
    by_cases c : q = sn S 1
    · rw [if_pos c]; exact ⟨he, h1, hq⟩
    · rw [if_neg c]; exact s6 q (by omega)
  · have hq2 : sn S 1 + 1 ≤ q := hq2
    show (((addA S e).2.2.1 q).2).1 4 = 0 ∧ (((addA S e).2.2.1 q).2).1 5 = 0
    rw [qe, if_neg (by omega)]
    exact z3 q (by omega)
  · show m_set (addA S e) (sn S 2) = true
    unfold m_set at hm ⊢
    refine allN_lt.mpr (fun a ha => allN_lt.mpr (fun b hb => ?_))
    have ha : a < sn S 1 + 1 := ha
    by_cases c : a = sn S 1
    · have hb0 : (sn S 2).testBit a = false := by rw [c]; exact Nat.testBit_lt_two_pow s4
      unfold m_bad
      rw [hb0]
      rfl
    · have h9 := allN_lt.mp (allN_lt.mp hm a (by omega)) b hb
      have ea : (addA S e).2.2.1 a = S.2.2.1 a := by rw [qe, if_neg c]
      have eb : (addA S e).2.2.1 b = S.2.2.1 b := by rw [qe, if_neg (by omega)]
      unfold m_bad aA ao at h9 ⊢
      rw [ea, eb]
      exact h9
theorem cov_16 : ∀ w, w < 16 → ∀ o, o < 16 → (nI (w ||| o) &&& (nI o ^^^ (-1)) = nI ((w ||| o) ^^^ o)) ∧ pop ((w ||| o) ^^^ o) + pop o = pop (w ||| o) ∧ (w ||| o) ^^^ o < 16 := by decide +kernel
def own5 (x y z : Nat) : Bool := decide (x = 0 ∨ (y = 0 ∧ ¬ z = 0) ∨ (¬ y = 0 ∧ (x = y ∨ x = z ∨ y = z)) ∨ pop (bO x ||| bO y ||| bO z) = if y = 0 then 1 else if z = 0 then 2 else 3)
theorem own_5b : ((List.range 5).all fun x => (List.range 5).all fun y => (List.range 5).all fun z => own5 x y z) = true := by decide +kernel
theorem own_5 (x : Nat) (hx : x < 5) (y : Nat) (hy : y < 5) (z : Nat) (hz : z < 5) : x = 0 ∨ (y = 0 ∧ ¬ z = 0) ∨ (¬ y = 0 ∧ (x = y ∨ x = z ∨ y = z)) ∨ pop (bO x ||| bO y ||| bO z) = if y = 0 then 1 else if z = 0 then 2 else 3 :=
  of_decide_eq_true (List.all_eq_true.mp (List.all_eq_true.mp (List.all_eq_true.mp own_5b x (List.mem_range.mpr hx)) y (List.mem_range.mpr hy)) z (List.mem_range.mpr hz))
theorem cO_0 {T : Tb} {b : Int32} (hT : T.1 1 ≤ 4) (h : t_hon T b = true) : (b = -1 ↔ cO b = 0) ∧ cO b < 5 := by
  obtain ⟨h1, h2⟩ := cO_hon hT h
  refine ⟨⟨fun q => ?_, fun q => ?_⟩, by omega⟩
  · unfold cO; rw [if_pos q]
  · rw [← h1, q]; rfl
theorem own_pop {T : Tb} {a b c : Int32} (hT : T.1 1 ≤ 4) (h : s_turn T a b c = true) : pop (s_own a b c) = s_many b c := by
  obtain ⟨g1, g2, g3⟩ := turn_hon h
  have ga : t_hon T a = true := by unfold t_hon; rw [g1, Bool.or_true]
  have hA := cO_0 hT ga
  have hB := cO_0 hT g2
  have hC := cO_0 hT g3
  have ea := (cO_hon hT ga).1
  have eb := (cO_hon hT g2).1
  have ec := (cO_hon hT g3).1
  have hs : (if b = (-1) then decide (c = (-1)) else (!decide (a = b) && !decide (a = c) && !decide (b = c))) = true := by
    unfold s_turn at h
    rw [Bool.and_eq_true] at h
    exact h.2
  have this : pop (bO (cO a) ||| bO (cO b) ||| bO (cO c)) = if cO b = 0 then 1 else if cO c = 0 then 2 else 3 := by
    rcases own_5 (cO a) hA.2 (cO b) hB.2 (cO c) hC.2 with q | ⟨q, r⟩ | ⟨q, r⟩ | q
    · exact absurd (hA.1.mpr q) (sh_a hT g1).2
    · rw [if_pos (hB.1.mpr q)] at hs
      exact absurd (hC.1.mp (of_decide_eq_true hs)) r
    · rw [if_neg (fun z => q (hB.1.mp z)), Bool.and_eq_true, Bool.and_eq_true, Bool.not_eq_true', Bool.not_eq_true', Bool.not_eq_true'] at hs
      obtain ⟨⟨n1, n2⟩, n3⟩ := hs
      rcases r with z | z | z
      · exact absurd (by rw [← ea, ← eb, z]) (of_decide_eq_false n1)
      · exact absurd (by rw [← ea, ← ec, z]) (of_decide_eq_false n2)
      · exact absurd (by rw [← eb, ← ec, z]) (of_decide_eq_false n3)
    · exact q
  unfold s_own
  rw [this]
  unfold s_many
  by_cases q : b = -1
  · rw [if_pos q, if_pos (hB.1.mp q)]
  · rw [if_neg q, if_neg (fun z => q (hB.1.mpr z))]
    by_cases r : c = -1
    · rw [if_pos r, if_pos (hC.1.mp r)]
    · rw [if_neg r, if_neg (fun z => r (hC.1.mpr z))]
theorem p16 {T : Tb} (hT : T.1 1 ≤ 4) : 2 ^ T.1 1 ≤ 16 := Nat.pow_le_pow_right (by decide) hT
theorem inv_order {S : St} (h : Inv S) (t k a b c w : Int32) : Inv (P_order S t k a b c w).2 := by
  unfold P_order
  split
  case isFalse => exact h
  case isTrue hq =>
    obtain ⟨q1, q2, q3, q4⟩ := hq
    obtain ⟨u, hu, e, h1, h2, h3, h4⟩ := inv_tab h q2
    rw [e] at q3 q4 ⊢
    have hT := h2.2.1
    have h16 := p16 hT
    have ho := own_lt hT q3
    have hmn := (s_many_le b c).1
    have hin : ∀ i, i < s_many b c → (if i = 0 then a.toNatClampNeg else if i = 1 then b.toNatClampNeg else c.toNatClampNeg) < (sT S u).1 1 := fun i hi => (many_in hT q3 hi).2
    refine inv_addA h q1 hu h1 ?_
    rcases q4 with q4 | q4 | ⟨q4, q5, q6⟩
    · subst q4
      rw [if_neg (by decide)]
      exact ⟨by show (nI 0).toNatClampNeg ≤ 4; decide, hmn, hin, by show s_own a b c < 16; omega, by show s_own a b c < 16; omega, fun z => absurd z (by show ¬ ((nI 0).toNatClampNeg = 2 ∨ (nI 0).toNatClampNeg = 3); decide), Nat.zero_le _, Nat.zero_le _, Nat.zero_le _, fun z => absurd z (by show ¬ (nI 0).toNatClampNeg = 1; decide), fun z => absurd z (by show ¬ (nI 0).toNatClampNeg = 3; decide)⟩
    · subst q4
      rw [if_neg (by decide)]
      exact ⟨by show (nI 4).toNatClampNeg ≤ 4; decide, hmn, hin, by show s_own a b c < 16; omega, by show s_own a b c < 16; omega, fun z => absurd z (by show ¬ ((nI 4).toNatClampNeg = 2 ∨ (nI 4).toNatClampNeg = 3); decide), Nat.zero_le _, Nat.zero_le _, Nat.zero_le _, fun z => absurd z (by show ¬ (nI 4).toNatClampNeg = 1; decide), fun z => absurd z (by show ¬ (nI 4).toNatClampNeg = 3; decide)⟩
    · subst q4
      rw [if_pos rfl]
      obtain ⟨w1, hw1, hw1e⟩ := x_in_ex (n := 2 ^ (sT S u).1 1) (by omega) q5
      rw [hw1e, nI_clamp (show w1 < 2 ^ 31 by omega)]
      have h9 := cov_16 w1 (by omega) (s_own a b c) (by omega)
      have h10 : w1 ||| s_own a b c < 2 ^ 4 := Nat.or_lt_two_pow (by omega) (by omega)
      refine ⟨by show (nI 1).toNatClampNeg ≤ 4; decide, hmn, hin, by show w1 ||| s_own a b c < 16; omega, by show s_own a b c < 16; omega, fun z => absurd z (by show ¬ ((nI 1).toNatClampNeg = 2 ∨ (nI 1).toNatClampNeg = 3); decide), Nat.zero_le _, Nat.zero_le _, Nat.zero_le _, fun _ => ⟨(w1 ||| s_own a b c) ^^^ s_own a b c, h9.2.2, h9.1, ?_⟩, fun z => absurd z (by show ¬ (nI 1).toNatClampNeg = 3; decide)⟩
      show pop ((w1 ||| s_own a b c) ^^^ s_own a b c) + s_many b c = pop (w1 ||| s_own a b c)
      rw [← own_pop hT q3]
      exact h9.2.1
theorem inv_part {S : St} (h : Inv S) (t a b c f u : Int32) : Inv (P_part S t a b c f u).2 := by
  unfold P_part
  split
  case isFalse => exact h
  case isTrue hq =>
    obtain ⟨q1, q2, q3, q4, q5⟩ := hq
    obtain ⟨k, hk, e, h1, h2, h3, h4⟩ := inv_tab h q2
    rw [e] at q3 q4 ⊢
    have hT := h2.2.1
    have h16 := p16 hT
    have ho := own_lt hT q3
    have hmn := (s_many_le b (-1)).1
    obtain ⟨c1, hc1, hc1e⟩ := t_has_ex hT q4
    have hrg := q5
    rw [rng_eq, Bool.and_eq_true] at hrg
    obtain ⟨f1, hf1b, -, hf1e⟩ := nI_tc (x := f) (a := 0) (b := 999) (by decide) (by decide) hrg.1
    obtain ⟨u1, hu1b, hu1a, hu1e⟩ := nI_tc (x := u) (a := f1) (b := 999) (by omega) (by decide) (by rw [← hf1e]; exact hrg.2)
    rw [hc1e, hf1e, hu1e, nI_clamp (show c1 < 2 ^ 31 by omega), nI_clamp (show f1 < 2 ^ 31 by omega), nI_clamp (show u1 < 2 ^ 31 by omega)]
    exact inv_addA h q1 hk h1 ⟨by show 2 ≤ 4; decide, hmn, fun i hi => (many_in hT q3 hi).2, by show 0 < 16; decide, by show s_own a b (-1) < 16; omega, fun _ => hc1, hf1b, hu1b, Nat.zero_le _, fun z => absurd z (by show ¬ 2 = 1; decide), fun z => absurd z (by show ¬ 2 = 3; decide)⟩
theorem inv_sums {S : St} (h : Inv S) (t s c : Int32) : Inv (P_sums S t s c).2 := by
  unfold P_sums
  split
  case isFalse => exact h
  case isTrue hq =>
    obtain ⟨q1, q2, q3, q4, q5, q6⟩ := hq
    obtain ⟨k, hk, e, h1, h2, h3, h4⟩ := inv_tab h q2
    rw [e] at q3 q4 ⊢
    have hT := h2.2.1
    have h16 := p16 hT
    obtain ⟨c1, hc1, hc1e⟩ := t_has_ex hT q3
    obtain ⟨w1, hw1, hw1e⟩ := x_in_ex (n := 2 ^ (sT S k).1 1) (by omega) q4
    rw [hw1e, hc1e, nI_clamp (show w1 < 2 ^ 31 by omega), nI_clamp (show c1 < 2 ^ 31 by omega)]
    exact inv_addA h q1 hk h1 ⟨by show 3 ≤ 4; decide, by show 0 ≤ 3; decide, fun i hi => absurd hi (Nat.not_lt_zero i), by show w1 < 16; omega, by show 0 < 16; decide, fun _ => hc1, Nat.zero_le _, Nat.zero_le _, Nat.zero_le _, fun z => absurd z (by show ¬ 3 = 1; decide), fun _ => rfl⟩
