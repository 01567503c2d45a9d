def d_tab (S : St) (lo : x_L) (t : Int32) : Option Nat := if m_isT S t = true then some (lo (tT t.toNatClampNeg)) else none
def d_qn (S : St) (lo : x_L) (q : Int32) : Option Nat := if x_in (sn S 0) q = true then some (lo (tQ q.toNatClampNeg)) else none
def d_ad (S : St) (lo : x_L) (a : Int32) : Option Nat := if x_in (sn S 1) a = true then some (lo (tA a.toNatClampNeg)) else none
def d_tfa (S : St) (lo : x_L) (t : Int32) : Option Nat := if sn S 1 < 12 then d_tab S lo t else none
theorem d_tab_1 {S : St} {lo : x_L} {t : Int32} {k : Nat} (h : m_isT S t = true) (e : t = nI k) (hk : k < 4) : va_rf (d_tab S lo t) = .ref (lo (tT k)) := by rw [d_tab, if_pos h, e, nI_clamp (by omega)]; rfl
theorem d_tab_0 {S : St} {lo : x_L} {t : Int32} (h : ¬ m_isT S t = true) : va_rf (d_tab S lo t) = .null := by rw [d_tab, if_neg h]; rfl
theorem d_qn_1 {S : St} {lo : x_L} {q : Int32} {k : Nat} (h : x_in (sn S 0) q = true) (e : q = nI k) (hk : k < 2 ^ 31) : va_rf (d_qn S lo q) = .ref (lo (tQ k)) := by rw [d_qn, if_pos h, e, nI_clamp hk]; rfl
theorem d_qn_0 {S : St} {lo : x_L} {q : Int32} (h : ¬ x_in (sn S 0) q = true) : va_rf (d_qn S lo q) = .null := by rw [d_qn, if_neg h]; rfl
theorem d_ad_1 {S : St} {lo : x_L} {a : Int32} {k : Nat} (h : x_in (sn S 1) a = true) (e : a = nI k) (hk : k < 2 ^ 31) : va_rf (d_ad S lo a) = .ref (lo (tA k)) := by rw [d_ad, if_pos h, e, nI_clamp hk]; rfl
theorem d_ad_0 {S : St} {lo : x_L} {a : Int32} (h : ¬ x_in (sn S 1) a = true) : va_rf (d_ad S lo a) = .null := by rw [d_ad, if_neg h]; rfl
theorem b6_bA (S : St) (a : Nat) : nI ((bA S a).1 6) = bI ((sn S 2).testBit a) := by
  rw [blt_bA]
  cases (sn S 2).testBit a <;> rfl
theorem isDk.T {G : x_G} {lo : x_L} {co : x_C} {dd : Nat} {S : St} {X : Sc} (h : isDk G lo co dd S X) {t : Nat} (h1 : t < 4) (h2 : 0 < (sT S t).1 1) : isTb G lo co (tT t) (sT S t) := h.2.2.2.2.2.1 t h1 h2
theorem isDk.Q {G : x_G} {lo : x_L} {co : x_C} {dd : Nat} {S : St} {X : Sc} (h : isDk G lo co dd S X) {q : Nat} (h1 : q < sn S 0) : isQn G lo co (tQ q) (tT (qt S q)) (qQ S q) := h.2.2.2.2.2.2.1 q h1
theorem isDk.A {G : x_G} {lo : x_L} {co : x_C} {dd : Nat} {S : St} {X : Sc} (h : isDk G lo co dd S X) {a : Nat} (h1 : a < sn S 1) : isAd G lo co (tA a) (tT (ao S a)) (bA S a) := h.2.2.2.2.2.2.2.1 a h1
theorem isDk.L2 {G : x_G} {lo : x_L} {co : x_C} {dd : Nat} {S : St} {X : Sc} (h : isDk G lo co dd S X) : isL G lo co dd 2 3 (sn S 0) (fun q => lo (tQ q)) := h.2.2.1
theorem isDk.L4 {G : x_G} {lo : x_L} {co : x_C} {dd : Nat} {S : St} {X : Sc} (h : isDk G lo co dd S X) : isL G lo co dd 4 5 (sn S 1) (fun a => lo (tA a)) := h.2.2.2.1
theorem isDk.sc {G : x_G} {lo : x_L} {co : x_C} {dd : Nat} {S : St} {X : Sc} (h : isDk G lo co dd S X) : isSc G lo co X := h.2.2.2.2.1
/-- tables are told apart by where they lie -/
theorem tT_inj {G : x_G} {lo : x_L} {co : x_C} {dd : Nat} {S : St} {X : Sc} (h : isDk G lo co dd S X) (hj : x_J lo co) {t u : Nat} (h1 : t < 4) (h2 : 0 < (sT S t).1 1) (h3 : u < 4) (h4 : 0 < (sT S u).1 1) : some (lo (tT t)) = some (lo (tT u)) ↔ t = u := by
  constructor
  · intro q
    have := hj (tT t) (tT u) (by rw [(h.T h1 h2).1]; exact fun z => by cases z) (by rw [(h.T h3 h4).1]; exact fun z => by cases z) (Option.some.inj q)
    unfold tT at this; omega
  · intro q; rw [q]
/-- the other clusters of a cluster's table -/
def d_riv (S : St) (a : Nat) : Nat → Nat
  | 0 => 0
  | n + 1 => d_riv S a n ||| (if n ≠ a ∧ (aA S n).1 0 = 4 ∧ ao S n = ao S a then 2 ^ n else 0)
def d_rivs (S : St) (a : Nat) : Nat := if (aA S a).1 0 = 4 then d_riv S a (sn S 1) else 0
theorem d_riv_tb (S : St) (a : Nat) : ∀ n j, (d_riv S a n).testBit j = decide (j < n ∧ j ≠ a ∧ (aA S j).1 0 = 4 ∧ ao S j = ao S a)
  | 0, j => by simp [d_riv]
  | n + 1, j => by
    rw [d_riv, Nat.testBit_or, d_riv_tb S a n j]
    by_cases h : n ≠ a ∧ (aA S n).1 0 = 4 ∧ ao S n = ao S a
    · rw [if_pos h]
      by_cases e : j = n
      · subst e
        rw [Nat.testBit_two_pow_self, Bool.or_true]
        exact (decide_eq_true ⟨Nat.lt_succ_self j, h⟩).symm
      · rw [Nat.testBit_two_pow_of_ne (Ne.symm e), Bool.or_false]
        refine decide_eq_decide.mpr ⟨fun q => ⟨by omega, q.2⟩, fun q => ⟨by omega, q.2⟩⟩
    · rw [if_neg h, Nat.zero_testBit, Bool.or_false]
      refine decide_eq_decide.mpr ⟨fun q => ⟨by omega, q.2⟩, fun q => ⟨?_, q.2⟩⟩
      rcases Nat.lt_succ_iff_lt_or_eq.mp q.1 with e | e
      · exact e
      · rw [e] at q; exact absurd q.2 h
theorem d_riv_lt (S : St) (a : Nat) : ∀ n, d_riv S a n < 2 ^ n
  | 0 => by simp [d_riv]
  | n + 1 => by
    have h := d_riv_lt S a n
    have h2 : 2 ^ n < 2 ^ (n + 1) := Nat.pow_lt_pow_right (by decide) (Nat.lt_succ_self n)
    rw [d_riv]
    refine Nat.or_lt_two_pow (Nat.lt_trans h h2) ?_
    split
    · exact h2
    · exact Nat.two_pow_pos _
theorem and_0 {x y : Nat} : x &&& y = 0 ↔ ∀ j, ¬ (x.testBit j = true ∧ y.testBit j = true) := by
  constructor
  · intro h j hq
    have : (x &&& y).testBit j = true := by rw [Nat.testBit_and, hq.1, hq.2]; rfl
    rw [h, Nat.zero_testBit] at this
    exact absurd this (by decide)
  · intro h
    apply Nat.eq_of_testBit_eq
    intro j
    rw [Nat.testBit_and, Nat.zero_testBit]
    cases e1 : x.testBit j <;> cases e2 : y.testBit j <;> first | rfl | exact absurd ⟨e1, e2⟩ (h j)
/-- a set, as the class sees it -/
theorem m_set_riv {S : St} {s : Nat} : m_set S s = true ↔ ∀ a, a < sn S 1 → s.testBit a = true → d_rivs S a &&& s = 0 := by
  unfold m_set
  rw [allN_lt]
  constructor
  · intro h a ha hs
    unfold d_rivs
    by_cases h4 : (aA S a).1 0 = 4
    · rw [if_pos h4, and_0]
      rintro j ⟨hj, hj2⟩
      rw [d_riv_tb] at hj
      obtain ⟨q1, q2, q3, q4⟩ := of_decide_eq_true hj
      rcases Nat.lt_trichotomy j a with e | e | e
      · have := allN_lt.mp (h a ha) j e
        simp [m_bad, hs, hj2, h4, q3, q4] at this
      · exact q2 e
      · have := allN_lt.mp (h j q1) a e
        simp [m_bad, hs, hj2, h4, q3, q4] at this
    · rw [if_neg h4]; simp
  · intro h a ha
    rw [allN_lt]
    intro b hb
    cases e : m_bad S s a b with
    | false => rfl
    | true =>
      unfold m_bad at e
      simp only [Bool.and_eq_true, decide_eq_true_eq] at e
      obtain ⟨⟨⟨⟨e1, e2⟩, e3⟩, e4⟩, e5⟩ := e
      have := h a ha e1
      rw [d_rivs, if_pos e3, and_0] at this
      exact absurd ⟨by rw [d_riv_tb]; exact decide_eq_true ⟨by omega, by omega, e4, e5.symm⟩, e2⟩ (this b)
theorem d_rivs_lt (S : St) (a : Nat) : d_rivs S a < 2 ^ sn S 1 := by
  unfold d_rivs; split
  · exact d_riv_lt S a _
  · exact Nat.two_pow_pos _
/-- what of the built is read -/
def d_blt (S : St) : Nat → Nat
  | 0 => 0
  | n + 1 => d_blt S n ||| (if (sn S 2).testBit n = true then 2 ^ n else 0)
theorem d_blt_tb (S : St) : ∀ n j, (d_blt S n).testBit j = (decide (j < n) && (sn S 2).testBit j)
  | 0, j => by simp [d_blt]
  | n + 1, j => by
    rw [d_blt, Nat.testBit_or, d_blt_tb S n j]
    by_cases h : (sn S 2).testBit n = true
    · rw [if_pos h]
      by_cases e : j = n
      · subst e; simp [h]
      · rw [Nat.testBit_two_pow_of_ne (Ne.symm e), Bool.or_false]; congr 1; exact decide_eq_decide.mpr (by omega)
    · rw [if_neg h, Nat.zero_testBit, Bool.or_false]
      by_cases e : j = n
      · subst e; simp [h]
      · congr 1; exact decide_eq_decide.mpr (by omega)
theorem d_blt_eq {S : St} (hS : Sok S) : d_blt S (sn S 1) = sn S 2 := by
  apply Nat.eq_of_testBit_eq
  intro j
  rw [d_blt_tb]
  by_cases h : j < sn S 1
  · rw [decide_eq_true h, Bool.true_and]
  · rw [decide_eq_false h, Bool.false_and, Nat.testBit_lt_two_pow (Nat.lt_of_lt_of_le hS.2.2.2.1 (Nat.pow_le_pow_right (by decide) (by omega)))]
theorem d_blt_lt (S : St) : ∀ n, d_blt S n < 2 ^ n
  | 0 => by simp [d_blt]
  | n + 1 => by
    have h := d_blt_lt S n
    have h2 : 2 ^ n < 2 ^ (n + 1) := Nat.pow_lt_pow_right (by decide) (Nat.lt_succ_self n)
    rw [d_blt]
    refine Nat.or_lt_two_pow (Nat.lt_trans h h2) ?_
    split
    · exact h2
    · exact Nat.two_pow_pos _
/-- a number that is no set: too large, or below 0 -/
theorem d_ush {n : Nat} {s : Int32} (hn : n ≤ 12) : (s.toUInt32 >>> ((nI n).toUInt32 &&& Int32.toUInt32 31)).toInt32 = 0 ↔ x_in (2 ^ n) s = true := by
  have hp : 2 ^ n ≤ 4096 := Nat.pow_le_pow_right (by decide) hn
  have hp0 := Nat.two_pow_pos n
  obtain ⟨k, hk, rfl⟩ : ∃ k, k < 2 ^ 32 ∧ s = nI k := ⟨s.toUInt32.toNat, s.toUInt32.toNat_lt, by unfold nI; apply Int32.toBitVec.inj; apply BitVec.eq_of_toNat_eq; simp [Int32.toBitVec_ofNat']⟩
  rw [pk_ushrN hk (nI n) n (nI_sht ⟨n, by omega⟩)]
  have hd : k / 2 ^ n < 2 ^ 32 := Nat.lt_of_le_of_lt (Nat.div_le_self _ _) hk
  by_cases h31 : k < 2 ^ 31
  · rw [x_in_nI (by omega) h31, show (0 : Int32) = nI 0 from rfl, nI_eq (Nat.lt_of_le_of_lt (Nat.div_le_self _ _) h31) (by decide), Nat.div_eq_zero_iff, decide_eq_true_iff]
    omega
  · have hneg : nI k < 0 := by
      rw [Int32.lt_iff_toInt_lt]
      show (nI k).toBitVec.toInt < 0
      rw [BitVec.toInt_neg_iff]
      unfold nI
      rw [Int32.toBitVec_ofNat', BitVec.toNat_ofNat]
      omega
    have hx : x_in (2 ^ n) (nI k) = false := by rw [x_in, decide_eq_true hneg]; rfl
    rw [hx]
    refine ⟨fun hz => ?_, fun hz => absurd hz (by decide)⟩
    by_cases h0 : n = 0
    · subst h0
      rw [Nat.pow_zero, Nat.div_one] at hz
      rw [hz] at hneg
      exact absurd hneg (by decide)
    · have h2 : 2 ^ 1 ≤ 2 ^ n := Nat.pow_le_pow_right (by decide) (by omega)
      have hk2 : k / 2 ^ n < 2 ^ 31 := by
        rw [Nat.div_lt_iff_lt_mul hp0]
        have : 2 ^ 31 * 2 ^ 1 ≤ 2 ^ 31 * 2 ^ n := Nat.mul_le_mul_left _ h2
        omega
      rw [show (0 : Int32) = nI 0 from rfl, nI_eq hk2 (by decide), Nat.div_eq_zero_iff] at hz
      omega
theorem t_hall_x {T : Tb} {b : Int32} (h : T.1 1 ≤ 12) : t_hall T b = x_in (2 ^ T.1 1) b := by
  unfold t_hall
  cases e : x_in (2 ^ T.1 1) b with
  | true => exact decide_eq_true ((d_ush h).mpr e)
  | false => exact decide_eq_false (fun q => by rw [(d_ush h).mp q] at e; exact absurd e (by decide))
theorem P_plan_q {S : St} {q : Nat} (hS : Sok S) (hq : q < sn S 0) : P_plan S (nI q) = nO (m_plan S q) := by
  have := hS.2.1
  rw [P_plan, if_pos (by rw [x_in_nI (by omega) (by omega)]; exact decide_eq_true hq), nI_clamp (by omega)]
theorem d_ad_z (S : St) (lo : x_L) : va_rf (d_ad S lo (nO 0)) = .null := d_ad_0 (fun z => by
  have : x_in (sn S 1) (nO 0) = false := by rw [x_in, decide_eq_true (show nO 0 < 0 by decide)]; rfl
  rw [this] at z; exact absurd z (by decide))
theorem d_ad_s {S : St} {lo : x_L} {p : Nat} (hS : Sok S) (h : p ≠ 0) (h2 : p - 1 < sn S 1) : va_rf (d_ad S lo (nO p)) = .ref (lo (tA (p - 1))) := by
  have := hS.2.2.1
  rw [nO_s h]
  exact d_ad_1 (by rw [x_in_nI (by omega) (by omega)]; exact decide_eq_true h2) rfl (by omega)
theorem P_cost_pl {S : St} {q : Nat} (hS : Sok S) (hq : q < sn S 0) : P_cost S (nI q) (nO (m_plan S q)) = nI (m_pc S q (m_plan S q)) := by
  have h1 := m_pl_ok (S := S) q (sn S 2)
  by_cases hz : m_plan S q = 0
  · rw [hz, m_pc, if_pos rfl]; exact P_cost_m1 hS hq
  · obtain ⟨h2, h3⟩ := h1.resolve_left hz
    have h4 : m_plan S q - 1 < sn S 1 := h2
    have h5 : m_helps S q (m_plan S q - 1) = true := h3
    rw [nO_s hz, P_cost_a hS hq h4, if_pos h5, m_pc, if_neg hz]; rfl
section XW10b
variable {p : Program} {l : Launch} {e : Env} {R : Room} {s : State} {m : MethodId} {args : Array Value} {below : List Frame} {meth : Method} {c : Code} {H : Heap} {locs : List Loc} {cells slots : Nat} {Q : State → Prop}
variable {cc : ByteArray} {pc : Nat} {ls : Array Slot} {rest : List Value} {G : x_G} {lo : x_L} {co : x_C} {nL : Nat} {own : String}
theorem x_alenT {t n : Nat} {f : Nat → Option Nat} (cx : CallFix p m c cc nL s args x_gw own) (hk : x_K G s) (hw : x_R G lo co H) (ha : co t = some (.inl (G.2 2, n, .inr (.inr (.inr (.inr f)))))) (hdg : decode cc pc = .ok (.arraylength, 1))
    (kk : W p l e R s m args below meth c H locs cells slots Q (F0 m (pc + 1) ls (.int (nI n) :: rest))) : W p l e R s m args below meth c H locs cells slots Q (F0 m pc ls (.ref (lo t) :: rest)) :=
  va_alen cx.1 cx.2.1 hk.1 (hw.P ha) 0 2 rfl rfl rfl hdg kk
theorem x_alenO {t n : Nat} {f : Nat → Option Nat} (cx : CallFix p m c cc nL s args x_gw own) (hk : x_K G s) (hw : x_R G lo co H) (ha : co t = some (.inl (G.2 3, n, .inr (.inr (.inr (.inr f)))))) (hdg : decode cc pc = .ok (.arraylength, 1))
    (kk : W p l e R s m args below meth c H locs cells slots Q (F0 m (pc + 1) ls (.int (nI n) :: rest))) : W p l e R s m args below meth c H locs cells slots Q (F0 m pc ls (.ref (lo t) :: rest)) :=
  va_alen cx.1 cx.2.1 hk.1 (hw.P ha) 0 3 rfl rfl rfl hdg kk
theorem x_lin {x v : Int32} {dflt off : Int} {ps : Array (Int × Int)} {len tgt : Nat} (cx : CallFix p m c cc nL s args x_gw own) (hdg : decode cc pc = .ok (.lookupswitch dflt ps, len)) (hx : x = v) (hp : (ps.toList.zip (ps.toList.drop 1)).all (fun (a, next) => a.1 < next.1) = true) (ho : Op.lookupswitch.offset ps.toList dflt v.toInt = off) (ht : (pc : Int) + off = (tgt : Int))
    (k : W p l e R s m args below meth c H locs cells slots Q (F0 m tgt ls rest)) : W p l e R s m args below meth c H locs cells slots Q (F0 m pc ls (.int x :: rest)) := by
  subst hx; exact lv_lookup cx.1 cx.2.1 hdg hp ho ht k
theorem x_lout {x : Int32} {dflt : Int} {ps : Array (Int × Int)} {len tgt : Nat} (cx : CallFix p m c cc nL s args x_gw own) (hdg : decode cc pc = .ok (.lookupswitch dflt ps, len)) (hp : (ps.toList.zip (ps.toList.drop 1)).all (fun (a, next) => a.1 < next.1) = true) (ht : (pc : Int) + dflt = (tgt : Int)) (ho : Op.lookupswitch.offset ps.toList dflt x.toInt = dflt)
    (k : W p l e R s m args below meth c H locs cells slots Q (F0 m tgt ls rest)) : W p l e R s m args below meth c H locs cells slots Q (F0 m pc ls (.int x :: rest)) := lv_lookup cx.1 cx.2.1 hdg hp ho ht k
theorem ne_toInt {x : Int32} {z : Int} (v : Int32) (hz : v.toInt = z) (h : ¬ x = v) : ¬ z = x.toInt := fun q => h (Int32.toInt_inj.mp (q.symm.trans hz.symm))
end XW10b
