/-! order, part, sums -/
theorem bA_new {S : St} {e : Nat × Ad} {k : Nat} (hS : Sok S) (hk : sn S 1 = k) : bA (addA S e) k = (va_up e.2.1 6 0, e.2.2) := by
  subst hk
  have n2 : sn (addA S e) 2 = sn S 2 := va_up_ne S.2.2.2 (sn S 1 + 1) (show 2 ≠ 1 by decide)
  have qe : (addA S e).2.2.1 (sn S 1) = e := va_up_self _ _ _
  have hb : (sn S 2).testBit (sn S 1) = false := Nat.testBit_lt_two_pow hS.2.2.2.1
  unfold bA
  rw [n2, hb]
  show (va_up ((addA S e).2.2.1 (sn S 1)).2.1 6 (if false = true then 1 else 0), ((addA S e).2.2.1 (sn S 1)).2.2) = _
  rw [qe]
  rfl
theorem turn_last {T : Tb} {a b c : Int32} (h : s_turn T a b c = true) (hb : b = -1) : c = -1 := by
  unfold s_turn at h
  rw [Bool.and_eq_true, if_pos hb] at h
  exact of_decide_eq_true h.2
theorem row_by {T : Tb} {a b c : Int32} {A : Ad} (hT : T.1 1 ≤ 4) (h : s_turn T a b c = true) (h1 : A.1 1 = s_many b c) (h2 : A.2 = fun i => if i = 0 then a.toNatClampNeg else if i = 1 then b.toNatClampNeg else c.toNatClampNeg) : ∀ j, j < 3 → upd (upd (upd (fun _ => nI 0) 0 a) 1 b) 2 c j = nO (a_by A j) := by
  intro j hj
  unfold a_by
  rw [h1, h2]
  by_cases q : j < s_many b c
  · rw [if_pos q]
    have hh := (many_in hT h q).1
    rcases (show j = 0 ∨ j = 1 ∨ j = 2 by omega) with e | e | e
    · subst e; exact hh
    · subst e; exact hh
    · subst e; exact hh
  · rw [if_neg q]
    have h3 := (s_many_le b c).2
    unfold s_many at q h3
    rcases (show j = 0 ∨ j = 1 ∨ j = 2 by omega) with e | e | e
    · subst e; omega
    · subst e
      by_cases hb : b = -1
      · exact hb
      · rw [if_neg hb] at q
        by_cases hc : c = -1
        · rw [if_pos hc] at q; omega
        · rw [if_neg hc] at q; omega
    · subst e
      by_cases hb : b = -1
      · exact turn_last h hb
      · rw [if_neg hb] at q
        by_cases hc : c = -1
        · exact hc
        · rw [if_neg hc] at q; omega
theorem d_tfa_1 {S : St} {lo : x_L} {t : Int32} {k : Nat} (hn : sn S 1 < 12) (h : m_isT S t = true) (e : t = nI k) (hk : k < 4) : va_rf (d_tfa S lo t) = .ref (lo (tT k)) := by rw [d_tfa, if_pos hn]; exact d_tab_1 h e hk
theorem d_tfa_0 {S : St} {lo : x_L} {t : Int32} (h : ¬ (sn S 1 < 12 ∧ m_isT S t = true)) : va_rf (d_tfa S lo t) = .null := by
  rw [d_tfa]
  by_cases hn : sn S 1 < 12
  · rw [if_pos hn]; exact d_tab_0 (fun q => h ⟨hn, q⟩)
  · rw [if_neg hn]; rfl
set_option maxHeartbeats 8000000 in
theorem dw_order {l : Launch} {mi : Nat} {G : x_G} {lo : x_L} {co : x_C} (dd : Nat) (S : St) (X : Sc) (hd : isDk G lo co dd S X) (hS : Sok S) (t k a b c w : Int32) : z_Wr l dd mi G lo (co) yX10_order cX10_order 9 (some .int) 8 3 71 [.ref (lo (0)), .int (t), .int (k), .int (a), .int (b), .int (c), .int (w)] (fun (v : Option Value) (lo1 : x_L) (co1 : x_C) => v = some (.int (P_order S t k a b c w).1) ∧ lo1 0 = lo 0 ∧ ∃ X1, isDk G lo1 co1 dd (P_order S t k a b c w).2 X1) := by
  refine z_wenter RX10 rfl (by decide) (Nat.le_of_ble_eq_true rfl) ?_
  intro pp ee ss mm bb mt cd ls AA cx hk hZ hW hA hr hlk hnm hl
  have hl : lv_has ls 9 [(0, .ref (lo (0))), (1, .int (t)), (2, .int (k)), (3, .int (a)), (4, .int (b)), (5, .int (c)), (6, .int (w))] := hl
  generalize hav : ([.ref (lo (0)), .int (t), .int (k), .int (a), .int (b), .int (c), .int (w)] : List Value).toArray = av at cx ⊢
  generalize hpo : (fun (v : Option Value) (lo1 : x_L) (co1 : x_C) => v = some (.int (P_order S t k a b c w).1) ∧ lo1 0 = lo 0 ∧ ∃ X1, isDk G lo1 co1 dd (P_order S t k a b c w).2 X1) = po
  have hx := cx.1
  have hb := cx.2.1
  have hW := hW.drop 14
  have h14 : va_up co 14 none 14 = none := va_up_self _ _ _
  have hd := dk_free hd hS
  generalize va_up co 14 none = co at hW h14 hd
  have hw := hW.1
  have hj : x_J lo co := hW.2.1.1
  obtain ⟨s1, s2, s3, s4, s5, s6⟩ := id hS
  have bad : P_order S t k a b c w = (-1, S) → ∀ x : Int32, x = -1 → po (some (.int x)) lo co := fun e x hxx => by
    rw [← hpo, e, hxx]; exact ⟨rfl, rfl, X, hd⟩
  refine lv_aload_n hx hb dX10_order_0 rfl (lv_at hl 0 rfl) ?_
  refine lv_iload_n hx hb dX10_order_1 rfl (lv_at hl 1 rfl) ?_
  refine x_rdV (av := [.int (t)]) (rest := []) cx hk hw (hd.1) cv_RX10_113_9 (d_tableForAid dd S X hd hj hS t) hl.1 rfl rfl (Nat.le_of_ble_eq_true rfl) ⟨by decide, by decide⟩ ⟨Nat.zero_le _, Nat.zero_le _⟩ dX10_order_2 ?_
  by_cases hc_t : sn S 1 < 12 ∧ m_isT S t = true
  case neg =>
    rw [d_tfa_0 hc_t]
    refine lv_astoreN (lv' := [(7, .null), (0, .ref (lo (0))), (1, .int (t)), (2, .int (k)), (3, .int (a)), (4, .int (b)), (5, .int (c)), (6, .int (w))]) hx hb dX10_order_5 hl (by decide) rfl (fun ls hl => ?_)
    refine lv_aloadN hx hb dX10_order_7 (lv_at hl 0 rfl) ?_
    refine lv_ifnullN (tgt := 25) hx hb dX10_order_9 (by decide) ?_
    refine lv_iconst (v := -1) hx hb dX10_order_25 rfl ?_
    exact y_iret cx hW hr hlk ⟨by decide, by decide⟩ dX10_order_26 (bad (by unfold P_order; rw [if_neg (fun z => hc_t ⟨by omega, z.2.1⟩)]) _ rfl)
  obtain ⟨hn12, hc_t⟩ := hc_t
  obtain ⟨t1, ht1, ht2, ht3⟩ := m_isT_ex hc_t
  have hTt := (s1 _ ht1).1 ht2
  have hT4 := hTt.2.1
  have htt := hd.T ht1 ht2
  have ht4 : t.toNatClampNeg = t1 := by rw [ht3, nI_clamp (by omega)]
  rw [d_tfa_1 hn12 hc_t ht3 ht1]
  refine lv_astore (lv' := [(7, .ref (lo (tT t1))), (0, .ref (lo (0))), (1, .int (t)), (2, .int (k)), (3, .int (a)), (4, .int (b)), (5, .int (c)), (6, .int (w))]) hx hb dX10_order_5 hl (by decide) rfl (fun ls hl => ?_)
  refine lv_aload hx hb dX10_order_7 (lv_at hl 0 rfl) ?_
  refine lv_ifnull hx hb dX10_order_9 ?_
  refine lv_aload hx hb dX10_order_12 (lv_at hl 0 rfl) ?_
  refine lv_iload_n hx hb dX10_order_14 rfl (lv_at hl 4 rfl) ?_
  refine lv_iload hx hb dX10_order_15 (lv_at hl 5 rfl) ?_
  refine lv_iload hx hb dX10_order_17 (lv_at hl 6 rfl) ?_
  refine x_rdS (av := [.ref (lo (tT t1)), .int (a), .int (b), .int (c)]) (rest := []) cx hk hw cs_RX10_116 (d_canOrder (tT t1) (sT S t1) htt a b c) hl.1 rfl rfl (Nat.le_of_ble_eq_true rfl) ⟨by decide, by decide⟩ ⟨Nat.zero_le _, Nat.zero_le _⟩ dX10_order_19 ?_
  refine x_if_ne (tgt := 27) cx dX10_order_22 (by decide) (fun h22 => ?_) (fun h22 => ?_)
  case refine_2 =>
    refine lv_iconst (v := -1) hx hb dX10_order_25 rfl ?_
    exact y_iret cx hW hr hlk ⟨by decide, by decide⟩ dX10_order_26 (bad (by unfold P_order; rw [if_neg (fun z => by have := z.2.2.1; rw [ht4, h22] at this; cases this)]) _ rfl)
  have hown := s_bit_own hT4 h22
  have hol := own_lt hT4 h22
  have hol16 : s_own a b c < 2 ^ 31 := Nat.lt_trans hol (Nat.lt_of_le_of_lt (Nat.pow_le_pow_right (by decide) hT4) (by decide))
  refine lv_iload_n hx hb dX10_order_27 rfl (lv_at hl 4 rfl) ?_
  refine x_rdS (av := [.int (a)]) (rest := []) cx hk hw cs_RX10_120 (c_bit a) hl.1 rfl rfl (Nat.le_of_ble_eq_true rfl) ⟨by decide, by decide⟩ ⟨Nat.zero_le _, Nat.zero_le _⟩ dX10_order_28 ?_
  refine lv_iload hx hb dX10_order_31 (lv_at hl 5 rfl) ?_
  refine x_rdS (av := [.int (b)]) (rest := [.int (s_bit a)]) cx hk hw cs_RX10_120 (c_bit b) hl.1 rfl rfl (Nat.le_of_ble_eq_true rfl) ⟨by decide, by decide⟩ ⟨Nat.zero_le _, Nat.zero_le _⟩ dX10_order_33 ?_
  refine lv_ior hx hb dX10_order_36 ?_
  refine lv_iload hx hb dX10_order_37 (lv_at hl 6 rfl) ?_
  refine x_rdS (av := [.int (c)]) (rest := [.int (s_bit a ||| s_bit b)]) cx hk hw cs_RX10_120 (c_bit c) hl.1 rfl rfl (Nat.le_of_ble_eq_true rfl) ⟨by decide, by decide⟩ ⟨Nat.zero_le _, Nat.zero_le _⟩ dX10_order_39 ?_
  refine lv_ior hx hb dX10_order_42 ?_
  rw [hown]
  refine lv_istore (lv' := [(8, .int (nI (s_own a b c))), (7, .ref (lo (tT t1))), (0, .ref (lo (0))), (1, .int (t)), (2, .int (k)), (3, .int (a)), (4, .int (b)), (5, .int (c)), (6, .int (w))]) hx hb dX10_order_43 hl (by decide) rfl (fun ls hl => ?_)
  generalize hk0 : sn S 1 = k9 at hn12
  refine lv_iload_n hx hb dX10_order_45 rfl (lv_at hl 4 rfl) ?_
  refine lv_if_ne (tgt := 68) hx hb dX10_order_46 (by decide) (fun h46 => ?_) (fun h46 => ?_)
  case refine_2 =>
    have eP : P_order S t k a b c w = (nI k9, addA S (t1, newA 0 (s_many b c) (s_own a b c) (s_own a b c) 0 0 0 a b c)) := by
      unfold P_order
      rw [if_pos ⟨by omega, hc_t, by rw [ht4]; exact h22, Or.inl h46⟩, ht4, if_neg (by rw [h46]; decide), hk0, h46]
      rfl
    have hA9 := bA_new (e := (t1, newA 0 (s_many b c) (s_own a b c) (s_own a b c) 0 0 0 a b c)) hS hk0
    have hnone : ∀ i, i < 2 → co (tA k9 + i) = none := fun i hi => hd.2.2.2.2.2.2.2.2.2.2 k9 (by omega) (by omega) i hi
    refine lv_aload_n hx hb dX10_order_49 rfl (lv_at hl 2 rfl) ?_
    refine x_new (tA k9) cx hk hW hA (hnone 0 (by decide)) nw_RX10_124 (by decide) (by decide) dX10_order_50 (fun lo1 H hlo1 hW => ?_)
    have e0 : lo1 0 = lo 0 := hlo1 0 (by unfold tA; omega)
    have e5 : lo1 (tT t1) = lo (tT t1) := hlo1 _ (by unfold tT tA; omega)
    rw [← e0] at hl ⊢
    rw [← e5] at hl
    refine lv_dup hx hb dX10_order_53 rfl ?_
    refine lv_aload hx hb dX10_order_54 (lv_at hl 1 rfl) ?_
    refine lv_iload_n hx hb dX10_order_56 rfl (lv_at hl 5 rfl) ?_
    refine lv_iload hx hb dX10_order_57 (lv_at hl 6 rfl) ?_
    refine lv_iload hx hb dX10_order_59 (lv_at hl 7 rfl) ?_
    refine y_wrI (t := tA k9) (av := [.ref (lo1 (tT t1)), .int (a), .int (b), .int (c)]) (rest := [.ref (lo1 (tA k9)), .ref (lo1 0)]) cx hk hW hA ci_RX10_126 (k_leaf3 (tA k9) (tT t1) (bA (addA S (t1, newA 0 (s_many b c) (s_own a b c) (s_own a b c) 0 0 0 a b c)) k9) a b c (s_own a b c) (va_up_self _ _ _) (fun i h1 h2 => (va_up_ne _ _ (by omega)).trans (hnone i h2)) (by unfold tT tA; omega) hown (by rw [hA9]; rfl) (by rw [hA9]; rfl) (by rw [hA9]; rfl) (by rw [hA9]; exact row_by hT4 h22 rfl rfl)) hl.1 rfl rfl (Nat.le_of_ble_eq_true rfl) ⟨by decide, by decide⟩ ⟨by decide, by decide⟩ dX10_order_61 (fun v_ lo2 co2 H locs hq_ hW => ?_)
    obtain ⟨hv_, hO, ⟨hc2, hb2⟩, -⟩ := hq_
    subst hv_
    have f0 : lo2 0 = lo1 0 := (hc2 0 (by unfold tA; omega)).2
    have fl : ∀ i, (i < tA k9 ∨ tA k9 + 2 ≤ i) → lo2 i = lo i := fun i h => (hc2 i h).2.trans (hlo1 i (by omega))
    have fc : ∀ i, (i < tA k9 ∨ tA k9 + 2 ≤ i) → co2 i = co i := fun i h => (hc2 i h).1.trans (va_up_ne _ _ (by omega))
    show W _ _ _ _ _ _ _ _ _ _ _ _ _ _ _ (F0 _ _ _ [.ref (lo1 (tA k9)), .ref (lo1 0)])
    rw [← f0, ← hb2]
    have hcd : co2 0 = some (.inr (9, [.ref (lo 1), .ref (lo 2), .ref (lo 4), .ref (lo 6)])) := (fc 0 (by unfold tA; omega)).trans hd.1
    refine z_wrV (t := 0) (av := [.ref (lo2 (tA k9))]) (rest := []) hZ cx hk hW hA hcd cv_RX10_127_9 (dw_enlist dd S X k9 (t1, newA 0 (s_many b c) (s_own a b c) (s_own a b c) 0 0 0 a b c) hd hS hk0 (by omega) ht1 h14 (Or.inr (Or.inr (Or.inl ⟨by rw [hA9]; rfl, hO⟩))) fl fc) hl.1 rfl rfl (Nat.le_of_ble_eq_true rfl) ⟨by decide, by decide⟩ ⟨by decide, by decide⟩ dX10_order_64 (fun v_ lo3 co3 H locs hq_ hW => ?_)
    obtain ⟨hv_, g0, hdk⟩ := hq_
    subst hv_
    refine y_iret cx hW hr hlk ⟨by decide, by decide⟩ dX10_order_67 ?_
    rw [← hpo, eP]
    exact ⟨rfl, g0.trans (f0.trans e0), X, hdk⟩
  have k114 : ¬ (k = nI 1 ∧ x_in (2 ^ (sT S t1).1 1) w = true ∧ ¬ w &&& (nI (s_own a b c) ^^^ (-1)) = 0) → x_ww l 8 3 71 pp ee ss mm av bb mt cd G po AA ss.heap [] 0 0 114 ls [] := fun h114 => by
    refine lv_iload_n hx hb dX10_order_114 rfl (lv_at hl 4 rfl) ?_
    refine lv_iconst (v := nI 4) hx hb dX10_order_115 rfl ?_
    refine lv_icmp_ne (tgt := 138) hx hb dX10_order_116 (by decide) (fun h116 => ?_) (fun h116 => ?_)
    · refine lv_iconst (v := -1) hx hb dX10_order_138 rfl ?_
      exact y_iret cx hW hr hlk ⟨by decide, by decide⟩ dX10_order_139 (bad (by unfold P_order; rw [ht4, if_neg (fun z => z.2.2.2.elim h46 (fun z => z.elim h116 h114))]) _ rfl)
    have eP : P_order S t k a b c w = (nI k9, addA S (t1, newA 4 (s_many b c) (s_own a b c) (s_own a b c) 0 0 0 a b c)) := by
      unfold P_order
      rw [if_pos ⟨by omega, hc_t, by rw [ht4]; exact h22, Or.inr (Or.inl h116)⟩, ht4, if_neg (by rw [h116]; decide), hk0, h116]
      rfl
    have hA9 := bA_new (e := (t1, newA 4 (s_many b c) (s_own a b c) (s_own a b c) 0 0 0 a b c)) hS hk0
    have hnone : ∀ i, i < 2 → co (tA k9 + i) = none := fun i hi => hd.2.2.2.2.2.2.2.2.2.2 k9 (by omega) (by omega) i hi
    refine lv_aload_n hx hb dX10_order_119 rfl (lv_at hl 2 rfl) ?_
    refine x_new (tA k9) cx hk hW hA (hnone 0 (by decide)) nw_RX10_136 (by decide) (by decide) dX10_order_120 (fun lo1 H hlo1 hW => ?_)
    have e0 : lo1 0 = lo 0 := hlo1 0 (by unfold tA; omega)
    have e5 : lo1 (tT t1) = lo (tT t1) := hlo1 _ (by unfold tT tA; omega)
    rw [← e0] at hl ⊢
    rw [← e5] at hl
    refine lv_dup hx hb dX10_order_123 rfl ?_
    refine lv_aload hx hb dX10_order_124 (lv_at hl 1 rfl) ?_
    refine lv_iload_n hx hb dX10_order_126 rfl (lv_at hl 5 rfl) ?_
    refine lv_iload hx hb dX10_order_127 (lv_at hl 6 rfl) ?_
    refine lv_iload hx hb dX10_order_129 (lv_at hl 7 rfl) ?_
    refine y_wrI (t := tA k9) (av := [.ref (lo1 (tT t1)), .int (a), .int (b), .int (c)]) (rest := [.ref (lo1 (tA k9)), .ref (lo1 0)]) cx hk hW hA ci_RX10_138 (k_leaf1 (tA k9) (tT t1) (bA (addA S (t1, newA 4 (s_many b c) (s_own a b c) (s_own a b c) 0 0 0 a b c)) k9) a b c (s_own a b c) (va_up_self _ _ _) (fun i h1 h2 => (va_up_ne _ _ (by omega)).trans (hnone i h2)) (by unfold tT tA; omega) hown (by rw [hA9]; rfl) (by rw [hA9]; rfl) (by rw [hA9]; rfl) (by rw [hA9]; exact row_by hT4 h22 rfl rfl)) hl.1 rfl rfl (Nat.le_of_ble_eq_true rfl) ⟨by decide, by decide⟩ ⟨by decide, by decide⟩ dX10_order_131 (fun v_ lo2 co2 H locs hq_ hW => ?_)
    obtain ⟨hv_, hO, ⟨hc2, hb2⟩, -⟩ := hq_
    subst hv_
    have f0 : lo2 0 = lo1 0 := (hc2 0 (by unfold tA; omega)).2
    have fl : ∀ i, (i < tA k9 ∨ tA k9 + 2 ≤ i) → lo2 i = lo i := fun i h => (hc2 i h).2.trans (hlo1 i (by omega))
    have fc : ∀ i, (i < tA k9 ∨ tA k9 + 2 ≤ i) → co2 i = co i := fun i h => (hc2 i h).1.trans (va_up_ne _ _ (by omega))
    show W _ _ _ _ _ _ _ _ _ _ _ _ _ _ _ (F0 _ _ _ [.ref (lo1 (tA k9)), .ref (lo1 0)])
    rw [← f0, ← hb2]
    have hcd : co2 0 = some (.inr (9, [.ref (lo 1), .ref (lo 2), .ref (lo 4), .ref (lo 6)])) := (fc 0 (by unfold tA; omega)).trans hd.1
    refine z_wrV (t := 0) (av := [.ref (lo2 (tA k9))]) (rest := []) hZ cx hk hW hA hcd cv_RX10_127_9 (dw_enlist dd S X k9 (t1, newA 4 (s_many b c) (s_own a b c) (s_own a b c) 0 0 0 a b c) hd hS hk0 (by omega) ht1 h14 (Or.inl ⟨by rw [hA9]; rfl, hO⟩) fl fc) hl.1 rfl rfl (Nat.le_of_ble_eq_true rfl) ⟨by decide, by decide⟩ ⟨by decide, by decide⟩ dX10_order_134 (fun v_ lo3 co3 H locs hq_ hW => ?_)
    obtain ⟨hv_, g0, hdk⟩ := hq_
    subst hv_
    refine y_iret cx hW hr hlk ⟨by decide, by decide⟩ dX10_order_137 ?_
    rw [← hpo, eP]
    exact ⟨rfl, g0.trans (f0.trans e0), X, hdk⟩
  refine lv_iload_n hx hb dX10_order_68 rfl (lv_at hl 4 rfl) ?_
  refine lv_iconst (v := nI 1) hx hb dX10_order_69 rfl ?_
  refine lv_icmp_ne (tgt := 114) hx hb dX10_order_70 (by decide) (fun h70 => ?_) (fun h70 => ?_)
  · exact k114 (fun z => h70 z.1)
  refine lv_aload hx hb dX10_order_73 (lv_at hl 1 rfl) ?_
  refine lv_iload hx hb dX10_order_75 (lv_at hl 8 rfl) ?_
  refine x_rdV (av := [.int (w)]) (rest := []) cx hk hw htt.1 cv_RX10_79_8 (c_t_hall (tT t1) (sT S t1) htt w) hl.1 rfl rfl (Nat.le_of_ble_eq_true rfl) ⟨by decide, by decide⟩ ⟨Nat.zero_le _, Nat.zero_le _⟩ dX10_order_77 ?_
  have hall : t_hall (sT S t1) w = x_in (2 ^ (sT S t1).1 1) w := t_hall_x (by omega)
  refine x_if_eq (tgt := 114) cx dX10_order_80 (by decide) (fun h80 => ?_) (fun h80 => ?_)
  · exact k114 (fun z => by have := z.2.1; rw [← hall, h80] at this; cases this)
  refine lv_iload hx hb dX10_order_83 (lv_at hl 8 rfl) ?_
  refine lv_iload hx hb dX10_order_85 (lv_at hl 0 rfl) ?_
  refine lv_iconst (v := -1) hx hb dX10_order_87 rfl ?_
  refine lv_ixor hx hb dX10_order_88 ?_
  refine lv_iand hx hb dX10_order_89 ?_
  refine lv_if_eq (tgt := 114) hx hb dX10_order_90 (by decide) (fun h90 => ?_) (fun h90 => ?_)
  · exact k114 (fun z => z.2.2 h90)
  obtain ⟨w1, hw1, hw1e⟩ := x_in_ex (n := 2 ^ (sT S t1).1 1) (Nat.lt_of_le_of_lt (Nat.pow_le_pow_right (by decide) hT4) (by decide)) (hall.symm.trans h80)
  have hwor : nI (s_own a b c) ||| w = nI (w.toNatClampNeg ||| s_own a b c) := by
    rw [hw1e, nI_clamp (Nat.lt_trans hw1 (Nat.lt_of_le_of_lt (Nat.pow_le_pow_right (by decide) hT4) (by decide))), nI_or, Nat.or_comm]
  have eP : P_order S t k a b c w = (nI k9, addA S (t1, newA 1 (s_many b c) (w.toNatClampNeg ||| s_own a b c) (s_own a b c) 0 0 0 a b c)) := by
    unfold P_order
    rw [if_pos ⟨by omega, hc_t, by rw [ht4]; exact h22, Or.inr (Or.inr ⟨h70, by rw [ht4, ← hall]; exact h80, h90⟩)⟩, ht4, if_pos h70, hk0, h70]
    rfl
  have hA9 := bA_new (e := (t1, newA 1 (s_many b c) (w.toNatClampNeg ||| s_own a b c) (s_own a b c) 0 0 0 a b c)) hS hk0
  have hnone : ∀ i, i < 2 → co (tA k9 + i) = none := fun i hi => hd.2.2.2.2.2.2.2.2.2.2 k9 (by omega) (by omega) i hi
  refine lv_aload_n hx hb dX10_order_93 rfl (lv_at hl 2 rfl) ?_
  refine x_new (tA k9) cx hk hW hA (hnone 0 (by decide)) nw_RX10_131 (by decide) (by decide) dX10_order_94 (fun lo1 H hlo1 hW => ?_)
  have e0 : lo1 0 = lo 0 := hlo1 0 (by unfold tA; omega)
  have e5 : lo1 (tT t1) = lo (tT t1) := hlo1 _ (by unfold tT tA; omega)
  rw [← e0] at hl ⊢
  rw [← e5] at hl
  refine lv_dup hx hb dX10_order_97 rfl ?_
  refine lv_aload hx hb dX10_order_98 (lv_at hl 1 rfl) ?_
  refine lv_iload_n hx hb dX10_order_100 rfl (lv_at hl 5 rfl) ?_
  refine lv_iload hx hb dX10_order_101 (lv_at hl 6 rfl) ?_
  refine lv_iload hx hb dX10_order_103 (lv_at hl 7 rfl) ?_
  refine lv_iload hx hb dX10_order_105 (lv_at hl 8 rfl) ?_
  refine y_wrI (t := tA k9) (av := [.ref (lo1 (tT t1)), .int (a), .int (b), .int (c), .int (w)]) (rest := [.ref (lo1 (tA k9)), .ref (lo1 0)]) cx hk hW hA ci_RX10_133 (k_leaf2 (tA k9) (tT t1) (bA (addA S (t1, newA 1 (s_many b c) (w.toNatClampNeg ||| s_own a b c) (s_own a b c) 0 0 0 a b c)) k9) a b c w (s_own a b c) (va_up_self _ _ _) (fun i h1 h2 => (va_up_ne _ _ (by omega)).trans (hnone i h2)) (by unfold tT tA; omega) hown (by rw [hA9]; exact hwor) (by rw [hA9]; rfl) (by rw [hA9]; rfl) (by rw [hA9]; rfl) (by rw [hA9]; exact row_by hT4 h22 rfl rfl)) hl.1 rfl rfl (Nat.le_of_ble_eq_true rfl) ⟨by decide, by decide⟩ ⟨by decide, by decide⟩ dX10_order_107 (fun v_ lo2 co2 H locs hq_ hW => ?_)
  obtain ⟨hv_, hO, ⟨hc2, hb2⟩, -⟩ := hq_
  subst hv_
  have f0 : lo2 0 = lo1 0 := (hc2 0 (by unfold tA; omega)).2
  have fl : ∀ i, (i < tA k9 ∨ tA k9 + 2 ≤ i) → lo2 i = lo i := fun i h => (hc2 i h).2.trans (hlo1 i (by omega))
  have fc : ∀ i, (i < tA k9 ∨ tA k9 + 2 ≤ i) → co2 i = co i := fun i h => (hc2 i h).1.trans (va_up_ne _ _ (by omega))
  show W _ _ _ _ _ _ _ _ _ _ _ _ _ _ _ (F0 _ _ _ [.ref (lo1 (tA k9)), .ref (lo1 0)])
  rw [← f0, ← hb2]
  have hcd : co2 0 = some (.inr (9, [.ref (lo 1), .ref (lo 2), .ref (lo 4), .ref (lo 6)])) := (fc 0 (by unfold tA; omega)).trans hd.1
  refine z_wrV (t := 0) (av := [.ref (lo2 (tA k9))]) (rest := []) hZ cx hk hW hA hcd cv_RX10_127_9 (dw_enlist dd S X k9 (t1, newA 1 (s_many b c) (w.toNatClampNeg ||| s_own a b c) (s_own a b c) 0 0 0 a b c) hd hS hk0 (by omega) ht1 h14 (Or.inr (Or.inl ⟨by rw [hA9]; rfl, hO⟩)) fl fc) hl.1 rfl rfl (Nat.le_of_ble_eq_true rfl) ⟨by decide, by decide⟩ ⟨by decide, by decide⟩ dX10_order_110 (fun v_ lo3 co3 H locs hq_ hW => ?_)
  obtain ⟨hv_, g0, hdk⟩ := hq_
  subst hv_
  refine y_iret cx hW hr hlk ⟨by decide, by decide⟩ dX10_order_113 ?_
  rw [← hpo, eP]
  exact ⟨rfl, g0.trans (f0.trans e0), X, hdk⟩
set_option maxHeartbeats 8000000 in
theorem dw_part {l : Launch} {mi : Nat} {G : x_G} {lo : x_L} {co : x_C} (dd : Nat) (S : St) (X : Sc) (hd : isDk G lo co dd S X) (hS : Sok S) (t a b c f u : Int32) : z_Wr l dd mi G lo (co) yX10_part cX10_part 8 (some .int) 8 3 71 [.ref (lo (0)), .int (t), .int (a), .int (b), .int (c), .int (f), .int (u)] (fun (v : Option Value) (lo1 : x_L) (co1 : x_C) => v = some (.int (P_part S t a b c f u).1) ∧ lo1 0 = lo 0 ∧ ∃ X1, isDk G lo1 co1 dd (P_part S t a b c f u).2 X1) := by
  refine z_wenter RX10 rfl (by decide) (Nat.le_of_ble_eq_true rfl) ?_
  intro pp ee ss mm bb mt cd ls AA cx hk hZ hW hA hr hlk hnm hl
  have hl : lv_has ls 8 [(0, .ref (lo (0))), (1, .int (t)), (2, .int (a)), (3, .int (b)), (4, .int (c)), (5, .int (f)), (6, .int (u))] := hl
  generalize hav : ([.ref (lo (0)), .int (t), .int (a), .int (b), .int (c), .int (f), .int (u)] : List Value).toArray = av at cx ⊢
  generalize hpo : (fun (v : Option Value) (lo1 : x_L) (co1 : x_C) => v = some (.int (P_part S t a b c f u).1) ∧ lo1 0 = lo 0 ∧ ∃ X1, isDk G lo1 co1 dd (P_part S t a b c f u).2 X1) = po
  have hx := cx.1
  have hb := cx.2.1
  have hW := hW.drop 14
  have h14 : va_up co 14 none 14 = none := va_up_self _ _ _
  have hd := dk_free hd hS
  generalize va_up co 14 none = co at hW h14 hd
  have hw := hW.1
  have hj : x_J lo co := hW.2.1.1
  obtain ⟨s1, s2, s3, s4, s5, s6⟩ := id hS
  have bad : P_part S t a b c f u = (-1, S) → ∀ x : Int32, x = -1 → po (some (.int x)) lo co := fun e x hxx => by
    rw [← hpo, e, hxx]; exact ⟨rfl, rfl, X, hd⟩
  refine lv_aload_n hx hb dX10_part_0 rfl (lv_at hl 0 rfl) ?_
  refine lv_iload_n hx hb dX10_part_1 rfl (lv_at hl 1 rfl) ?_
  refine x_rdV (av := [.int (t)]) (rest := []) cx hk hw (hd.1) cv_RX10_113_9 (d_tableForAid dd S X hd hj hS t) hl.1 rfl rfl (Nat.le_of_ble_eq_true rfl) ⟨by decide, by decide⟩ ⟨Nat.zero_le _, Nat.zero_le _⟩ dX10_part_2 ?_
  by_cases hc_t : sn S 1 < 12 ∧ m_isT S t = true
  case neg =>
    rw [d_tfa_0 hc_t]
    refine lv_astoreN (lv' := [(7, .null), (0, .ref (lo (0))), (1, .int (t)), (2, .int (a)), (3, .int (b)), (4, .int (c)), (5, .int (f)), (6, .int (u))]) hx hb dX10_part_5 hl (by decide) rfl (fun ls hl => ?_)
    refine lv_aloadN hx hb dX10_part_7 (lv_at hl 0 rfl) ?_
    refine lv_ifnullN (tgt := 23) hx hb dX10_part_9 (by decide) ?_
    refine lv_iconst (v := -1) hx hb dX10_part_23 rfl ?_
    exact y_iret cx hW hr hlk ⟨by decide, by decide⟩ dX10_part_24 (bad (by unfold P_part; rw [if_neg (fun z => hc_t ⟨by omega, z.2.1⟩)]) _ rfl)
  obtain ⟨hn12, hc_t⟩ := hc_t
  obtain ⟨t1, ht1, ht2, ht3⟩ := m_isT_ex hc_t
  have hTt := (s1 _ ht1).1 ht2
  have hT4 := hTt.2.1
  have htt := hd.T ht1 ht2
  have ht4 : t.toNatClampNeg = t1 := by rw [ht3, nI_clamp (by omega)]
  rw [d_tfa_1 hn12 hc_t ht3 ht1]
  refine lv_astore (lv' := [(7, .ref (lo (tT t1))), (0, .ref (lo (0))), (1, .int (t)), (2, .int (a)), (3, .int (b)), (4, .int (c)), (5, .int (f)), (6, .int (u))]) hx hb dX10_part_5 hl (by decide) rfl (fun ls hl => ?_)
  refine lv_aload hx hb dX10_part_7 (lv_at hl 0 rfl) ?_
  refine lv_ifnull hx hb dX10_part_9 ?_
  refine lv_aload hx hb dX10_part_12 (lv_at hl 0 rfl) ?_
  refine lv_iload_n hx hb dX10_part_14 rfl (lv_at hl 3 rfl) ?_
  refine lv_iload_n hx hb dX10_part_15 rfl (lv_at hl 4 rfl) ?_
  refine lv_iconst (v := -1) hx hb dX10_part_16 rfl ?_
  refine x_rdS (av := [.ref (lo (tT t1)), .int (a), .int (b), .int (-1)]) (rest := []) cx hk hw cs_RX10_116 (d_canOrder (tT t1) (sT S t1) htt a b (-1)) hl.1 rfl rfl (Nat.le_of_ble_eq_true rfl) ⟨by decide, by decide⟩ ⟨Nat.zero_le _, Nat.zero_le _⟩ dX10_part_17 ?_
  refine x_if_ne (tgt := 25) cx dX10_part_20 (by decide) (fun h20 => ?_) (fun h20 => ?_)
  case refine_2 =>
    refine lv_iconst (v := -1) hx hb dX10_part_23 rfl ?_
    exact y_iret cx hW hr hlk ⟨by decide, by decide⟩ dX10_part_24 (bad (by unfold P_part; rw [if_neg (fun z => by have := z.2.2.1; rw [ht4, h20] at this; cases this)]) _ rfl)
  refine lv_aload hx hb dX10_part_25 (lv_at hl 0 rfl) ?_
  refine lv_iload hx hb dX10_part_27 (lv_at hl 5 rfl) ?_
  refine x_rdV (av := [.int (c)]) (rest := []) cx hk hw htt.1 cv_RX10_103_8 (c_t_has (tT t1) (sT S t1) htt c) hl.1 rfl rfl (Nat.le_of_ble_eq_true rfl) ⟨by decide, by decide⟩ ⟨Nat.zero_le _, Nat.zero_le _⟩ dX10_part_29 ?_
  refine x_if_eq (tgt := 45) cx dX10_part_32 (by decide) (fun h32 => ?_) (fun h32 => ?_)
  · refine lv_iconst (v := -1) hx hb dX10_part_45 rfl ?_
    exact y_iret cx hW hr hlk ⟨by decide, by decide⟩ dX10_part_46 (bad (by unfold P_part; rw [if_neg (fun z => by have := z.2.2.2.1; rw [ht4, h32] at this; cases this)]) _ rfl)
  refine lv_iload hx hb dX10_part_35 (lv_at hl 6 rfl) ?_
  refine lv_iload hx hb dX10_part_37 (lv_at hl 7 rfl) ?_
  refine x_rdS (av := [.int (f), .int (u)]) (rest := []) cx hk hw cs_RX10_106 (c_rng f u) hl.1 rfl rfl (Nat.le_of_ble_eq_true rfl) ⟨by decide, by decide⟩ ⟨Nat.zero_le _, Nat.zero_le _⟩ dX10_part_39 ?_
  refine x_if_ne (tgt := 47) cx dX10_part_42 (by decide) (fun h42 => ?_) (fun h42 => ?_)
  case refine_2 =>
    refine lv_iconst (v := -1) hx hb dX10_part_45 rfl ?_
    exact y_iret cx hW hr hlk ⟨by decide, by decide⟩ dX10_part_46 (bad (by unfold P_part; rw [if_neg (fun z => by have := z.2.2.2.2; rw [h42] at this; cases this)]) _ rfl)
  generalize hk0 : sn S 1 = k9 at hn12
  have hown := s_bit_own hT4 h20
  obtain ⟨c1, hc1, hc1e⟩ := t_has_ex hT4 h32
  have hrg := h42
  rw [rng_eq, Bool.and_eq_true] at hrg
  obtain ⟨f1, hf1b, -, hf1e⟩ := nI_tc (x := f) (a := 0) (b := 999) (by decide) (by decide) hrg.1
  obtain ⟨u1, hu1b, -, hu1e⟩ := nI_tc (x := u) (a := f1) (b := 999) (by omega) (by decide) (by rw [← hf1e]; exact hrg.2)
  have eP : P_part S t a b c f u = (nI k9, addA S (t1, newA 2 (s_many b (-1)) 0 (s_own a b (-1)) c1 f1 u1 a b (-1))) := by
    unfold P_part
    rw [if_pos ⟨by omega, hc_t, by rw [ht4]; exact h20, by rw [ht4]; exact h32, h42⟩, ht4, hk0, hc1e, hf1e, hu1e, nI_clamp (by omega), nI_clamp (by omega), nI_clamp (by omega)]
  rw [hc1e, hf1e, hu1e] at hl
  have hA9 := bA_new (e := (t1, newA 2 (s_many b (-1)) 0 (s_own a b (-1)) c1 f1 u1 a b (-1))) hS hk0
  have hnone : ∀ i, i < 2 → co (tA k9 + i) = none := fun i hi => hd.2.2.2.2.2.2.2.2.2.2 k9 (by omega) (by omega) i hi
  refine lv_aload_n hx hb dX10_part_47 rfl (lv_at hl 1 rfl) ?_
  refine x_new (tA k9) cx hk hW hA (hnone 0 (by decide)) nw_RX10_139 (by decide) (by decide) dX10_part_48 (fun lo1 H hlo1 hW => ?_)
  have e0 : lo1 0 = lo 0 := hlo1 0 (by unfold tA; omega)
  have e5 : lo1 (tT t1) = lo (tT t1) := hlo1 _ (by unfold tT tA; omega)
  rw [← e0] at hl ⊢
  rw [← e5] at hl
  refine lv_dup hx hb dX10_part_51 rfl ?_
  refine lv_aload hx hb dX10_part_52 (lv_at hl 0 rfl) ?_
  refine lv_iload_n hx hb dX10_part_54 rfl (lv_at hl 3 rfl) ?_
  refine lv_iload_n hx hb dX10_part_55 rfl (lv_at hl 4 rfl) ?_
  refine lv_iload hx hb dX10_part_56 (lv_at hl 5 rfl) ?_
  refine lv_iload hx hb dX10_part_58 (lv_at hl 6 rfl) ?_
  refine lv_iload hx hb dX10_part_60 (lv_at hl 7 rfl) ?_
  refine y_wrI (t := tA k9) (av := [.ref (lo1 (tT t1)), .int (a), .int (b), .int (nI c1), .int (nI f1), .int (nI u1)]) (rest := [.ref (lo1 (tA k9)), .ref (lo1 0)]) cx hk hW hA ci_RX10_141 (k_leaf4 (tA k9) (tT t1) (bA (addA S (t1, newA 2 (s_many b (-1)) 0 (s_own a b (-1)) c1 f1 u1 a b (-1))) k9) a b c1 f1 u1 (s_own a b (-1)) (va_up_self _ _ _) (fun i h1 h2 => (va_up_ne _ _ (by omega)).trans (hnone i h2)) (by unfold tT tA; omega) hown (by rw [hA9]; rfl) (by rw [hA9]; rfl) (by rw [hA9]; rfl) (by rw [hA9]; rfl) (by rw [hA9]; rfl) (by rw [hA9]; rfl) (by rw [hA9]; exact row_by hT4 h20 rfl rfl)) hl.1 rfl rfl (Nat.le_of_ble_eq_true rfl) ⟨by decide, by decide⟩ ⟨by decide, by decide⟩ dX10_part_62 (fun v_ lo2 co2 H locs hq_ hW => ?_)
  obtain ⟨hv_, hO, ⟨hc2, hb2⟩, -⟩ := hq_
  subst hv_
  have f0 : lo2 0 = lo1 0 := (hc2 0 (by unfold tA; omega)).2
  have fl : ∀ i, (i < tA k9 ∨ tA k9 + 2 ≤ i) → lo2 i = lo i := fun i h => (hc2 i h).2.trans (hlo1 i (by omega))
  have fc : ∀ i, (i < tA k9 ∨ tA k9 + 2 ≤ i) → co2 i = co i := fun i h => (hc2 i h).1.trans (va_up_ne _ _ (by omega))
  show W _ _ _ _ _ _ _ _ _ _ _ _ _ _ _ (F0 _ _ _ [.ref (lo1 (tA k9)), .ref (lo1 0)])
  rw [← f0, ← hb2]
  have hcd : co2 0 = some (.inr (9, [.ref (lo 1), .ref (lo 2), .ref (lo 4), .ref (lo 6)])) := (fc 0 (by unfold tA; omega)).trans hd.1
  refine z_wrV (t := 0) (av := [.ref (lo2 (tA k9))]) (rest := []) hZ cx hk hW hA hcd cv_RX10_127_9 (dw_enlist dd S X k9 (t1, newA 2 (s_many b (-1)) 0 (s_own a b (-1)) c1 f1 u1 a b (-1)) hd hS hk0 (by omega) ht1 h14 (Or.inr (Or.inr (Or.inr (Or.inl ⟨by rw [hA9]; rfl, hO⟩)))) fl fc) hl.1 rfl rfl (Nat.le_of_ble_eq_true rfl) ⟨by decide, by decide⟩ ⟨by decide, by decide⟩ dX10_part_65 (fun v_ lo3 co3 H locs hq_ hW => ?_)
  obtain ⟨hv_, g0, hdk⟩ := hq_
  subst hv_
  refine y_iret cx hW hr hlk ⟨by decide, by decide⟩ dX10_part_68 ?_
  rw [← hpo, eP]
  exact ⟨rfl, g0.trans (f0.trans e0), X, hdk⟩
set_option maxHeartbeats 8000000 in
theorem dw_sums {l : Launch} {mi : Nat} {G : x_G} {lo : x_L} {co : x_C} (dd : Nat) (S : St) (X : Sc) (hd : isDk G lo co dd S X) (hS : Sok S) (t s c : Int32) : z_Wr l dd mi G lo (co) yX10_sums cX10_sums 5 (some .int) 8 3 71 [.ref (lo (0)), .int (t), .int (s), .int (c)] (fun (v : Option Value) (lo1 : x_L) (co1 : x_C) => v = some (.int (P_sums S t s c).1) ∧ lo1 0 = lo 0 ∧ ∃ X1, isDk G lo1 co1 dd (P_sums S t s c).2 X1) := by
  refine z_wenter RX10 rfl (by decide) (Nat.le_of_ble_eq_true rfl) ?_
  intro pp ee ss mm bb mt cd ls AA cx hk hZ hW hA hr hlk hnm hl
  have hl : lv_has ls 5 [(0, .ref (lo (0))), (1, .int (t)), (2, .int (s)), (3, .int (c))] := hl
  generalize hav : ([.ref (lo (0)), .int (t), .int (s), .int (c)] : List Value).toArray = av at cx ⊢
  generalize hpo : (fun (v : Option Value) (lo1 : x_L) (co1 : x_C) => v = some (.int (P_sums S t s c).1) ∧ lo1 0 = lo 0 ∧ ∃ X1, isDk G lo1 co1 dd (P_sums S t s c).2 X1) = po
  have hx := cx.1
  have hb := cx.2.1
  have hW := hW.drop 14
  have h14 : va_up co 14 none 14 = none := va_up_self _ _ _
  have hd := dk_free hd hS
  generalize va_up co 14 none = co at hW h14 hd
  have hw := hW.1
  have hj : x_J lo co := hW.2.1.1
  obtain ⟨s1, s2, s3, s4, s5, s6⟩ := id hS
  have bad : P_sums S t s c = (-1, S) → ∀ x : Int32, x = -1 → po (some (.int x)) lo co := fun e x hxx => by
    rw [← hpo, e, hxx]; exact ⟨rfl, rfl, X, hd⟩
  refine lv_aload_n hx hb dX10_sums_0 rfl (lv_at hl 0 rfl) ?_
  refine lv_iload_n hx hb dX10_sums_1 rfl (lv_at hl 1 rfl) ?_
  refine x_rdV (av := [.int (t)]) (rest := []) cx hk hw (hd.1) cv_RX10_113_9 (d_tableForAid dd S X hd hj hS t) hl.1 rfl rfl (Nat.le_of_ble_eq_true rfl) ⟨by decide, by decide⟩ ⟨Nat.zero_le _, Nat.zero_le _⟩ dX10_sums_2 ?_
  by_cases hc_t : sn S 1 < 12 ∧ m_isT S t = true
  case neg =>
    rw [d_tfa_0 hc_t]
    refine lv_astoreN (lv' := [(4, .null), (0, .ref (lo (0))), (1, .int (t)), (2, .int (s)), (3, .int (c))]) hx hb dX10_sums_5 hl (by decide) rfl (fun ls hl => ?_)
    refine lv_aloadN hx hb dX10_sums_7 (lv_at hl 0 rfl) ?_
    refine lv_ifnullN (tgt := 30) hx hb dX10_sums_9 (by decide) ?_
    refine lv_iconst (v := -1) hx hb dX10_sums_30 rfl ?_
    exact y_iret cx hW hr hlk ⟨by decide, by decide⟩ dX10_sums_31 (bad (by unfold P_sums; rw [if_neg (fun z => hc_t ⟨by omega, z.2.1⟩)]) _ rfl)
  obtain ⟨hn12, hc_t⟩ := hc_t
  obtain ⟨t1, ht1, ht2, ht3⟩ := m_isT_ex hc_t
  have hTt := (s1 _ ht1).1 ht2
  have hT4 := hTt.2.1
  have htt := hd.T ht1 ht2
  have ht4 : t.toNatClampNeg = t1 := by rw [ht3, nI_clamp (by omega)]
  rw [d_tfa_1 hn12 hc_t ht3 ht1]
  refine lv_astore (lv' := [(4, .ref (lo (tT t1))), (0, .ref (lo (0))), (1, .int (t)), (2, .int (s)), (3, .int (c))]) hx hb dX10_sums_5 hl (by decide) rfl (fun ls hl => ?_)
  refine lv_aload hx hb dX10_sums_7 (lv_at hl 0 rfl) ?_
  refine lv_ifnull hx hb dX10_sums_9 ?_
  refine lv_aload hx hb dX10_sums_12 (lv_at hl 0 rfl) ?_
  refine lv_iload_n hx hb dX10_sums_14 rfl (lv_at hl 3 rfl) ?_
  refine x_rdV (av := [.int (s)]) (rest := []) cx hk hw htt.1 cv_RX10_79_8 (c_t_hall (tT t1) (sT S t1) htt s) hl.1 rfl rfl (Nat.le_of_ble_eq_true rfl) ⟨by decide, by decide⟩ ⟨Nat.zero_le _, Nat.zero_le _⟩ dX10_sums_15 ?_
  have hall : t_hall (sT S t1) s = x_in (2 ^ (sT S t1).1 1) s := t_hall_x (by omega)
  refine x_if_eq (tgt := 30) cx dX10_sums_18 (by decide) (fun h18 => ?_) (fun h18 => ?_)
  · refine lv_iconst (v := -1) hx hb dX10_sums_30 rfl ?_
    exact y_iret cx hW hr hlk ⟨by decide, by decide⟩ dX10_sums_31 (bad (by unfold P_sums; rw [if_neg (fun z => by have := z.2.2.2.1; rw [ht4, ← hall, h18] at this; cases this)]) _ rfl)
  refine lv_aload hx hb dX10_sums_21 (lv_at hl 0 rfl) ?_
  refine lv_iload_n hx hb dX10_sums_23 rfl (lv_at hl 4 rfl) ?_
  refine x_rdV (av := [.int (c)]) (rest := []) cx hk hw htt.1 cv_RX10_103_8 (c_t_has (tT t1) (sT S t1) htt c) hl.1 rfl rfl (Nat.le_of_ble_eq_true rfl) ⟨by decide, by decide⟩ ⟨Nat.zero_le _, Nat.zero_le _⟩ dX10_sums_24 ?_
  refine x_if_ne (tgt := 32) cx dX10_sums_27 (by decide) (fun h27 => ?_) (fun h27 => ?_)
  case refine_2 =>
    refine lv_iconst (v := -1) hx hb dX10_sums_30 rfl ?_
    exact y_iret cx hW hr hlk ⟨by decide, by decide⟩ dX10_sums_31 (bad (by unfold P_sums; rw [if_neg (fun z => by have := z.2.2.1; rw [ht4, h27] at this; cases this)]) _ rfl)
  obtain ⟨w1, hw1, hw1e⟩ := x_in_ex (n := 2 ^ (sT S t1).1 1) (Nat.lt_of_le_of_lt (Nat.pow_le_pow_right (by decide) hT4) (by decide)) (hall.symm.trans h18)
  have hw16 : w1 < 16 := Nat.lt_of_lt_of_le hw1 (Nat.pow_le_pow_right (by decide) hT4)
  have hs4 : s.toNatClampNeg = w1 := by rw [hw1e, nI_clamp (by omega)]
  obtain ⟨c1, hc1, hc1e⟩ := t_has_ex hT4 h27
  rw [hw1e, hc1e] at hl
  have hp5 := pop_le w1
  refine lv_iload_n hx hb dX10_sums_32 rfl (lv_at hl 3 rfl) ?_
  refine x_rdS (av := [.int (nI w1)]) (rest := []) cx hk hw cs_RX10_144 (c_bitCount w1 (by omega)) hl.1 rfl rfl (Nat.le_of_ble_eq_true rfl) ⟨by decide, by decide⟩ ⟨Nat.zero_le _, Nat.zero_le _⟩ dX10_sums_33 ?_
  refine lv_iconst (v := nI 1) hx hb dX10_sums_36 rfl ?_
  refine lv_iconst (v := nI 2) hx hb dX10_sums_37 rfl ?_
  refine x_rdS (av := [.int (nI (pop w1)), .int (nI 1), .int (nI 2)]) (rest := []) cx hk hw cs_RX10_32 (c_btw (nI (pop w1)) (nI 1) (nI 2)) hl.1 rfl rfl (Nat.le_of_ble_eq_true rfl) ⟨by decide, by decide⟩ ⟨Nat.zero_le _, Nat.zero_le _⟩ dX10_sums_38 ?_
  have hbp : s_btw (nI (pop w1)) (nI 1) (nI 2) = (decide (1 ≤ pop w1) && decide (pop w1 ≤ 2)) := s_btw_nI (by omega) (by decide) (by decide)
  refine x_if_eq (tgt := 62) cx dX10_sums_41 (by decide) (fun h41 => ?_) (fun h41 => ?_)
  · refine lv_iconst (v := -1) hx hb dX10_sums_62 rfl ?_
    exact y_iret cx hW hr hlk ⟨by decide, by decide⟩ dX10_sums_63 (bad (by unfold P_sums; rw [if_neg (fun z => by have h5 := z.2.2.2.2; rw [hs4] at h5; rw [hbp, decide_eq_true h5.1, decide_eq_true h5.2] at h41; cases h41)]) _ rfl)
  rw [hbp, Bool.and_eq_true] at h41
  generalize hk0 : sn S 1 = k9 at hn12
  have eP : P_sums S t s c = (nI k9, addA S (t1, newA 3 0 w1 0 c1 0 0 (-1) (-1) (-1))) := by
    unfold P_sums
    rw [if_pos ⟨by omega, hc_t, by rw [ht4]; exact h27, by rw [ht4, ← hall]; exact h18, by rw [hs4]; exact of_decide_eq_true h41.1, by rw [hs4]; exact of_decide_eq_true h41.2⟩, ht4, hk0, hs4, hc1e, nI_clamp (by omega)]
  have hA9 := bA_new (e := (t1, newA 3 0 w1 0 c1 0 0 (-1) (-1) (-1))) hS hk0
  have hnone : ∀ i, i < 2 → co (tA k9 + i) = none := fun i hi => hd.2.2.2.2.2.2.2.2.2.2 k9 (by omega) (by omega) i hi
  refine lv_aload_n hx hb dX10_sums_44 rfl (lv_at hl 1 rfl) ?_
  refine x_new (tA k9) cx hk hW hA (hnone 0 (by decide)) nw_RX10_149 (by decide) (by decide) dX10_sums_45 (fun lo1 H hlo1 hW => ?_)
  have e0 : lo1 0 = lo 0 := hlo1 0 (by unfold tA; omega)
  have e5 : lo1 (tT t1) = lo (tT t1) := hlo1 _ (by unfold tT tA; omega)
  rw [← e0] at hl ⊢
  rw [← e5] at hl
  refine lv_dup hx hb dX10_sums_48 rfl ?_
  refine lv_aload hx hb dX10_sums_49 (lv_at hl 0 rfl) ?_
  refine lv_iload_n hx hb dX10_sums_51 rfl (lv_at hl 3 rfl) ?_
  refine lv_iload_n hx hb dX10_sums_52 rfl (lv_at hl 4 rfl) ?_
  refine y_wrI (t := tA k9) (av := [.ref (lo1 (tT t1)), .int (nI w1), .int (nI c1)]) (rest := [.ref (lo1 (tA k9)), .ref (lo1 0)]) cx hk hW hA ci_RX10_151 (k_leaf7 (tA k9) (tT t1) (bA (addA S (t1, newA 3 0 w1 0 c1 0 0 (-1) (-1) (-1))) k9) w1 c1 (va_up_self _ _ _) (by rw [hA9]; rfl) (by rw [hA9]; rfl) (by rw [hA9]; rfl) (by rw [hA9]; rfl)) hl.1 rfl rfl (Nat.le_of_ble_eq_true rfl) ⟨by decide, by decide⟩ ⟨by decide, by decide⟩ dX10_sums_53 (fun v_ lo2 co2 H locs hq_ hW => ?_)
  obtain ⟨hv_, hlo2, hO, hc2⟩ := hq_
  subst hv_
  have f0 : lo2 0 = lo1 0 := by rw [hlo2]
  have hb2 : lo2 (tA k9) = lo1 (tA k9) := by rw [hlo2]
  have fl : ∀ i, (i < tA k9 ∨ tA k9 + 2 ≤ i) → lo2 i = lo i := fun i h => by rw [hlo2]; exact hlo1 i (by omega)
  have fc : ∀ i, (i < tA k9 ∨ tA k9 + 2 ≤ i) → co2 i = co i := fun i h => (hc2 i (by omega)).trans (va_up_ne _ _ (by omega))
  show W _ _ _ _ _ _ _ _ _ _ _ _ _ _ _ (F0 _ _ _ [.ref (lo1 (tA k9)), .ref (lo1 0)])
  rw [← f0, ← hb2]
  have hcd : co2 0 = some (.inr (9, [.ref (lo 1), .ref (lo 2), .ref (lo 4), .ref (lo 6)])) := (fc 0 (by unfold tA; omega)).trans hd.1
  refine z_wrV (t := 0) (av := [.ref (lo2 (tA k9))]) (rest := []) hZ cx hk hW hA hcd cv_RX10_127_9 (dw_enlist dd S X k9 (t1, newA 3 0 w1 0 c1 0 0 (-1) (-1) (-1)) hd hS hk0 (by omega) ht1 h14 (Or.inr (Or.inr (Or.inr (Or.inr ⟨by rw [hA9]; rfl, hO⟩)))) fl fc) hl.1 rfl rfl (Nat.le_of_ble_eq_true rfl) ⟨by decide, by decide⟩ ⟨by decide, by decide⟩ dX10_sums_56 (fun v_ lo3 co3 H locs hq_ hW => ?_)
  obtain ⟨hv_, g0, hdk⟩ := hq_
  subst hv_
  refine lv_goto (tgt := 63) hx hb dX10_sums_59 (by decide) ?_
  refine y_iret cx hW hr hlk ⟨by decide, by decide⟩ dX10_sums_63 ?_
  rw [← hpo, eP]
  exact ⟨rfl, g0.trans (f0.trans e0), X, hdk⟩
