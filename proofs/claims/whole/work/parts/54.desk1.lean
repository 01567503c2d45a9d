set_option maxHeartbeats 4000000 in
set_option maxRecDepth 100000 in
theorem d_tableAt {l : Launch} {G : x_G} {lo : x_L} {co : x_C} (dd : Nat) (S : St) (X : Sc) (hd : isDk G lo co dd S X) (hj : x_J lo co) (hS : Sok S) (t : Int32) : x_Rd l G lo co yX10_tableAt cX10_tableAt 2 (some (.object "IndexDesk$Table")) 2 [.ref (lo (0)), .int (t)] (some (va_rf (d_tab S lo t))) := by
  refine x_enter RX10 rfl (by decide) (Nat.le_of_ble_eq_true rfl) ?_
  intro pp ee ss mm bb mt cd ls cx hk hw hr hlk hl
  have hl : lv_has ls 2 [(0, .ref (lo (0))), (1, .int (t))] := hl
  generalize hav : ([.ref (lo (0)), .int (t)] : List Value).toArray = av at cx ⊢
  generalize hvv : (some (va_rf (d_tab S lo t)) : Option Value) = vv
  have hx := cx.1
  have hb := cx.2.1
  have hown := cx.2.2.2.1
  have hts := cx.2.2.2.2
  obtain ⟨s1, s2, s3, s4, s5, s6⟩ := id hS
  obtain ⟨ft, hf1, hft⟩ := hd.2.1
  obtain ⟨mcq, evq, hq0⟩ := hd.L2.obj
  obtain ⟨mca, eva, ha0⟩ := hd.L4.obj
  have hbt : s_btw t (nI 0) (nI 3) = x_in 4 t := s_btw_pos (n := 4) (by decide) (by decide)
  refine lv_iload_n hx hb dX10_tableAt_0 rfl (lv_at hl 1 rfl) ?_
  refine lv_iconst (v := nI 0) hx hb dX10_tableAt_1 rfl ?_
  refine lv_iconst (v := nI 3) hx hb dX10_tableAt_2 rfl ?_
  refine x_rdS (av := [.int (t), .int (nI 0), .int (nI 3)]) (rest := []) cx hk hw cs_RX10_32 (c_btw t (nI 0) (nI 3)) hl.1 rfl rfl (Nat.le_of_ble_eq_true rfl) ⟨by decide, by decide⟩ ⟨Nat.zero_le _, Nat.zero_le _⟩ dX10_tableAt_3 ?_
  refine x_if_eq (tgt := 18) cx dX10_tableAt_6 (by decide) (fun h6_1 => ?_) (fun h6_1 => ?_)
  · skip
    refine lv_null hx hb dX10_tableAt_18 ?_
    exact x_aret cx hr hlk (Or.inl rfl) dX10_tableAt_19 ((show (some (.null) : Option Value) = some (va_rf (d_tab S lo t)) from by first | (rw [d_tab, m_isT, show x_in 4 t = false from hbt.symm.trans (by assumption)]; rfl) | (rw [d_tab, m_isT, show x_in 4 t = true from hbt.symm.trans (by assumption), ht3, nI_clamp (by omega)]; simp)).trans hvv)
  · skip
    obtain ⟨t1, ht1, ht3⟩ := x_in_ex (n := 4) (by decide) (hbt.symm.trans (by assumption))
    rw [ht3] at hl
    refine lv_aload_n hx hb dX10_tableAt_9 rfl (lv_at hl 0 rfl) ?_
    refine x_get (v := .ref (lo (1))) cx hk hw (hd.1) f_RX10_11_9 rfl dX10_tableAt_10 ?_
    refine lv_iload_n hx hb dX10_tableAt_13 rfl (lv_at hl 1 rfl) ?_
    refine x_aaldTN cx hk hw (hf1) (by omega) (by first | decide | omega) (congrArg va_rf (hft t1 (by omega))) dX10_tableAt_14 ?_
    refine lv_goto (tgt := 19) hx hb dX10_tableAt_15 (by decide) ?_
    exact x_aret cx hr hlk (va_rf_or _) dX10_tableAt_19 ((show (some (va_rf (if 0 < (sT S t1).1 1 then some (lo (tT t1)) else none)) : Option Value) = some (va_rf (d_tab S lo t)) from by first | (rw [d_tab, m_isT, show x_in 4 t = false from hbt.symm.trans (by assumption)]; rfl) | (rw [d_tab, m_isT, show x_in 4 t = true from hbt.symm.trans (by assumption), ht3, nI_clamp (by omega)]; simp)).trans hvv)
set_option maxHeartbeats 4000000 in
set_option maxRecDepth 100000 in
theorem d_questionAt {l : Launch} {G : x_G} {lo : x_L} {co : x_C} (dd : Nat) (S : St) (X : Sc) (hd : isDk G lo co dd S X) (hj : x_J lo co) (hS : Sok S) (q : Int32) : x_Rd l G lo co yX10_questionAt cX10_questionAt 2 (some (.object "IndexDesk$Question")) 4 [.ref (lo (0)), .int (q)] (some (va_rf (d_qn S lo q))) := by
  refine x_enter RX10 rfl (by decide) (Nat.le_of_ble_eq_true rfl) ?_
  intro pp ee ss mm bb mt cd ls cx hk hw hr hlk hl
  have hl : lv_has ls 2 [(0, .ref (lo (0))), (1, .int (q))] := hl
  generalize hav : ([.ref (lo (0)), .int (q)] : List Value).toArray = av at cx ⊢
  generalize hvv : (some (va_rf (d_qn S lo q)) : Option Value) = vv
  have hx := cx.1
  have hb := cx.2.1
  have hown := cx.2.2.2.1
  have hts := cx.2.2.2.2
  obtain ⟨s1, s2, s3, s4, s5, s6⟩ := id hS
  obtain ⟨ft, hf1, hft⟩ := hd.2.1
  obtain ⟨mcq, evq, hq0⟩ := hd.L2.obj
  obtain ⟨mca, eva, ha0⟩ := hd.L4.obj
  refine lv_iload_n hx hb dX10_questionAt_0 rfl (lv_at hl 1 rfl) ?_
  refine lv_iconst (v := nI 0) hx hb dX10_questionAt_1 rfl ?_
  refine lv_aload_n hx hb dX10_questionAt_2 rfl (lv_at hl 0 rfl) ?_
  refine x_get (v := .ref (lo (2))) cx hk hw (hd.1) f_RX10_18_9 rfl dX10_questionAt_3 ?_
  refine x_rdV (av := []) (rest := [.int (nI 0), .int (q)]) cx hk hw (hq0) cv_RX10_76_0 (l_size 2 mcq evq (sn S 0) hq0) hl.1 rfl rfl (Nat.le_of_ble_eq_true rfl) ⟨by decide, by decide⟩ ⟨Nat.zero_le _, Nat.zero_le _⟩ dX10_questionAt_6 ?_
  refine lv_iconst (v := nI 1) hx hb dX10_questionAt_9 rfl ?_
  refine lv_isub hx hb dX10_questionAt_10 ?_
  refine x_rdS (av := [.int (q), .int (nI 0), .int ((nI (sn S 0)) - (nI 1))]) (rest := []) cx hk hw cs_RX10_32 (c_btw q (nI 0) ((nI (sn S 0)) - (nI 1))) hl.1 rfl rfl (Nat.le_of_ble_eq_true rfl) ⟨by decide, by decide⟩ ⟨Nat.zero_le _, Nat.zero_le _⟩ dX10_questionAt_11 ?_
  refine x_if_eq (tgt := 31) cx dX10_questionAt_14 (by decide) (fun h14_1 => ?_) (fun h14_1 => ?_)
  · skip
    refine lv_null hx hb dX10_questionAt_31 ?_
    exact x_aret cx hr hlk (Or.inl rfl) dX10_questionAt_32 ((show (some (.null) : Option Value) = some (va_rf (d_qn S lo q)) from by first | (rw [d_qn, if_neg (by rw [← s_btw_sub (by omega)]; simp [*])]; rfl) | (rw [d_qn, if_pos (by rw [← s_btw_sub (by omega)]; assumption), hk3, nI_clamp (by omega)]; rfl)).trans hvv)
  · skip
    obtain ⟨k1, hk1, hk3⟩ := x_in_ex (n := sn S 0) (by omega) (by rw [← s_btw_sub (by omega)]; assumption)
    rw [hk3] at hl
    refine lv_aload_n hx hb dX10_questionAt_17 rfl (lv_at hl 0 rfl) ?_
    refine x_get (v := .ref (lo (2))) cx hk hw (hd.1) f_RX10_18_9 rfl dX10_questionAt_18 ?_
    refine lv_iload_n hx hb dX10_questionAt_21 rfl (lv_at hl 1 rfl) ?_
    refine x_rdV (av := [.int (nI k1)]) (rest := []) cx hk hw hq0 cv_RX10_202_0 (l_get dd 2 3 (sn S 0) _ hd.L2 k1 (by omega) (by omega)) hl.1 rfl rfl (Nat.le_of_ble_eq_true rfl) ⟨by decide, by decide⟩ ⟨Nat.zero_le _, Nat.zero_le _⟩ dX10_questionAt_22 ?_
    obtain ⟨v1_22_2, v2_22_2, hQq_22_2⟩ := s5 k1 (by omega)
    have hTq_22_2 := (s1 _ v1_22_2).1 v2_22_2
    have htq_22_2 := hd.T v1_22_2 v2_22_2
    have hqq_22_2 := hd.Q (q := k1) (by omega)
    refine x_castS (ci := 5) cx hk hw (hqq_22_2.1) rfl (hts _ w_284) dX10_questionAt_25 ?_
    refine lv_goto (tgt := 32) hx hb dX10_questionAt_28 (by decide) ?_
    exact x_aret cx hr hlk (Or.inr ⟨_, rfl⟩) dX10_questionAt_32 ((show (some (.ref (lo (tQ k1))) : Option Value) = some (va_rf (d_qn S lo q)) from by first | (rw [d_qn, if_neg (by rw [← s_btw_sub (by omega)]; simp [*])]; rfl) | (rw [d_qn, if_pos (by rw [← s_btw_sub (by omega)]; assumption), hk3, nI_clamp (by omega)]; rfl)).trans hvv)
set_option maxHeartbeats 4000000 in
set_option maxRecDepth 100000 in
theorem d_aidAt {l : Launch} {G : x_G} {lo : x_L} {co : x_C} (dd : Nat) (S : St) (X : Sc) (hd : isDk G lo co dd S X) (hj : x_J lo co) (hS : Sok S) (a : Int32) : x_Rd l G lo co yX10_aidAt cX10_aidAt 2 (some (.object "IndexDesk$Aid")) 4 [.ref (lo (0)), .int (a)] (some (va_rf (d_ad S lo a))) := by
  refine x_enter RX10 rfl (by decide) (Nat.le_of_ble_eq_true rfl) ?_
  intro pp ee ss mm bb mt cd ls cx hk hw hr hlk hl
  have hl : lv_has ls 2 [(0, .ref (lo (0))), (1, .int (a))] := hl
  generalize hav : ([.ref (lo (0)), .int (a)] : List Value).toArray = av at cx ⊢
  generalize hvv : (some (va_rf (d_ad S lo a)) : Option Value) = vv
  have hx := cx.1
  have hb := cx.2.1
  have hown := cx.2.2.2.1
  have hts := cx.2.2.2.2
  obtain ⟨s1, s2, s3, s4, s5, s6⟩ := id hS
  obtain ⟨ft, hf1, hft⟩ := hd.2.1
  obtain ⟨mcq, evq, hq0⟩ := hd.L2.obj
  obtain ⟨mca, eva, ha0⟩ := hd.L4.obj
  refine lv_iload_n hx hb dX10_aidAt_0 rfl (lv_at hl 1 rfl) ?_
  refine lv_iconst (v := nI 0) hx hb dX10_aidAt_1 rfl ?_
  refine lv_aload_n hx hb dX10_aidAt_2 rfl (lv_at hl 0 rfl) ?_
  refine x_get (v := .ref (lo (4))) cx hk hw (hd.1) f_RX10_22_9 rfl dX10_aidAt_3 ?_
  refine x_rdV (av := []) (rest := [.int (nI 0), .int (a)]) cx hk hw (ha0) cv_RX10_76_0 (l_size 4 mca eva (sn S 1) ha0) hl.1 rfl rfl (Nat.le_of_ble_eq_true rfl) ⟨by decide, by decide⟩ ⟨Nat.zero_le _, Nat.zero_le _⟩ dX10_aidAt_6 ?_
  refine lv_iconst (v := nI 1) hx hb dX10_aidAt_9 rfl ?_
  refine lv_isub hx hb dX10_aidAt_10 ?_
  refine x_rdS (av := [.int (a), .int (nI 0), .int ((nI (sn S 1)) - (nI 1))]) (rest := []) cx hk hw cs_RX10_32 (c_btw a (nI 0) ((nI (sn S 1)) - (nI 1))) hl.1 rfl rfl (Nat.le_of_ble_eq_true rfl) ⟨by decide, by decide⟩ ⟨Nat.zero_le _, Nat.zero_le _⟩ dX10_aidAt_11 ?_
  refine x_if_eq (tgt := 31) cx dX10_aidAt_14 (by decide) (fun h14_1 => ?_) (fun h14_1 => ?_)
  · skip
    refine lv_null hx hb dX10_aidAt_31 ?_
    exact x_aret cx hr hlk (Or.inl rfl) dX10_aidAt_32 ((show (some (.null) : Option Value) = some (va_rf (d_ad S lo a)) from by first | (rw [d_ad, if_neg (by rw [← s_btw_sub (by omega)]; simp [*])]; rfl) | (rw [d_ad, if_pos (by rw [← s_btw_sub (by omega)]; assumption), hk3, nI_clamp (by omega)]; rfl)).trans hvv)
  · skip
    obtain ⟨k1, hk1, hk3⟩ := x_in_ex (n := sn S 1) (by omega) (by rw [← s_btw_sub (by omega)]; assumption)
    rw [hk3] at hl
    refine lv_aload_n hx hb dX10_aidAt_17 rfl (lv_at hl 0 rfl) ?_
    refine x_get (v := .ref (lo (4))) cx hk hw (hd.1) f_RX10_22_9 rfl dX10_aidAt_18 ?_
    refine lv_iload_n hx hb dX10_aidAt_21 rfl (lv_at hl 1 rfl) ?_
    refine x_rdV (av := [.int (nI k1)]) (rest := []) cx hk hw ha0 cv_RX10_202_0 (l_get dd 4 5 (sn S 1) _ hd.L4 k1 (by omega) (by omega)) hl.1 rfl rfl (Nat.le_of_ble_eq_true rfl) ⟨by decide, by decide⟩ ⟨Nat.zero_le _, Nat.zero_le _⟩ dX10_aidAt_22 ?_
    obtain ⟨u1_22_2, u2_22_2, hAa_22_2⟩ := s6 k1 (by omega)
    have hTa_22_2 := (s1 _ u1_22_2).1 u2_22_2
    have hta_22_2 := hd.T u1_22_2 u2_22_2
    have had_22_2 := hd.A (a := k1) (by omega)
    have hBa_22_2 := aok_bA (S := S) hAa_22_2
    have hA4_22_2 := hAa_22_2.1
    refine ac_RX10_159 cx hk hw had_22_2 dX10_aidAt_25 ?_
    refine lv_goto (tgt := 32) hx hb dX10_aidAt_28 (by decide) ?_
    exact x_aret cx hr hlk (Or.inr ⟨_, rfl⟩) dX10_aidAt_32 ((show (some (.ref (lo (tA k1))) : Option Value) = some (va_rf (d_ad S lo a)) from by first | (rw [d_ad, if_neg (by rw [← s_btw_sub (by omega)]; simp [*])]; rfl) | (rw [d_ad, if_pos (by rw [← s_btw_sub (by omega)]; assumption), hk3, nI_clamp (by omega)]; rfl)).trans hvv)
set_option maxHeartbeats 4000000 in
set_option maxRecDepth 100000 in
theorem d_tableForAid {l : Launch} {G : x_G} {lo : x_L} {co : x_C} (dd : Nat) (S : St) (X : Sc) (hd : isDk G lo co dd S X) (hj : x_J lo co) (hS : Sok S) (t : Int32) : x_Rd l G lo co yX10_tableForAid cX10_tableForAid 2 (some (.object "IndexDesk$Table")) 3 [.ref (lo (0)), .int (t)] (some (va_rf (d_tfa S lo t))) := by
  refine x_enter RX10 rfl (by decide) (Nat.le_of_ble_eq_true rfl) ?_
  intro pp ee ss mm bb mt cd ls cx hk hw hr hlk hl
  have hl : lv_has ls 2 [(0, .ref (lo (0))), (1, .int (t))] := hl
  generalize hav : ([.ref (lo (0)), .int (t)] : List Value).toArray = av at cx ⊢
  generalize hvv : (some (va_rf (d_tfa S lo t)) : Option Value) = vv
  have hx := cx.1
  have hb := cx.2.1
  have hown := cx.2.2.2.1
  have hts := cx.2.2.2.2
  obtain ⟨s1, s2, s3, s4, s5, s6⟩ := id hS
  obtain ⟨ft, hf1, hft⟩ := hd.2.1
  obtain ⟨mcq, evq, hq0⟩ := hd.L2.obj
  obtain ⟨mca, eva, ha0⟩ := hd.L4.obj
  refine lv_aload_n hx hb dX10_tableForAid_0 rfl (lv_at hl 0 rfl) ?_
  refine x_get (v := .ref (lo (4))) cx hk hw (hd.1) f_RX10_22_9 rfl dX10_tableForAid_1 ?_
  refine x_rdV (av := []) (rest := []) cx hk hw (ha0) cv_RX10_76_0 (l_size 4 mca eva (sn S 1) ha0) hl.1 rfl rfl (Nat.le_of_ble_eq_true rfl) ⟨by decide, by decide⟩ ⟨Nat.zero_le _, Nat.zero_le _⟩ dX10_tableForAid_4 ?_
  refine lv_bipush (v := nI 12) hx hb dX10_tableForAid_7 rfl ?_
  refine x_icmp_ge (tgt := 20) cx dX10_tableForAid_9 (by decide) (by omega) (fun h9_1 => ?_) (fun h9_1 => ?_)
  · skip
    refine lv_null hx hb dX10_tableForAid_20 ?_
    exact x_aret cx hr hlk (Or.inl rfl) dX10_tableForAid_21 ((show (some (.null) : Option Value) = some (va_rf (d_tfa S lo t)) from by first | (rw [d_tfa, if_neg (by omega)]; rfl) | (rw [d_tfa, if_pos (by omega)])).trans hvv)
  · skip
    refine lv_aload_n hx hb dX10_tableForAid_12 rfl (lv_at hl 0 rfl) ?_
    refine lv_iload_n hx hb dX10_tableForAid_13 rfl (lv_at hl 1 rfl) ?_
    refine x_rdV (av := [.int (t)]) (rest := []) cx hk hw (hd.1) cv_RX10_39_9 (d_tableAt dd S X hd hj hS t) hl.1 rfl rfl (Nat.le_of_ble_eq_true rfl) ⟨by decide, by decide⟩ ⟨Nat.zero_le _, Nat.zero_le _⟩ dX10_tableForAid_14 ?_
    refine lv_goto (tgt := 21) hx hb dX10_tableForAid_17 (by decide) ?_
    exact x_aret cx hr hlk (va_rf_or _) dX10_tableForAid_21 ((show (some (va_rf (d_tab S lo t)) : Option Value) = some (va_rf (d_tfa S lo t)) from by first | (rw [d_tfa, if_neg (by omega)]; rfl) | (rw [d_tfa, if_pos (by omega)])).trans hvv)
set_option maxHeartbeats 4000000 in
set_option maxRecDepth 100000 in
theorem d_rivalsOf {l : Launch} {G : x_G} {lo : x_L} {co : x_C} (dd : Nat) (S : St) (X : Sc) (hd : isDk G lo co dd S X) (hj : x_J lo co) (hS : Sok S) (a : Nat) (ha_ : a < sn S 1) : x_Rd l G lo co yX10_rivalsOf cX10_rivalsOf 5 (some .int) 4 [.ref (lo (4)), .int (nI a)] (some (.int (nI (d_rivs S a)))) := by
  refine x_enter RX10 rfl (by decide) (Nat.le_of_ble_eq_true rfl) ?_
  intro pp ee ss mm bb mt cd ls cx hk hw hr hlk hl
  have hl : lv_has ls 5 [(0, .ref (lo (4))), (1, .int (nI a))] := hl
  generalize hav : ([.ref (lo (4)), .int (nI a)] : List Value).toArray = av at cx ⊢
  generalize hvv : (some (.int (nI (d_rivs S a))) : Option Value) = vv
  have hx := cx.1
  have hb := cx.2.1
  have hown := cx.2.2.2.1
  have hts := cx.2.2.2.2
  obtain ⟨s1, s2, s3, s4, s5, s6⟩ := id hS
  obtain ⟨ft, hf1, hft⟩ := hd.2.1
  obtain ⟨mcq, evq, hq0⟩ := hd.L2.obj
  obtain ⟨mca, eva, ha0⟩ := hd.L4.obj
  have hp12 : 2 ^ sn S 1 ≤ 4096 := Sok.b12 hS
  refine lv_iload_n hx hb dX10_rivalsOf_0 rfl (lv_at hl 1 rfl) ?_
  refine lv_iconst (v := nI 0) hx hb dX10_rivalsOf_1 rfl ?_
  refine lv_aload_n hx hb dX10_rivalsOf_2 rfl (lv_at hl 0 rfl) ?_
  refine x_rdV (av := []) (rest := [.int (nI 0), .int (nI a)]) cx hk hw (ha0) cv_RX10_76_0 (l_size 4 mca eva (sn S 1) ha0) hl.1 rfl rfl (Nat.le_of_ble_eq_true rfl) ⟨by decide, by decide⟩ ⟨Nat.zero_le _, Nat.zero_le _⟩ dX10_rivalsOf_3 ?_
  refine lv_iconst (v := nI 1) hx hb dX10_rivalsOf_6 rfl ?_
  refine lv_isub hx hb dX10_rivalsOf_7 ?_
  refine x_rdS (av := [.int (nI a), .int (nI 0), .int ((nI (sn S 1)) - (nI 1))]) (rest := []) cx hk hw cs_RX10_32 (c_btw (nI a) (nI 0) ((nI (sn S 1)) - (nI 1))) hl.1 rfl rfl (Nat.le_of_ble_eq_true rfl) ⟨by decide, by decide⟩ ⟨Nat.zero_le _, Nat.zero_le _⟩ dX10_rivalsOf_8 ?_
  rw [s_btw_sub (by omega), x_in_nI (by omega) (by omega), decide_eq_true ha_]
  refine x_if_eq (tgt := 29) cx dX10_rivalsOf_11 (by decide) (fun h11_1 => ?_) (fun h11_1 => ?_)
  · skip
    refine lv_iconst (v := nI 0) hx hb dX10_rivalsOf_29 rfl ?_
    exact x_iret cx hr hlk dX10_rivalsOf_30 ((congrArg (fun z => some (Value.int (nI z))) (show 0 = d_rivs S a from by first | (exact absurd (by assumption) (by decide)) | (rw [d_rivs, if_neg (by assumption)]))).trans hvv)
  · skip
    refine lv_aload_n hx hb dX10_rivalsOf_14 rfl (lv_at hl 0 rfl) ?_
    refine lv_iload_n hx hb dX10_rivalsOf_15 rfl (lv_at hl 1 rfl) ?_
    refine x_rdV (av := [.int (nI a)]) (rest := []) cx hk hw ha0 cv_RX10_202_0 (l_get dd 4 5 (sn S 1) _ hd.L4 a (by omega) (by omega)) hl.1 rfl rfl (Nat.le_of_ble_eq_true rfl) ⟨by decide, by decide⟩ ⟨Nat.zero_le _, Nat.zero_le _⟩ dX10_rivalsOf_16 ?_
    obtain ⟨u1_16_2, u2_16_2, hAa_16_2⟩ := s6 a (by omega)
    have hTa_16_2 := (s1 _ u1_16_2).1 u2_16_2
    have hta_16_2 := hd.T u1_16_2 u2_16_2
    have had_16_2 := hd.A (a := a) (by omega)
    have hBa_16_2 := aok_bA (S := S) hAa_16_2
    have hA4_16_2 := hAa_16_2.1
    refine ac_RX10_159 cx hk hw had_16_2 dX10_rivalsOf_19 ?_
    refine ag_RX10_173 cx hk hw had_16_2 dX10_rivalsOf_22 ?_
    rw [kind_bA]
    refine lv_iconst (v := nI 4) hx hb dX10_rivalsOf_25 rfl ?_
    refine x_icmp_eq (tgt := 31) cx dX10_rivalsOf_26 (by decide) (by omega) (fun h26_3 => ?_) (fun h26_3 => ?_)
    · skip
      refine lv_iconst (v := nI 0) hx hb dX10_rivalsOf_31 rfl ?_
      refine lv_istore_n (lv' := [(2, .int (nI 0)), (0, .ref (lo (4))), (1, .int (nI a))]) hx hb dX10_rivalsOf_32 rfl hl (by decide) rfl (fun ls hl => ?_)
      refine lv_iconst (v := nI 0) hx hb dX10_rivalsOf_33 rfl ?_
      refine lv_istore_n (lv' := [(3, .int (nI 0)), (2, .int (nI 0)), (0, .ref (lo (4))), (1, .int (nI a))]) hx hb dX10_rivalsOf_34 rfl hl (by decide) rfl (fun ls hl => ?_)
      have L35_4 : ∀ (n_ : Nat) (f : Nat) (k : Nat), (k ≤ sn S 1) → (f = d_riv S a k) → sn S 1 - k < n_ → ∀ (ls : Array Slot), lv_has ls 5 [(3, .int (nI k)), (2, .int (nI f)), (0, .ref (lo (4))), (1, .int (nI a))] → x_w l 4 pp ee ss mm av bb mt cd vv 35 ls [] := by
        intro n_
        induction n_ with
        | zero => intro f k hv hf hm_ ls hl; exact absurd hm_ (Nat.not_lt_zero _)
        | succ n_ ih35_4 =>
          intro f k hv hf hm_ ls hl
          refine lv_iload_n hx hb dX10_rivalsOf_35 rfl (lv_at hl 0 rfl) ?_
          refine lv_aload_n hx hb dX10_rivalsOf_36 rfl (lv_at hl 2 rfl) ?_
          refine x_rdV (av := []) (rest := [.int (nI k)]) cx hk hw (ha0) cv_RX10_76_0 (l_size 4 mca eva (sn S 1) ha0) hl.1 rfl rfl (Nat.le_of_ble_eq_true rfl) ⟨by decide, by decide⟩ ⟨Nat.zero_le _, Nat.zero_le _⟩ dX10_rivalsOf_37 ?_
          refine x_icmp_ge (tgt := 99) cx dX10_rivalsOf_40 (by decide) (by omega) (fun h40_5 => ?_) (fun h40_5 => ?_)
          · skip
            refine lv_iload_n hx hb dX10_rivalsOf_99 rfl (lv_at hl 1 rfl) ?_
            exact x_iret cx hr hlk dX10_rivalsOf_100 ((congrArg (fun z => some (Value.int (nI z))) (show f = d_rivs S a from by rw [d_rivs, if_pos (by assumption), hf, show k = sn S 1 by omega])).trans hvv)
          · skip
            refine lv_aload_n hx hb dX10_rivalsOf_43 rfl (lv_at hl 2 rfl) ?_
            refine lv_iload_n hx hb dX10_rivalsOf_44 rfl (lv_at hl 0 rfl) ?_
            refine x_rdV (av := [.int (nI k)]) (rest := []) cx hk hw ha0 cv_RX10_202_0 (l_get dd 4 5 (sn S 1) _ hd.L4 k (by omega) (by omega)) hl.1 rfl rfl (Nat.le_of_ble_eq_true rfl) ⟨by decide, by decide⟩ ⟨Nat.zero_le _, Nat.zero_le _⟩ dX10_rivalsOf_45 ?_
            obtain ⟨u1_45_6, u2_45_6, hAa_45_6⟩ := s6 k (by omega)
            have hTa_45_6 := (s1 _ u1_45_6).1 u2_45_6
            have hta_45_6 := hd.T u1_45_6 u2_45_6
            have had_45_6 := hd.A (a := k) (by omega)
            have hBa_45_6 := aok_bA (S := S) hAa_45_6
            have hA4_45_6 := hAa_45_6.1
            refine ac_RX10_159 cx hk hw had_45_6 dX10_rivalsOf_48 ?_
            refine lv_astore (lv' := [(4, .ref (lo (tA k))), (3, .int (nI k)), (2, .int (nI f)), (0, .ref (lo (4))), (1, .int (nI a))]) hx hb dX10_rivalsOf_51 hl (by decide) rfl (fun ls hl => ?_)
            refine lv_iload_n hx hb dX10_rivalsOf_53 rfl (lv_at hl 1 rfl) ?_
            refine lv_iload_n hx hb dX10_rivalsOf_54 rfl (lv_at hl 4 rfl) ?_
            refine x_icmp_eq (tgt := 93) cx dX10_rivalsOf_55 (by decide) (by omega) (fun h55_7 => ?_) (fun h55_7 => ?_)
            · skip
              refine lv_iinc (v := nI (k + 1)) (lv' := [(3, .int (nI (k + 1))), (4, .ref (lo (tA k))), (2, .int (nI f)), (0, .ref (lo (4))), (1, .int (nI a))]) hx hb dX10_rivalsOf_93 hl (k := 1) rfl (nI_add _ 1) (by decide) rfl (fun ls hl => ?_)
              refine lv_goto (tgt := 35) hx hb dX10_rivalsOf_96 (by decide) ?_
              exact ih35_4 f (k + 1) (by omega) (by rw [d_riv, ← hf]; first | (rw [if_pos ⟨by assumption, by assumption, (tT_inj hd hj (s6 k (by omega)).1 (s6 k (by omega)).2.1 (s6 a ha_).1 (s6 a ha_).2.1).mp (by assumption)⟩]; done) | (rw [if_neg (fun z => by first | exact z.1 (by assumption) | exact absurd z.2.1 (by assumption) | exact absurd ((tT_inj hd hj (s6 k (by omega)).1 (s6 k (by omega)).2.1 (s6 a ha_).1 (s6 a ha_).2.1).mpr z.2.2) (by assumption)), Nat.or_zero])) (by omega) _ (lv_sub hl [0, 2, 3, 4] rfl)
            · skip
              refine lv_aload hx hb dX10_rivalsOf_58 (lv_at hl 0 rfl) ?_
              refine ag_RX10_173 cx hk hw had_45_6 dX10_rivalsOf_60 ?_
              rw [kind_bA]
              refine lv_iconst (v := nI 4) hx hb dX10_rivalsOf_63 rfl ?_
              refine x_icmp_ne (tgt := 93) cx dX10_rivalsOf_64 (by decide) (by omega) (fun h64_8 => ?_) (fun h64_8 => ?_)
              · skip
                refine lv_iinc (v := nI (k + 1)) (lv' := [(3, .int (nI (k + 1))), (4, .ref (lo (tA k))), (2, .int (nI f)), (0, .ref (lo (4))), (1, .int (nI a))]) hx hb dX10_rivalsOf_93 hl (k := 1) rfl (nI_add _ 1) (by decide) rfl (fun ls hl => ?_)
                refine lv_goto (tgt := 35) hx hb dX10_rivalsOf_96 (by decide) ?_
                exact ih35_4 f (k + 1) (by omega) (by rw [d_riv, ← hf]; first | (rw [if_pos ⟨by assumption, by assumption, (tT_inj hd hj (s6 k (by omega)).1 (s6 k (by omega)).2.1 (s6 a ha_).1 (s6 a ha_).2.1).mp (by assumption)⟩]; done) | (rw [if_neg (fun z => by first | exact z.1 (by assumption) | exact absurd z.2.1 (by assumption) | exact absurd ((tT_inj hd hj (s6 k (by omega)).1 (s6 k (by omega)).2.1 (s6 a ha_).1 (s6 a ha_).2.1).mpr z.2.2) (by assumption)), Nat.or_zero])) (by omega) _ (lv_sub hl [0, 2, 3, 4] rfl)
              · skip
                refine lv_aload hx hb dX10_rivalsOf_67 (lv_at hl 0 rfl) ?_
                refine ag_RX10_176 cx hk hw had_45_6 dX10_rivalsOf_69 ?_
                refine lv_aload_n hx hb dX10_rivalsOf_72 rfl (lv_at hl 3 rfl) ?_
                refine lv_iload_n hx hb dX10_rivalsOf_73 rfl (lv_at hl 4 rfl) ?_
                refine x_rdV (av := [.int (nI a)]) (rest := [.ref (lo (tT (ao S k)))]) cx hk hw ha0 cv_RX10_202_0 (l_get dd 4 5 (sn S 1) _ hd.L4 a (by omega) (by omega)) hl.1 rfl rfl (Nat.le_of_ble_eq_true rfl) ⟨by decide, by decide⟩ ⟨Nat.zero_le _, Nat.zero_le _⟩ dX10_rivalsOf_74 ?_
                obtain ⟨u1_74_9, u2_74_9, hAa_74_9⟩ := s6 a (by omega)
                have hTa_74_9 := (s1 _ u1_74_9).1 u2_74_9
                have hta_74_9 := hd.T u1_74_9 u2_74_9
                have had_74_9 := hd.A (a := a) (by omega)
                have hBa_74_9 := aok_bA (S := S) hAa_74_9
                have hA4_74_9 := hAa_74_9.1
                refine ac_RX10_159 cx hk hw had_74_9 dX10_rivalsOf_77 ?_
                refine ag_RX10_176 cx hk hw had_74_9 dX10_rivalsOf_80 ?_
                refine lv_acmp_ne (rx := some (lo (tT (ao S k)))) (ry := some (lo (tT (ao S a)))) (tgt := 93) hx hb dX10_rivalsOf_83 (by decide) (fun h83_10 => ?_) (fun h83_10 => ?_)
                · skip
                  refine lv_iinc (v := nI (k + 1)) (lv' := [(3, .int (nI (k + 1))), (4, .ref (lo (tA k))), (2, .int (nI f)), (0, .ref (lo (4))), (1, .int (nI a))]) hx hb dX10_rivalsOf_93 hl (k := 1) rfl (nI_add _ 1) (by decide) rfl (fun ls hl => ?_)
                  refine lv_goto (tgt := 35) hx hb dX10_rivalsOf_96 (by decide) ?_
                  exact ih35_4 f (k + 1) (by omega) (by rw [d_riv, ← hf]; first | (rw [if_pos ⟨by assumption, by assumption, (tT_inj hd hj (s6 k (by omega)).1 (s6 k (by omega)).2.1 (s6 a ha_).1 (s6 a ha_).2.1).mp (by assumption)⟩]; done) | (rw [if_neg (fun z => by first | exact z.1 (by assumption) | exact absurd z.2.1 (by assumption) | exact absurd ((tT_inj hd hj (s6 k (by omega)).1 (s6 k (by omega)).2.1 (s6 a ha_).1 (s6 a ha_).2.1).mpr z.2.2) (by assumption)), Nat.or_zero])) (by omega) _ (lv_sub hl [0, 2, 3, 4] rfl)
                · skip
                  refine lv_iload_n hx hb dX10_rivalsOf_86 rfl (lv_at hl 2 rfl) ?_
                  refine lv_iload_n hx hb dX10_rivalsOf_87 rfl (lv_at hl 1 rfl) ?_
                  refine x_rdS (av := [.int (nI k)]) (rest := [.int (nI f)]) cx hk hw cs_RX10_120 (c_bitN k (by omega)) hl.1 rfl rfl (Nat.le_of_ble_eq_true rfl) ⟨by decide, by decide⟩ ⟨Nat.zero_le _, Nat.zero_le _⟩ dX10_rivalsOf_88 ?_
                  have hkp : 2 ^ k < 2 ^ sn S 1 := Nat.pow_lt_pow_right (by decide) (by omega)
                  refine x_iorB cx dX10_rivalsOf_91 ?_
                  refine lv_istore_n (lv' := [(2, .int (nI (f ||| (2 ^ k)))), (4, .ref (lo (tA k))), (3, .int (nI k)), (0, .ref (lo (4))), (1, .int (nI a))]) hx hb dX10_rivalsOf_92 rfl hl (by decide) rfl (fun ls hl => ?_)
                  refine lv_iinc (v := nI (k + 1)) (lv' := [(3, .int (nI (k + 1))), (2, .int (nI (f ||| (2 ^ k)))), (4, .ref (lo (tA k))), (0, .ref (lo (4))), (1, .int (nI a))]) hx hb dX10_rivalsOf_93 hl (k := 2) rfl (nI_add _ 1) (by decide) rfl (fun ls hl => ?_)
                  refine lv_goto (tgt := 35) hx hb dX10_rivalsOf_96 (by decide) ?_
                  exact ih35_4 (f ||| (2 ^ k)) (k + 1) (by omega) (by rw [d_riv, ← hf]; first | (rw [if_pos ⟨by assumption, by assumption, (tT_inj hd hj (s6 k (by omega)).1 (s6 k (by omega)).2.1 (s6 a ha_).1 (s6 a ha_).2.1).mp (by assumption)⟩]; done) | (rw [if_neg (fun z => by first | exact z.1 (by assumption) | exact absurd z.2.1 (by assumption) | exact absurd ((tT_inj hd hj (s6 k (by omega)).1 (s6 k (by omega)).2.1 (s6 a ha_).1 (s6 a ha_).2.1).mpr z.2.2) (by assumption)), Nat.or_zero])) (by omega) _ (lv_sub hl [0, 1, 3, 4] rfl)
      exact L35_4 (_ + 1) 0 0 (by omega) (by rfl) (Nat.lt_succ_self _) _ (lv_sub hl [0, 1, 2, 3] rfl)
    · skip
      refine lv_iconst (v := nI 0) hx hb dX10_rivalsOf_29 rfl ?_
      exact x_iret cx hr hlk dX10_rivalsOf_30 ((congrArg (fun z => some (Value.int (nI z))) (show 0 = d_rivs S a from by first | (exact absurd (by assumption) (by decide)) | (rw [d_rivs, if_neg (by assumption)]))).trans hvv)
