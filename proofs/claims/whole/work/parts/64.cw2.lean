set_option maxHeartbeats 4000000 in
set_option maxRecDepth 100000 in
theorem dw_put {l : Launch} {G : x_G} {lo : x_L} {co : x_C} (dd : Nat) (S : St) (X : Sc) (hd : isDk G lo co dd S X) (hj : x_J lo co) (hS : Sok S) (hZ4 : ∀ t, t < 4 → Tz4 (sT S t)) (hms : m_set S (sn S 2) = true) (t a b c d : Int32) : x_Wr l G lo (co) yX10_put cX10_put 7 (some .int) 5 0 0 [.ref (lo (0)), .int (t), .int (a), .int (b), .int (c), .int (d)] (fun (v : Option Value) (lo1 : x_L) (co1 : x_C) => v = some (.int (P_put S t a b c d).1) ∧ lo1 0 = lo 0 ∧ ∃ X1, isDk G lo1 co1 dd (P_put S t a b c d).2 X1) := by
  refine x_wenter RX10 rfl (by decide) (Nat.le_of_ble_eq_true rfl) ?_
  intro pp ee ss mm bb mt cd ls AA cx hk hW hA hr hlk hnm hl
  have hl : lv_has ls 7 [(0, .ref (lo (0))), (1, .int (t)), (2, .int (a)), (3, .int (b)), (4, .int (c)), (5, .int (d))] := hl
  generalize hav : ([.ref (lo (0)), .int (t), .int (a), .int (b), .int (c), .int (d)] : List Value).toArray = av at cx ⊢
  generalize hpo : (fun (v : Option Value) (lo1 : x_L) (co1 : x_C) => v = some (.int (P_put S t a b c d).1) ∧ lo1 0 = lo 0 ∧ ∃ X1, isDk G lo1 co1 dd (P_put S t a b c d).2 X1) = po
  have hx := cx.1
  have hb := cx.2.1
  have hown := cx.2.2.2.1
  have hts := cx.2.2.2.2
  have hw := hW.1
  suffices key_ : ∀ (H : Heap) (locs : List Loc), x_D AA G ss.heap lo (co) H locs → x_ww l 5 0 0 pp ee ss mm av bb mt cd G po AA H locs 0 0 0 ls [] from key_ _ _ hW
  intro H locs hW
  have hw := hW.1
  obtain ⟨s1, s2, s3, s4, s5, s6⟩ := id hS
  obtain ⟨ft, hf1, hft⟩ := hd.2.1
  obtain ⟨mcq, evq, hq0⟩ := hd.L2.obj
  obtain ⟨mca, eva, ha0⟩ := hd.L4.obj
  refine lv_aload_n hx hb dX10_put_0 rfl (lv_at hl 0 rfl) ?_
  refine lv_iload_n hx hb dX10_put_1 rfl (lv_at hl 1 rfl) ?_
  refine x_rdV (av := [.int (t)]) (rest := []) cx hk hw (hd.1) cv_RX10_39_9 (d_tableAt dd S X hd hj hS t) hl.1 rfl rfl (Nat.le_of_ble_eq_true rfl) ⟨by decide, by decide⟩ ⟨Nat.zero_le _, Nat.zero_le _⟩ dX10_put_2 ?_
  by_cases hc_t : m_isT S t = true
  · skip
    obtain ⟨t1_t, ht1_t, ht2_t, ht3_t⟩ := m_isT_ex hc_t
    have hTt_t := (s1 _ ht1_t).1 ht2_t
    have htt_t := hd.T ht1_t ht2_t
    rw [d_tab_1 hc_t ht3_t ht1_t]
    rw [ht3_t] at hl
    refine lv_astore (lv' := [(6, .ref (lo (tT t1_t))), (0, .ref (lo (0))), (1, .int (nI t1_t)), (2, .int (a)), (3, .int (b)), (4, .int (c)), (5, .int (d))]) hx hb dX10_put_5 hl (by decide) rfl (fun ls hl => ?_)
    refine lv_aload hx hb dX10_put_7 (lv_at hl 0 rfl) ?_
    refine lv_ifnull hx hb dX10_put_9 ?_
    obtain ⟨k1, k2, k3, k4, k5, k6, k7, k8, k9, k0⟩ := id hTt_t
    refine lv_aload hx hb dX10_put_12 (lv_at hl 0 rfl) ?_
    refine x_get (v := .int (nI ((sT S t1_t).1 3))) cx hk hw (htt_t.1) f_RX10_43_8 rfl dX10_put_14 ?_
    refine lv_bipush (v := nI 60) hx hb dX10_put_17 rfl ?_
    refine x_icmp_ge (tgt := 36) cx dX10_put_19 (by decide) (by omega) (fun h19_1 => ?_) (fun h19_1 => ?_)
    · skip
      refine lv_iconst (v := (-1)) hx hb dX10_put_36 rfl ?_
      exact y_iret cx hW hr hlk ⟨by decide, by decide⟩ dX10_put_37 (by rw [← hpo]; first | (rw [show P_put S t a b c d = (-1, S) from by unfold P_put; rw [if_neg (fun z => hc_t z.1)]; done]; exact ⟨rfl, rfl, X, hd⟩) | (rw [show P_put S t a b c d = (-1, S) from by unfold P_put; rw [if_neg (fun z => z.2.1 (by rw [ht3_t, nI_clamp (by omega)]; omega))]; done]; exact ⟨rfl, rfl, X, hd⟩) | (rw [show P_put S t a b c d = (-1, S) from by unfold P_put; rw [if_neg (fun z => by have z3 := z.2.2; rw [ht3_t, nI_clamp (by omega), ← t_all_vals hTt_t] at z3; exact Bool.noConfusion ((by assumption : t_all (sT S t1_t) a b c d = false).symm.trans z3))]; done]; exact ⟨rfl, rfl, X, hd⟩))
    · skip
      refine lv_aload hx hb dX10_put_22 (lv_at hl 0 rfl) ?_
      refine lv_iload_n hx hb dX10_put_24 rfl (lv_at hl 3 rfl) ?_
      refine lv_iload_n hx hb dX10_put_25 rfl (lv_at hl 4 rfl) ?_
      refine lv_iload hx hb dX10_put_26 (lv_at hl 5 rfl) ?_
      refine lv_iload hx hb dX10_put_28 (lv_at hl 6 rfl) ?_
      refine x_rdV (av := [.int (a), .int (b), .int (c), .int (d)]) (rest := []) cx hk hw (htt_t.1) cv_RX10_47_8 (c_t_all (tT t1_t) (sT S t1_t) htt_t a b c d) hl.1 rfl rfl (Nat.le_of_ble_eq_true rfl) ⟨by decide, by decide⟩ ⟨Nat.zero_le _, Nat.zero_le _⟩ dX10_put_30 ?_
      refine x_if_ne (tgt := 38) cx dX10_put_33 (by decide) (fun h33_2 => ?_) (fun h33_2 => ?_)
      · skip
        have hsv_ : s_vals (sT S t1_t) a b c d = true := (t_all_vals hTt_t).symm.trans (by assumption)
        refine lv_aload hx hb dX10_put_38 (lv_at hl 0 rfl) ?_
        refine lv_iload_n hx hb dX10_put_40 rfl (lv_at hl 3 rfl) ?_
        refine lv_iload_n hx hb dX10_put_41 rfl (lv_at hl 4 rfl) ?_
        refine lv_iload hx hb dX10_put_42 (lv_at hl 5 rfl) ?_
        refine lv_iload hx hb dX10_put_44 (lv_at hl 6 rfl) ?_
        refine y_wrV (av := [.int (a), .int (b), .int (c), .int (d)]) (rest := []) cx hk hW hA (htt_t.1) cv_RX10_51_8 (g_append (tT t1_t) (sT S t1_t) htt_t hTt_t (by omega) a b c d hsv_) hl.1 rfl rfl (Nat.le_of_ble_eq_true rfl) ⟨by decide, by decide⟩ ⟨by decide, by decide⟩ dX10_put_46 (fun v_ lo3 co3 H locs hq_ hW => ?_)
        obtain ⟨hv_, hlo_, ht3, ho3⟩ := hq_
        have hlo2_ := hlo_.symm
        subst hv_ hlo2_
        have hw := hW.1
        exact y_iret cx hW hr hlk ⟨by decide, by decide⟩ dX10_put_49 (by rw [← hpo]; rw [show P_put S t a b c d = (nI ((sT S t1_t).1 3), setT S t1_t (putT (sT S t1_t) a b c d)) from by unfold P_put; rw [if_pos ⟨hc_t, by rw [ht3_t, nI_clamp (by omega)]; omega, by rw [ht3_t, nI_clamp (by omega)]; exact hsv_⟩, ht3_t, nI_clamp (by omega)]]; exact ⟨rfl, rfl, X, dk_T hd hS ht1_t ht2_t ht3 ho3 rfl⟩)
      · skip
        refine lv_iconst (v := (-1)) hx hb dX10_put_36 rfl ?_
        exact y_iret cx hW hr hlk ⟨by decide, by decide⟩ dX10_put_37 (by rw [← hpo]; first | (rw [show P_put S t a b c d = (-1, S) from by unfold P_put; rw [if_neg (fun z => hc_t z.1)]; done]; exact ⟨rfl, rfl, X, hd⟩) | (rw [show P_put S t a b c d = (-1, S) from by unfold P_put; rw [if_neg (fun z => z.2.1 (by rw [ht3_t, nI_clamp (by omega)]; omega))]; done]; exact ⟨rfl, rfl, X, hd⟩) | (rw [show P_put S t a b c d = (-1, S) from by unfold P_put; rw [if_neg (fun z => by have z3 := z.2.2; rw [ht3_t, nI_clamp (by omega), ← t_all_vals hTt_t] at z3; exact Bool.noConfusion ((by assumption : t_all (sT S t1_t) a b c d = false).symm.trans z3))]; done]; exact ⟨rfl, rfl, X, hd⟩))
  · skip
    rw [d_tab_0 hc_t]
    refine lv_astoreN (lv' := [(6, .null), (0, .ref (lo (0))), (1, .int (t)), (2, .int (a)), (3, .int (b)), (4, .int (c)), (5, .int (d))]) hx hb dX10_put_5 hl (by decide) rfl (fun ls hl => ?_)
    refine lv_aloadN hx hb dX10_put_7 (lv_at hl 0 rfl) ?_
    refine lv_ifnullN (tgt := 36) hx hb dX10_put_9 (by decide) ?_
    refine lv_iconst (v := (-1)) hx hb dX10_put_36 rfl ?_
    exact y_iret cx hW hr hlk ⟨by decide, by decide⟩ dX10_put_37 (by rw [← hpo]; first | (rw [show P_put S t a b c d = (-1, S) from by unfold P_put; rw [if_neg (fun z => hc_t z.1)]; done]; exact ⟨rfl, rfl, X, hd⟩) | (rw [show P_put S t a b c d = (-1, S) from by unfold P_put; rw [if_neg (fun z => z.2.1 (by rw [ht3_t, nI_clamp (by omega)]; omega))]; done]; exact ⟨rfl, rfl, X, hd⟩) | (rw [show P_put S t a b c d = (-1, S) from by unfold P_put; rw [if_neg (fun z => by have z3 := z.2.2; rw [ht3_t, nI_clamp (by omega), ← t_all_vals hTt_t] at z3; exact Bool.noConfusion ((by assumption : t_all (sT S t1_t) a b c d = false).symm.trans z3))]; done]; exact ⟨rfl, rfl, X, hd⟩))
set_option maxHeartbeats 4000000 in
set_option maxRecDepth 100000 in
theorem dw_strike {l : Launch} {G : x_G} {lo : x_L} {co : x_C} (dd : Nat) (S : St) (X : Sc) (hd : isDk G lo co dd S X) (hj : x_J lo co) (hS : Sok S) (hZ4 : ∀ t, t < 4 → Tz4 (sT S t)) (hms : m_set S (sn S 2) = true) (t r : Int32) : x_Wr l G lo (co) yX10_strike cX10_strike 4 (some .boolean) 5 0 0 [.ref (lo (0)), .int (t), .int (r)] (fun (v : Option Value) (lo1 : x_L) (co1 : x_C) => v = some (.int (bI (P_strike S t r).1)) ∧ lo1 0 = lo 0 ∧ ∃ X1, isDk G lo1 co1 dd (P_strike S t r).2 X1) := by
  refine x_wenter RX10 rfl (by decide) (Nat.le_of_ble_eq_true rfl) ?_
  intro pp ee ss mm bb mt cd ls AA cx hk hW hA hr hlk hnm hl
  have hl : lv_has ls 4 [(0, .ref (lo (0))), (1, .int (t)), (2, .int (r))] := hl
  generalize hav : ([.ref (lo (0)), .int (t), .int (r)] : List Value).toArray = av at cx ⊢
  generalize hpo : (fun (v : Option Value) (lo1 : x_L) (co1 : x_C) => v = some (.int (bI (P_strike S t r).1)) ∧ lo1 0 = lo 0 ∧ ∃ X1, isDk G lo1 co1 dd (P_strike S t r).2 X1) = po
  have hx := cx.1
  have hb := cx.2.1
  have hown := cx.2.2.2.1
  have hts := cx.2.2.2.2
  have hw := hW.1
  suffices key_ : ∀ (H : Heap) (locs : List Loc), x_D AA G ss.heap lo (co) H locs → x_ww l 5 0 0 pp ee ss mm av bb mt cd G po AA H locs 0 0 0 ls [] from key_ _ _ hW
  intro H locs hW
  have hw := hW.1
  obtain ⟨s1, s2, s3, s4, s5, s6⟩ := id hS
  obtain ⟨ft, hf1, hft⟩ := hd.2.1
  obtain ⟨mcq, evq, hq0⟩ := hd.L2.obj
  obtain ⟨mca, eva, ha0⟩ := hd.L4.obj
  refine lv_aload_n hx hb dX10_strike_0 rfl (lv_at hl 0 rfl) ?_
  refine lv_iload_n hx hb dX10_strike_1 rfl (lv_at hl 1 rfl) ?_
  refine x_rdV (av := [.int (t)]) (rest := []) cx hk hw (hd.1) cv_RX10_39_9 (d_tableAt dd S X hd hj hS t) hl.1 rfl rfl (Nat.le_of_ble_eq_true rfl) ⟨by decide, by decide⟩ ⟨Nat.zero_le _, Nat.zero_le _⟩ dX10_strike_2 ?_
  by_cases hc_t : m_isT S t = true
  · skip
    obtain ⟨t1_t, ht1_t, ht2_t, ht3_t⟩ := m_isT_ex hc_t
    have hTt_t := (s1 _ ht1_t).1 ht2_t
    have htt_t := hd.T ht1_t ht2_t
    rw [d_tab_1 hc_t ht3_t ht1_t]
    rw [ht3_t] at hl
    refine lv_astore_n (lv' := [(3, .ref (lo (tT t1_t))), (0, .ref (lo (0))), (1, .int (nI t1_t)), (2, .int (r))]) hx hb dX10_strike_5 rfl hl (by decide) rfl (fun ls hl => ?_)
    refine lv_aload_n hx hb dX10_strike_6 rfl (lv_at hl 0 rfl) ?_
    refine lv_ifnull hx hb dX10_strike_7 ?_
    obtain ⟨k1, k2, k3, k4, k5, k6, k7, k8, k9, k0⟩ := id hTt_t
    refine lv_iload_n hx hb dX10_strike_10 rfl (lv_at hl 3 rfl) ?_
    refine lv_iconst (v := nI 0) hx hb dX10_strike_11 rfl ?_
    refine lv_aload_n hx hb dX10_strike_12 rfl (lv_at hl 0 rfl) ?_
    refine x_get (v := .int (nI ((sT S t1_t).1 3))) cx hk hw (htt_t.1) f_RX10_43_8 rfl dX10_strike_13 ?_
    refine lv_iconst (v := nI 1) hx hb dX10_strike_16 rfl ?_
    refine lv_isub hx hb dX10_strike_17 ?_
    refine x_rdS (av := [.int (r), .int (nI 0), .int ((nI ((sT S t1_t).1 3)) - (nI 1))]) (rest := []) cx hk hw cs_RX10_32 (c_btw r (nI 0) ((nI ((sT S t1_t).1 3)) - (nI 1))) hl.1 rfl rfl (Nat.le_of_ble_eq_true rfl) ⟨by decide, by decide⟩ ⟨Nat.zero_le _, Nat.zero_le _⟩ dX10_strike_18 ?_
    rw [s_btw_sub (by omega)]
    refine x_if_ne (tgt := 26) cx dX10_strike_21 (by decide) (fun h21_1 => ?_) (fun h21_1 => ?_)
    · skip
      obtain ⟨r1, hr1, hr3⟩ := x_in_ex (n := (sT S t1_t).1 3) (q := r) (by omega) (by assumption)
      rw [hr3] at hl
      refine lv_aload_n hx hb dX10_strike_26 rfl (lv_at hl 0 rfl) ?_
      refine lv_iload_n hx hb dX10_strike_27 rfl (lv_at hl 3 rfl) ?_
      refine y_wrV (av := [.int (nI r1)]) (rest := []) cx hk hW hA (htt_t.1) cv_RX10_55_8 (g_remove (tT t1_t) (sT S t1_t) htt_t hTt_t (hZ4 t1_t ht1_t) r1 (by omega)) hl.1 rfl rfl (Nat.le_of_ble_eq_true rfl) ⟨by decide, by decide⟩ ⟨by decide, by decide⟩ dX10_strike_28 (fun v_ lo2 co2 H locs hq_ hW => ?_)
      obtain ⟨hv_, hlo_, ht2, ho2⟩ := hq_
      have hlo2_ := hlo_.symm
      subst hv_ hlo2_
      have hw := hW.1
      refine lv_iconst (v := nI 1) hx hb dX10_strike_31 rfl ?_
      exact y_zret (true) cx hW hr hlk ⟨by decide, by decide⟩ dX10_strike_32 rfl (by rw [← hpo]; rw [show P_strike S t r = (true, setT S t1_t (strT (sT S t1_t) r1)) from by unfold P_strike; rw [if_pos ⟨hc_t, by rw [ht3_t, nI_clamp (by omega)]; assumption⟩, ht3_t, hr3, nI_clamp (by omega), nI_clamp (by omega)]]; exact ⟨rfl, rfl, X, dk_T hd hS ht1_t ht2_t ht2 ho2 rfl⟩)
    · skip
      refine lv_iconst (v := nI 0) hx hb dX10_strike_24 rfl ?_
      exact y_zret (false) cx hW hr hlk ⟨by decide, by decide⟩ dX10_strike_25 rfl (by rw [← hpo]; first | (rw [show P_strike S t r = (false, S) from by unfold P_strike; rw [if_neg (fun z => hc_t z.1)]; done]; exact ⟨rfl, rfl, X, hd⟩) | (rw [show P_strike S t r = (false, S) from by unfold P_strike; rw [if_neg (fun z => by have z2 := z.2; rw [ht3_t, nI_clamp (by omega)] at z2; exact Bool.noConfusion ((by assumption : x_in ((sT S t1_t).1 3) r = false).symm.trans z2))]; done]; exact ⟨rfl, rfl, X, hd⟩))
  · skip
    rw [d_tab_0 hc_t]
    refine lv_astore_nN (lv' := [(3, .null), (0, .ref (lo (0))), (1, .int (t)), (2, .int (r))]) hx hb dX10_strike_5 rfl hl (by decide) rfl (fun ls hl => ?_)
    refine lv_aload_nN hx hb dX10_strike_6 rfl (lv_at hl 0 rfl) ?_
    refine lv_ifnullN (tgt := 24) hx hb dX10_strike_7 (by decide) ?_
    refine lv_iconst (v := nI 0) hx hb dX10_strike_24 rfl ?_
    exact y_zret (false) cx hW hr hlk ⟨by decide, by decide⟩ dX10_strike_25 rfl (by rw [← hpo]; first | (rw [show P_strike S t r = (false, S) from by unfold P_strike; rw [if_neg (fun z => hc_t z.1)]; done]; exact ⟨rfl, rfl, X, hd⟩) | (rw [show P_strike S t r = (false, S) from by unfold P_strike; rw [if_neg (fun z => by have z2 := z.2; rw [ht3_t, nI_clamp (by omega)] at z2; exact Bool.noConfusion ((by assumption : x_in ((sT S t1_t).1 3) r = false).symm.trans z2))]; done]; exact ⟨rfl, rfl, X, hd⟩))
set_option maxHeartbeats 4000000 in
set_option maxRecDepth 100000 in
theorem dw_recount {l : Launch} {G : x_G} {lo : x_L} {co : x_C} (dd : Nat) (S : St) (X : Sc) (hd : isDk G lo co dd S X) (hj : x_J lo co) (hS : Sok S) (hZ4 : ∀ t, t < 4 → Tz4 (sT S t)) (hms : m_set S (sn S 2) = true) (t : Int32) : x_Wr l G lo (co) yX10_recount cX10_recount 3 (some .int) 7 0 0 [.ref (lo (0)), .int (t)] (fun (v : Option Value) (lo1 : x_L) (co1 : x_C) => v = some (.int (P_recount S t).1) ∧ lo1 0 = lo 0 ∧ ∃ X1, isDk G lo1 co1 dd (P_recount S t).2 X1) := by
  refine x_wenter RX10 rfl (by decide) (Nat.le_of_ble_eq_true rfl) ?_
  intro pp ee ss mm bb mt cd ls AA cx hk hW hA hr hlk hnm hl
  have hl : lv_has ls 3 [(0, .ref (lo (0))), (1, .int (t))] := hl
  generalize hav : ([.ref (lo (0)), .int (t)] : List Value).toArray = av at cx ⊢
  generalize hpo : (fun (v : Option Value) (lo1 : x_L) (co1 : x_C) => v = some (.int (P_recount S t).1) ∧ lo1 0 = lo 0 ∧ ∃ X1, isDk G lo1 co1 dd (P_recount S t).2 X1) = po
  have hx := cx.1
  have hb := cx.2.1
  have hown := cx.2.2.2.1
  have hts := cx.2.2.2.2
  have hw := hW.1
  suffices key_ : ∀ (H : Heap) (locs : List Loc), x_D AA G ss.heap lo (co) H locs → x_ww l 7 0 0 pp ee ss mm av bb mt cd G po AA H locs 0 0 0 ls [] from key_ _ _ hW
  intro H locs hW
  have hw := hW.1
  obtain ⟨s1, s2, s3, s4, s5, s6⟩ := id hS
  obtain ⟨ft, hf1, hft⟩ := hd.2.1
  obtain ⟨mcq, evq, hq0⟩ := hd.L2.obj
  obtain ⟨mca, eva, ha0⟩ := hd.L4.obj
  refine lv_aload_n hx hb dX10_recount_0 rfl (lv_at hl 0 rfl) ?_
  refine lv_iload_n hx hb dX10_recount_1 rfl (lv_at hl 1 rfl) ?_
  refine x_rdV (av := [.int (t)]) (rest := []) cx hk hw (hd.1) cv_RX10_39_9 (d_tableAt dd S X hd hj hS t) hl.1 rfl rfl (Nat.le_of_ble_eq_true rfl) ⟨by decide, by decide⟩ ⟨Nat.zero_le _, Nat.zero_le _⟩ dX10_recount_2 ?_
  by_cases hc_t : m_isT S t = true
  · skip
    obtain ⟨t1_t, ht1_t, ht2_t, ht3_t⟩ := m_isT_ex hc_t
    have hTt_t := (s1 _ ht1_t).1 ht2_t
    have htt_t := hd.T ht1_t ht2_t
    rw [d_tab_1 hc_t ht3_t ht1_t]
    rw [ht3_t] at hl
    refine lv_astore_n (lv' := [(2, .ref (lo (tT t1_t))), (0, .ref (lo (0))), (1, .int (nI t1_t))]) hx hb dX10_recount_5 rfl hl (by decide) rfl (fun ls hl => ?_)
    refine lv_aload_n hx hb dX10_recount_6 rfl (lv_at hl 0 rfl) ?_
    refine lv_ifnonnull (tgt := 12) hx hb dX10_recount_7 (by decide) ?_
    refine lv_aload_n hx hb dX10_recount_12 rfl (lv_at hl 0 rfl) ?_
    refine y_wrV (av := []) (rest := []) cx hk hW hA (htt_t.1) cv_RX10_59_8 (g_counts (tT t1_t) (sT S t1_t) htt_t hTt_t) hl.1 rfl rfl (Nat.le_of_ble_eq_true rfl) ⟨by decide, by decide⟩ ⟨by decide, by decide⟩ dX10_recount_13 (fun v_ lo1 co1 H locs hq_ hW => ?_)
    obtain ⟨hv_, hlo_, ht1, ho1⟩ := hq_
    have hlo2_ := hlo_.symm
    subst hv_ hlo2_
    have hw := hW.1
    refine lv_aload_n hx hb dX10_recount_16 rfl (lv_at hl 0 rfl) ?_
    refine x_get (v := .int (nI ((recT (sT S t1_t)).1 5))) cx hk hw (ht1.1) f_RX10_62_8 rfl dX10_recount_17 ?_
    exact y_iret cx hW hr hlk ⟨by decide, by decide⟩ dX10_recount_20 (by rw [← hpo]; rw [show P_recount S t = (nI ((sT S t1_t).1 3), setT S t1_t (recT (sT S t1_t))) from by unfold P_recount; rw [if_pos hc_t, ht3_t, nI_clamp (by omega)]]; exact ⟨rfl, rfl, X, dk_T hd hS ht1_t ht2_t ht1 ho1 rfl⟩)
  · skip
    rw [d_tab_0 hc_t]
    refine lv_astore_nN (lv' := [(2, .null), (0, .ref (lo (0))), (1, .int (t))]) hx hb dX10_recount_5 rfl hl (by decide) rfl (fun ls hl => ?_)
    refine lv_aload_nN hx hb dX10_recount_6 rfl (lv_at hl 0 rfl) ?_
    refine lv_ifnonnullN hx hb dX10_recount_7 ?_
    refine lv_iconst (v := (-1)) hx hb dX10_recount_10 rfl ?_
    exact y_iret cx hW hr hlk ⟨by decide, by decide⟩ dX10_recount_11 (by rw [← hpo]; rw [show P_recount S t = (-1, S) from by unfold P_recount; rw [if_neg hc_t]; done]; exact ⟨rfl, rfl, X, hd⟩)
set_option maxHeartbeats 4000000 in
set_option maxRecDepth 100000 in
theorem dw_changes {l : Launch} {G : x_G} {lo : x_L} {co : x_C} (dd : Nat) (S : St) (X : Sc) (hd : isDk G lo co dd S X) (hj : x_J lo co) (hS : Sok S) (hZ4 : ∀ t, t < 4 → Tz4 (sT S t)) (hms : m_set S (sn S 2) = true) (t n : Int32) : x_Wr l G lo (co) yX10_changes cX10_changes 4 (some .boolean) 3 0 0 [.ref (lo (0)), .int (t), .int (n)] (fun (v : Option Value) (lo1 : x_L) (co1 : x_C) => v = some (.int (bI (P_changes S t n).1)) ∧ lo1 0 = lo 0 ∧ ∃ X1, isDk G lo1 co1 dd (P_changes S t n).2 X1) := by
  refine x_wenter RX10 rfl (by decide) (Nat.le_of_ble_eq_true rfl) ?_
  intro pp ee ss mm bb mt cd ls AA cx hk hW hA hr hlk hnm hl
  have hl : lv_has ls 4 [(0, .ref (lo (0))), (1, .int (t)), (2, .int (n))] := hl
  generalize hav : ([.ref (lo (0)), .int (t), .int (n)] : List Value).toArray = av at cx ⊢
  generalize hpo : (fun (v : Option Value) (lo1 : x_L) (co1 : x_C) => v = some (.int (bI (P_changes S t n).1)) ∧ lo1 0 = lo 0 ∧ ∃ X1, isDk G lo1 co1 dd (P_changes S t n).2 X1) = po
  have hx := cx.1
  have hb := cx.2.1
  have hown := cx.2.2.2.1
  have hts := cx.2.2.2.2
  have hw := hW.1
  suffices key_ : ∀ (H : Heap) (locs : List Loc), x_D AA G ss.heap lo (co) H locs → x_ww l 3 0 0 pp ee ss mm av bb mt cd G po AA H locs 0 0 0 ls [] from key_ _ _ hW
  intro H locs hW
  have hw := hW.1
  obtain ⟨s1, s2, s3, s4, s5, s6⟩ := id hS
  obtain ⟨ft, hf1, hft⟩ := hd.2.1
  obtain ⟨mcq, evq, hq0⟩ := hd.L2.obj
  obtain ⟨mca, eva, ha0⟩ := hd.L4.obj
  refine lv_aload_n hx hb dX10_changes_0 rfl (lv_at hl 0 rfl) ?_
  refine lv_iload_n hx hb dX10_changes_1 rfl (lv_at hl 1 rfl) ?_
  refine x_rdV (av := [.int (t)]) (rest := []) cx hk hw (hd.1) cv_RX10_39_9 (d_tableAt dd S X hd hj hS t) hl.1 rfl rfl (Nat.le_of_ble_eq_true rfl) ⟨by decide, by decide⟩ ⟨Nat.zero_le _, Nat.zero_le _⟩ dX10_changes_2 ?_
  by_cases hc_t : m_isT S t = true
  · skip
    obtain ⟨t1_t, ht1_t, ht2_t, ht3_t⟩ := m_isT_ex hc_t
    have hTt_t := (s1 _ ht1_t).1 ht2_t
    have htt_t := hd.T ht1_t ht2_t
    rw [d_tab_1 hc_t ht3_t ht1_t]
    rw [ht3_t] at hl
    refine lv_astore_n (lv' := [(3, .ref (lo (tT t1_t))), (0, .ref (lo (0))), (1, .int (nI t1_t)), (2, .int (n))]) hx hb dX10_changes_5 rfl hl (by decide) rfl (fun ls hl => ?_)
    refine lv_aload_n hx hb dX10_changes_6 rfl (lv_at hl 0 rfl) ?_
    refine lv_ifnull hx hb dX10_changes_7 ?_
    refine lv_iload_n hx hb dX10_changes_10 rfl (lv_at hl 3 rfl) ?_
    refine lv_iconst (v := nI 0) hx hb dX10_changes_11 rfl ?_
    refine lv_sipush (v := nI 1000) hx hb dX10_changes_12 rfl ?_
    refine x_rdS (av := [.int (n), .int (nI 0), .int (nI 1000)]) (rest := []) cx hk hw cs_RX10_32 (c_btw n (nI 0) (nI 1000)) hl.1 rfl rfl (Nat.le_of_ble_eq_true rfl) ⟨by decide, by decide⟩ ⟨Nat.zero_le _, Nat.zero_le _⟩ dX10_changes_15 ?_
    refine x_if_ne (tgt := 23) cx dX10_changes_18 (by decide) (fun h18_1 => ?_) (fun h18_1 => ?_)
    · skip
      obtain ⟨n1, hn1b, hn1a, hn1e⟩ := nI_tc (x := n) (a := 0) (b := 1000) (by decide) (by decide) (by assumption)
      rw [hn1e] at hl
      refine lv_aload_n hx hb dX10_changes_23 rfl (lv_at hl 0 rfl) ?_
      refine lv_iload_n hx hb dX10_changes_24 rfl (lv_at hl 3 rfl) ?_
      refine t_pf4 cx hk hW htt_t p_RX10_73_8 dX10_changes_25 (fun co2 H locs ht2 ho2 hW => ?_)
      have hw := hW.1
      refine lv_iconst (v := nI 1) hx hb dX10_changes_28 rfl ?_
      exact y_zret (true) cx hW hr hlk ⟨by decide, by decide⟩ dX10_changes_29 rfl (by rw [← hpo]; rw [show P_changes S t n = (true, setT S t1_t (va_up (sT S t1_t).1 4 n1, (sT S t1_t).2)) from by unfold P_changes; rw [if_pos (by rw [hc_t, (by assumption : s_btw n (nI 0) (nI 1000) = true)]; rfl), ht3_t, hn1e, nI_clamp (by omega), nI_clamp (by omega)]]; exact ⟨rfl, rfl, X, dk_T hd hS ht1_t ht2_t ht2 ho2 rfl⟩)
    · skip
      refine lv_iconst (v := nI 0) hx hb dX10_changes_21 rfl ?_
      exact y_zret (false) cx hW hr hlk ⟨by decide, by decide⟩ dX10_changes_22 rfl (by rw [← hpo]; first | (rw [show P_changes S t n = (false, S) from by unfold P_changes; rw [if_neg (fun z => by rw [Bool.and_eq_true] at z; exact hc_t z.1)]; done]; exact ⟨rfl, rfl, X, hd⟩) | (rw [show P_changes S t n = (false, S) from by unfold P_changes; rw [if_neg (fun z => by rw [Bool.and_eq_true] at z; exact Bool.noConfusion ((by assumption : s_btw n (nI 0) (nI 1000) = false).symm.trans z.2))]; done]; exact ⟨rfl, rfl, X, hd⟩))
  · skip
    rw [d_tab_0 hc_t]
    refine lv_astore_nN (lv' := [(3, .null), (0, .ref (lo (0))), (1, .int (t)), (2, .int (n))]) hx hb dX10_changes_5 rfl hl (by decide) rfl (fun ls hl => ?_)
    refine lv_aload_nN hx hb dX10_changes_6 rfl (lv_at hl 0 rfl) ?_
    refine lv_ifnullN (tgt := 21) hx hb dX10_changes_7 (by decide) ?_
    refine lv_iconst (v := nI 0) hx hb dX10_changes_21 rfl ?_
    exact y_zret (false) cx hW hr hlk ⟨by decide, by decide⟩ dX10_changes_22 rfl (by rw [← hpo]; first | (rw [show P_changes S t n = (false, S) from by unfold P_changes; rw [if_neg (fun z => by rw [Bool.and_eq_true] at z; exact hc_t z.1)]; done]; exact ⟨rfl, rfl, X, hd⟩) | (rw [show P_changes S t n = (false, S) from by unfold P_changes; rw [if_neg (fun z => by rw [Bool.and_eq_true] at z; exact Bool.noConfusion ((by assumption : s_btw n (nI 0) (nI 1000) = false).symm.trans z.2))]; done]; exact ⟨rfl, rfl, X, hd⟩))
set_option maxHeartbeats 4000000 in
set_option maxRecDepth 100000 in
theorem dw_test {l : Launch} {G : x_G} {lo : x_L} {co : x_C} (dd : Nat) (S : St) (X : Sc) (hd : isDk G lo co dd S X) (hj : x_J lo co) (hS : Sok S) (hZ4 : ∀ t, t < 4 → Tz4 (sT S t)) (hms : m_set S (sn S 2) = true) (q c f t : Int32) : x_Wr l G lo (co) yX10_test cX10_test 6 (some .boolean) 5 0 0 [.ref (lo (0)), .int (q), .int (c), .int (f), .int (t)] (fun (v : Option Value) (lo1 : x_L) (co1 : x_C) => v = some (.int (bI (P_test S q c f t).1)) ∧ lo1 0 = lo 0 ∧ ∃ X1, isDk G lo1 co1 dd (P_test S q c f t).2 X1) := by
  refine x_wenter RX10 rfl (by decide) (Nat.le_of_ble_eq_true rfl) ?_
  intro pp ee ss mm bb mt cd ls AA cx hk hW hA hr hlk hnm hl
  have hl : lv_has ls 6 [(0, .ref (lo (0))), (1, .int (q)), (2, .int (c)), (3, .int (f)), (4, .int (t))] := hl
  generalize hav : ([.ref (lo (0)), .int (q), .int (c), .int (f), .int (t)] : List Value).toArray = av at cx ⊢
  generalize hpo : (fun (v : Option Value) (lo1 : x_L) (co1 : x_C) => v = some (.int (bI (P_test S q c f t).1)) ∧ lo1 0 = lo 0 ∧ ∃ X1, isDk G lo1 co1 dd (P_test S q c f t).2 X1) = po
  have hx := cx.1
  have hb := cx.2.1
  have hown := cx.2.2.2.1
  have hts := cx.2.2.2.2
  have hw := hW.1
  suffices key_ : ∀ (H : Heap) (locs : List Loc), x_D AA G ss.heap lo (co) H locs → x_ww l 5 0 0 pp ee ss mm av bb mt cd G po AA H locs 0 0 0 ls [] from key_ _ _ hW
  intro H locs hW
  have hw := hW.1
  obtain ⟨s1, s2, s3, s4, s5, s6⟩ := id hS
  obtain ⟨ft, hf1, hft⟩ := hd.2.1
  obtain ⟨mcq, evq, hq0⟩ := hd.L2.obj
  obtain ⟨mca, eva, ha0⟩ := hd.L4.obj
  refine lv_aload_n hx hb dX10_test_0 rfl (lv_at hl 0 rfl) ?_
  refine lv_iload_n hx hb dX10_test_1 rfl (lv_at hl 1 rfl) ?_
  refine x_rdV (av := [.int (q)]) (rest := []) cx hk hw (hd.1) cv_RX10_95_9 (d_questionAt dd S X hd hj hS q) hl.1 rfl rfl (Nat.le_of_ble_eq_true rfl) ⟨by decide, by decide⟩ ⟨Nat.zero_le _, Nat.zero_le _⟩ dX10_test_2 ?_
  by_cases hc_q : x_in (sn S 0) q = true
  · skip
    obtain ⟨q1_q, hq1_q, hq3_q⟩ := x_in_ex (n := sn S 0) (by omega) hc_q
    obtain ⟨v1_q, v2_q, hQq_q⟩ := s5 q1_q hq1_q
    have hTq_q := (s1 _ v1_q).1 v2_q
    have htq_q := hd.T v1_q v2_q
    have hqq_q := hd.Q (q := q1_q) hq1_q
    rw [d_qn_1 hc_q hq3_q (by omega)]
    rw [hq3_q] at hl
    refine lv_astore (lv' := [(5, .ref (lo (tQ q1_q))), (0, .ref (lo (0))), (1, .int (nI q1_q)), (2, .int (c)), (3, .int (f)), (4, .int (t))]) hx hb dX10_test_5 hl (by decide) rfl (fun ls hl => ?_)
    refine lv_aload hx hb dX10_test_7 (lv_at hl 0 rfl) ?_
    refine lv_ifnull hx hb dX10_test_9 ?_
    refine lv_aload hx hb dX10_test_12 (lv_at hl 0 rfl) ?_
    refine x_get (v := .ref (lo (tT (qt S q1_q)))) cx hk hw (hqq_q.1) f_RX10_99_5 rfl dX10_test_14 ?_
    refine lv_iload_n hx hb dX10_test_17 rfl (lv_at hl 3 rfl) ?_
    refine x_rdV (av := [.int (c)]) (rest := []) cx hk hw (htq_q.1) cv_RX10_103_8 (c_t_has (tT (qt S q1_q)) (sT S (qt S q1_q)) htq_q c) hl.1 rfl rfl (Nat.le_of_ble_eq_true rfl) ⟨by decide, by decide⟩ ⟨Nat.zero_le _, Nat.zero_le _⟩ dX10_test_18 ?_
    refine x_if_eq (tgt := 33) cx dX10_test_21 (by decide) (fun h21_1 => ?_) (fun h21_1 => ?_)
    · skip
      refine lv_iconst (v := nI 0) hx hb dX10_test_33 rfl ?_
      exact y_zret (false) cx hW hr hlk ⟨by decide, by decide⟩ dX10_test_34 rfl (by rw [← hpo]; first | (rw [show P_test S q c f t = (false, S) from by unfold P_test; rw [if_neg (fun z => hc_q z.1)]; done]; exact ⟨rfl, rfl, X, hd⟩) | (rw [show P_test S q c f t = (false, S) from by unfold P_test; rw [if_neg (fun z => by have z2 := z.2.1; rw [hq3_q, nI_clamp (by omega)] at z2; exact Bool.noConfusion ((by assumption : t_has (sT S (qt S q1_q)) c = false).symm.trans z2))]; done]; exact ⟨rfl, rfl, X, hd⟩) | (rw [show P_test S q c f t = (false, S) from by unfold P_test; rw [if_neg (fun z => Bool.noConfusion ((by assumption : s_rng f t = false).symm.trans z.2.2))]; done]; exact ⟨rfl, rfl, X, hd⟩))
    · skip
      refine lv_iload_n hx hb dX10_test_24 rfl (lv_at hl 4 rfl) ?_
      refine lv_iload hx hb dX10_test_25 (lv_at hl 5 rfl) ?_
      refine x_rdS (av := [.int (f), .int (t)]) (rest := []) cx hk hw cs_RX10_106 (c_rng f t) hl.1 rfl rfl (Nat.le_of_ble_eq_true rfl) ⟨by decide, by decide⟩ ⟨Nat.zero_le _, Nat.zero_le _⟩ dX10_test_27 ?_
      refine x_if_ne (tgt := 35) cx dX10_test_30 (by decide) (fun h30_2 => ?_) (fun h30_2 => ?_)
      · skip
        obtain ⟨c1, hc1, hc3⟩ := t_has_ex (T := sT S (qt S q1_q)) hTq_q.2.1 (by assumption)
        have hc4 := hTq_q.2.1
        have hrg := (by assumption : s_rng f t = true)
        rw [rng_eq, Bool.and_eq_true] at hrg
        obtain ⟨f1, hf1b, hf1a, hf1e⟩ := nI_tc (x := f) (a := 0) (b := 999) (by decide) (by decide) hrg.1
        obtain ⟨t1, ht1b, ht1a, ht1e⟩ := nI_tc (x := t) (a := f1) (b := 999) (by omega) (by decide) (by rw [← hf1e]; exact hrg.2)
        rw [hc3, hf1e, ht1e] at hl
        refine lv_aload hx hb dX10_test_35 (lv_at hl 0 rfl) ?_
        refine lv_iload_n hx hb dX10_test_37 rfl (lv_at hl 3 rfl) ?_
        refine lv_iload_n hx hb dX10_test_38 rfl (lv_at hl 4 rfl) ?_
        refine lv_iload hx hb dX10_test_39 (lv_at hl 5 rfl) ?_
        refine y_wrV (av := [.int (nI c1), .int (nI f1), .int (nI t1)]) (rest := []) cx hk hW hA (hqq_q.1) cv_RX10_110_5 (g_limit (tQ q1_q) (tT (qt S q1_q)) (qQ S q1_q) hqq_q c1 f1 t1 (by omega)) hl.1 rfl rfl (Nat.le_of_ble_eq_true rfl) ⟨by decide, by decide⟩ ⟨by decide, by decide⟩ dX10_test_41 (fun v_ lo3 co3 H locs hq_ hW => ?_)
        obtain ⟨hv_, hlo_, hq3, ho3⟩ := hq_
        have hlo2_ := hlo_.symm
        subst hv_ hlo2_
        have hw := hW.1
        refine lv_iconst (v := nI 1) hx hb dX10_test_44 rfl ?_
        exact y_zret (true) cx hW hr hlk ⟨by decide, by decide⟩ dX10_test_45 rfl (by rw [← hpo]; rw [show P_test S q c f t = (true, setQ S q1_q (tstQ (qQ S q1_q) c1 f1 t1)) from by unfold P_test; rw [if_pos ⟨hc_q, by rw [hq3_q, nI_clamp (by omega)]; assumption, by assumption⟩, hq3_q, hc3, hf1e, ht1e, nI_clamp (by omega), nI_clamp (by omega), nI_clamp (by omega), nI_clamp (by omega)]]; exact ⟨rfl, rfl, X, dk_Q hd hS hq1_q hq3 ho3⟩)
      · skip
        refine lv_iconst (v := nI 0) hx hb dX10_test_33 rfl ?_
        exact y_zret (false) cx hW hr hlk ⟨by decide, by decide⟩ dX10_test_34 rfl (by rw [← hpo]; first | (rw [show P_test S q c f t = (false, S) from by unfold P_test; rw [if_neg (fun z => hc_q z.1)]; done]; exact ⟨rfl, rfl, X, hd⟩) | (rw [show P_test S q c f t = (false, S) from by unfold P_test; rw [if_neg (fun z => by have z2 := z.2.1; rw [hq3_q, nI_clamp (by omega)] at z2; exact Bool.noConfusion ((by assumption : t_has (sT S (qt S q1_q)) c = false).symm.trans z2))]; done]; exact ⟨rfl, rfl, X, hd⟩) | (rw [show P_test S q c f t = (false, S) from by unfold P_test; rw [if_neg (fun z => Bool.noConfusion ((by assumption : s_rng f t = false).symm.trans z.2.2))]; done]; exact ⟨rfl, rfl, X, hd⟩))
  · skip
    rw [d_qn_0 hc_q]
    refine lv_astoreN (lv' := [(5, .null), (0, .ref (lo (0))), (1, .int (q)), (2, .int (c)), (3, .int (f)), (4, .int (t))]) hx hb dX10_test_5 hl (by decide) rfl (fun ls hl => ?_)
    refine lv_aloadN hx hb dX10_test_7 (lv_at hl 0 rfl) ?_
    refine lv_ifnullN (tgt := 33) hx hb dX10_test_9 (by decide) ?_
    refine lv_iconst (v := nI 0) hx hb dX10_test_33 rfl ?_
    exact y_zret (false) cx hW hr hlk ⟨by decide, by decide⟩ dX10_test_34 rfl (by rw [← hpo]; first | (rw [show P_test S q c f t = (false, S) from by unfold P_test; rw [if_neg (fun z => hc_q z.1)]; done]; exact ⟨rfl, rfl, X, hd⟩) | (rw [show P_test S q c f t = (false, S) from by unfold P_test; rw [if_neg (fun z => by have z2 := z.2.1; rw [hq3_q, nI_clamp (by omega)] at z2; exact Bool.noConfusion ((by assumption : t_has (sT S (qt S q1_q)) c = false).symm.trans z2))]; done]; exact ⟨rfl, rfl, X, hd⟩) | (rw [show P_test S q c f t = (false, S) from by unfold P_test; rw [if_neg (fun z => Bool.noConfusion ((by assumption : s_rng f t = false).symm.trans z.2.2))]; done]; exact ⟨rfl, rfl, X, hd⟩))
set_option maxHeartbeats 4000000 in
set_option maxRecDepth 100000 in
theorem dw_build {l : Launch} {G : x_G} {lo : x_L} {co : x_C} (dd : Nat) (S : St) (X : Sc) (hd : isDk G lo co dd S X) (hj : x_J lo co) (hS : Sok S) (hZ4 : ∀ t, t < 4 → Tz4 (sT S t)) (hms : m_set S (sn S 2) = true) (a : Int32) (is : Bool) : x_Wr l G lo (co) yX10_build cX10_build 4 (some .boolean) 6 0 0 [.ref (lo (0)), .int (a), .int (bI (is))] (fun (v : Option Value) (lo1 : x_L) (co1 : x_C) => v = some (.int (bI (P_build S a is).1)) ∧ lo1 0 = lo 0 ∧ ∃ X1, isDk G lo1 co1 dd (P_build S a is).2 X1) := by
  refine x_wenter RX10 rfl (by decide) (Nat.le_of_ble_eq_true rfl) ?_
  intro pp ee ss mm bb mt cd ls AA cx hk hW hA hr hlk hnm hl
  have hl : lv_has ls 4 [(0, .ref (lo (0))), (1, .int (a)), (2, .int (bI (is)))] := hl
  generalize hav : ([.ref (lo (0)), .int (a), .int (bI (is))] : List Value).toArray = av at cx ⊢
  generalize hpo : (fun (v : Option Value) (lo1 : x_L) (co1 : x_C) => v = some (.int (bI (P_build S a is).1)) ∧ lo1 0 = lo 0 ∧ ∃ X1, isDk G lo1 co1 dd (P_build S a is).2 X1) = po
  have hx := cx.1
  have hb := cx.2.1
  have hown := cx.2.2.2.1
  have hts := cx.2.2.2.2
  have hw := hW.1
  suffices key_ : ∀ (H : Heap) (locs : List Loc), x_D AA G ss.heap lo (co) H locs → x_ww l 6 0 0 pp ee ss mm av bb mt cd G po AA H locs 0 0 0 ls [] from key_ _ _ hW
  intro H locs hW
  have hw := hW.1
  obtain ⟨s1, s2, s3, s4, s5, s6⟩ := id hS
  obtain ⟨ft, hf1, hft⟩ := hd.2.1
  obtain ⟨mcq, evq, hq0⟩ := hd.L2.obj
  obtain ⟨mca, eva, ha0⟩ := hd.L4.obj
  have hb12 := Sok.b12 hS
  refine lv_aload_n hx hb dX10_build_0 rfl (lv_at hl 0 rfl) ?_
  refine lv_iload_n hx hb dX10_build_1 rfl (lv_at hl 1 rfl) ?_
  refine x_rdV (av := [.int (a)]) (rest := []) cx hk hw (hd.1) cv_RX10_154_9 (d_aidAt dd S X hd hj hS a) hl.1 rfl rfl (Nat.le_of_ble_eq_true rfl) ⟨by decide, by decide⟩ ⟨Nat.zero_le _, Nat.zero_le _⟩ dX10_build_2 ?_
  by_cases hc_a : x_in (sn S 1) a = true
  · skip
    obtain ⟨a1_a, ha1_a, ha3_a⟩ := x_in_ex (n := sn S 1) (by omega) hc_a
    obtain ⟨u1_a, u2_a, hAa_a⟩ := s6 a1_a ha1_a
    have hTa_a := (s1 _ u1_a).1 u2_a
    have hta_a := hd.T u1_a u2_a
    have had_a := hd.A (a := a1_a) ha1_a
    have hBa_a := aok_bA (S := S) hAa_a
    have hA4_a := hAa_a.1
    rw [d_ad_1 hc_a ha3_a (by omega)]
    rw [ha3_a] at hl
    refine lv_astore_n (lv' := [(3, .ref (lo (tA a1_a))), (0, .ref (lo (0))), (1, .int (nI a1_a)), (2, .int (bI (is)))]) hx hb dX10_build_5 rfl hl (by decide) rfl (fun ls hl => ?_)
    refine lv_aload_n hx hb dX10_build_6 rfl (lv_at hl 0 rfl) ?_
    refine lv_ifnull hx hb dX10_build_7 ?_
    refine lv_aload_n hx hb dX10_build_10 rfl (lv_at hl 0 rfl) ?_
    refine ag_RX10_158 cx hk hw had_a dX10_build_11 ?_
    rw [b6_bA]
    refine lv_iload_n hx hb dX10_build_14 rfl (lv_at hl 3 rfl) ?_
    refine lv_icmp_ne (tgt := 20) hx hb dX10_build_15 (by decide) (fun h15_1 => ?_) (fun h15_1 => ?_)
    · skip
      refine lv_iload_n hx hb dX10_build_20 rfl (lv_at hl 3 rfl) ?_
      refine x_if_eq (tgt := 42) cx dX10_build_21 (by decide) (fun h21_2 => ?_) (fun h21_2 => ?_)
      · skip
        refine lv_aload_n hx hb dX10_build_42 rfl (lv_at hl 0 rfl) ?_
        refine lv_iload_n hx hb dX10_build_43 rfl (lv_at hl 3 rfl) ?_
        refine ap_RX10_158 cx hk hW had_a dX10_build_44 (fun co3 H locs hb3 ho3 hW => ?_)
        have hw := hW.1
        refine lv_iconst (v := nI 1) hx hb dX10_build_47 rfl ?_
        exact y_zret (true) cx hW hr hlk ⟨by decide, by decide⟩ dX10_build_48 rfl (by rw [← hpo]; rw [show P_build S a is = (true, setB S (sn S 2 ^^^ 2 ^ a1_a)) from by have hne : (sn S 2).testBit a1_a ≠ is := fun q => (by assumption : ¬ bI ((sn S 2).testBit a1_a) = bI is) (congrArg bI q); unfold P_build; rw [if_pos ⟨hc_a, by rw [ha3_a, nI_clamp (by omega)]; exact hne, fun hi_ => by rw [ha3_a, nI_clamp (by omega)]; first | exact (set_add hms ha1_a (by cases e_ : (sn S 2).testBit a1_a with | false => rfl | true => exact absurd (e_.trans hi_.symm) hne)).mpr (by assumption) | exact absurd ((by assumption : is = false).symm.trans hi_) (by decide)⟩, ha3_a, nI_clamp (by omega)]]; exact ⟨rfl, rfl, X, dk_B (v := is) hd hS ha1_a (fun q => (by assumption : ¬ bI ((sn S 2).testBit a1_a) = bI is) (congrArg bI q)) hb3 ho3⟩)
      · skip
        refine lv_aload_n hx hb dX10_build_24 rfl (lv_at hl 1 rfl) ?_
        refine x_get (v := .ref (lo (4))) cx hk hw (hd.1) f_RX10_22_9 rfl dX10_build_25 ?_
        refine lv_iload_n hx hb dX10_build_28 rfl (lv_at hl 2 rfl) ?_
        refine x_rdS (av := [.ref (lo (4)), .int (nI a1_a)]) (rest := []) cx hk hw cs_RX10_164 (d_rivalsOf dd S X hd hj hS a1_a (by omega)) hl.1 rfl rfl (Nat.le_of_ble_eq_true rfl) ⟨by decide, by decide⟩ ⟨Nat.zero_le _, Nat.zero_le _⟩ dX10_build_29 ?_
        refine lv_aload_n hx hb dX10_build_32 rfl (lv_at hl 1 rfl) ?_
        refine x_rdV (av := []) (rest := [.int (nI (d_rivs S a1_a))]) cx hk hw (hd.1) cv_RX10_168_9 (d_built dd S X hd hj hS) hl.1 rfl rfl (Nat.le_of_ble_eq_true rfl) ⟨by decide, by decide⟩ ⟨Nat.zero_le _, Nat.zero_le _⟩ dX10_build_33 ?_
        have hrl := d_rivs_lt S a1_a
        refine x_iandB cx dX10_build_36 ?_
        have hal : d_rivs S a1_a &&& sn S 2 ≤ sn S 2 := Nat.and_le_right
        refine x_ifN_eq (tgt := 42) cx dX10_build_37 (by decide) (by omega) (fun h37_4 => ?_) (fun h37_4 => ?_)
        · skip
          refine lv_aload_n hx hb dX10_build_42 rfl (lv_at hl 0 rfl) ?_
          refine lv_iload_n hx hb dX10_build_43 rfl (lv_at hl 3 rfl) ?_
          refine ap_RX10_158 cx hk hW had_a dX10_build_44 (fun co5 H locs hb5 ho5 hW => ?_)
          have hw := hW.1
          refine lv_iconst (v := nI 1) hx hb dX10_build_47 rfl ?_
          exact y_zret (true) cx hW hr hlk ⟨by decide, by decide⟩ dX10_build_48 rfl (by rw [← hpo]; rw [show P_build S a is = (true, setB S (sn S 2 ^^^ 2 ^ a1_a)) from by have hne : (sn S 2).testBit a1_a ≠ is := fun q => (by assumption : ¬ bI ((sn S 2).testBit a1_a) = bI is) (congrArg bI q); unfold P_build; rw [if_pos ⟨hc_a, by rw [ha3_a, nI_clamp (by omega)]; exact hne, fun hi_ => by rw [ha3_a, nI_clamp (by omega)]; first | exact (set_add hms ha1_a (by cases e_ : (sn S 2).testBit a1_a with | false => rfl | true => exact absurd (e_.trans hi_.symm) hne)).mpr (by assumption) | exact absurd ((by assumption : is = false).symm.trans hi_) (by decide)⟩, ha3_a, nI_clamp (by omega)]]; exact ⟨rfl, rfl, X, dk_B (v := is) hd hS ha1_a (fun q => (by assumption : ¬ bI ((sn S 2).testBit a1_a) = bI is) (congrArg bI q)) hb5 ho5⟩)
        · skip
          refine lv_iconst (v := nI 0) hx hb dX10_build_40 rfl ?_
          exact y_zret (false) cx hW hr hlk ⟨by decide, by decide⟩ dX10_build_41 rfl (by rw [← hpo]; rw [show P_build S a is = (false, S) from by unfold P_build; rw [if_neg (fun z => by have z2 := z.2.1; have z3 := z.2.2 (by assumption); rw [ha3_a, nI_clamp (by omega)] at z2 z3; exact absurd ((set_add hms ha1_a (by cases e_ : (sn S 2).testBit a1_a with | false => rfl | true => exact absurd (e_.trans (by assumption : is = true).symm) z2)).mp z3) (by assumption))]; done]; exact ⟨rfl, rfl, X, hd⟩)
    · skip
      refine lv_iconst (v := nI 0) hx hb dX10_build_18 rfl ?_
      exact y_zret (false) cx hW hr hlk ⟨by decide, by decide⟩ dX10_build_19 rfl (by rw [← hpo]; first | (rw [show P_build S a is = (false, S) from by unfold P_build; rw [if_neg (fun z => hc_a z.1)]; done]; exact ⟨rfl, rfl, X, hd⟩) | (rw [show P_build S a is = (false, S) from by unfold P_build; rw [if_neg (fun z => by have z2 := z.2.1; rw [ha3_a, nI_clamp (by omega)] at z2; exact z2 (bI_inj (by assumption)))]; done]; exact ⟨rfl, rfl, X, hd⟩))
  · skip
    rw [d_ad_0 hc_a]
    refine lv_astore_nN (lv' := [(3, .null), (0, .ref (lo (0))), (1, .int (a)), (2, .int (bI (is)))]) hx hb dX10_build_5 rfl hl (by decide) rfl (fun ls hl => ?_)
    refine lv_aload_nN hx hb dX10_build_6 rfl (lv_at hl 0 rfl) ?_
    refine lv_ifnullN (tgt := 18) hx hb dX10_build_7 (by decide) ?_
    refine lv_iconst (v := nI 0) hx hb dX10_build_18 rfl ?_
    exact y_zret (false) cx hW hr hlk ⟨by decide, by decide⟩ dX10_build_19 rfl (by rw [← hpo]; first | (rw [show P_build S a is = (false, S) from by unfold P_build; rw [if_neg (fun z => hc_a z.1)]; done]; exact ⟨rfl, rfl, X, hd⟩) | (rw [show P_build S a is = (false, S) from by unfold P_build; rw [if_neg (fun z => by have z2 := z.2.1; rw [ha3_a, nI_clamp (by omega)] at z2; exact z2 (bI_inj (by assumption)))]; done]; exact ⟨rfl, rfl, X, hd⟩))
