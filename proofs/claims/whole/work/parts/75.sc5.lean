set_option maxHeartbeats 4000000 in
set_option maxRecDepth 100000 in
theorem g_cheap {l : Launch} {G : x_G} {lo : x_L} {co : x_C} (S : St) (X : Sc) (hS : Sok S) (hs : isSc G lo co X) (hL : Lok S X) (r : Nat) (hr0 : Lrow S X 0 (fun q => m_plain S q)) (hr_ : r ≤ 10000) : x_Wr l G lo (co) yX7_cheapest cX7_cheapest 2 (some .int) 17 0 0 [.ref (lo (6)), .int (nI r)] (fun (v : Option Value) (lo1 : x_L) (co1 : x_C) => v = some (.int (nI (c_best S r (2 ^ sn S 1)))) ∧ lo1 = lo ∧ ofr co co1 6 47 ∧ ∃ X1, isSc G lo co1 X1 ∧ Lok S X1) := by
  refine x_wenter RX7 rfl (by decide) (Nat.le_of_ble_eq_true rfl) ?_
  intro pp ee ss mm bb mt cd ls AA cx hk hW hA hr hlk hnm hl
  have hl : lv_has ls 2 [(0, .ref (lo (6))), (1, .int (nI r))] := hl
  generalize hav : ([.ref (lo (6)), .int (nI r)] : List Value).toArray = av at cx ⊢
  generalize hpo : (fun (v : Option Value) (lo1 : x_L) (co1 : x_C) => v = some (.int (nI (c_best S r (2 ^ sn S 1)))) ∧ lo1 = lo ∧ ofr co co1 6 47 ∧ ∃ X1, isSc G lo co1 X1 ∧ Lok S X1) = po
  have hx := cx.1
  have hb := cx.2.1
  have hown := cx.2.2.2.1
  have hts := cx.2.2.2.2
  have hw := hW.1
  suffices key_ : ∀ (H : Heap) (locs : List Loc), x_D AA G ss.heap lo (co) H locs → x_ww l 17 0 0 pp ee ss mm av bb mt cd G po AA H locs 0 0 0 ls [] from key_ _ _ hW
  intro H locs hW
  have hw := hW.1
  obtain ⟨s1, s2, s3, s4, s5, s6⟩ := id hS
  have h6 := hs.1
  rw [hL.1, hL.2.1] at h6
  obtain ⟨f8, hc8, hf8⟩ := hs.2.2.1
  obtain ⟨f12, hc12, hf12⟩ := hs.2.2.2.2.2.2.1
  have hb12 := Sok.b12 hS
  refine lv_aload_n hx hb dX7_cheapest_0 rfl (lv_at hl 0 rfl) ?_
  refine lv_iconst (v := nI 0) hx hb dX7_cheapest_1 rfl ?_
  refine sc_pf8 cx hk hW hs p_RX7_112_6 dX7_cheapest_2 (fun co1 H locs hs1 ho1 hW => ?_)
  have hw := hW.1
  have hLa : Lok S (va_up X.1 2 (nI 0), X.2) := Lok.X hL rfl rfl rfl
  have hr0a : Lrow S (va_up X.1 2 (nI 0), X.2) 0 (fun q => m_plain S q) := hr0
  have h6a := hs1.1
  rw [hLa.1, hLa.2.1] at h6a
  obtain ⟨f8a, hc8a, hf8a⟩ := hs1.2.2.1
  obtain ⟨f12a, hc12a, hf12a⟩ := hs1.2.2.2.2.2.2.1
  refine lv_aload_n hx hb dX7_cheapest_5 rfl (lv_at hl 0 rfl) ?_
  refine lv_aload_n hx hb dX7_cheapest_6 rfl (lv_at hl 0 rfl) ?_
  refine x_rdV (av := []) (rest := [.ref (lo (6))]) cx hk hw (h6a) cv_RX7_93_6 (s_wn S (va_up X.1 2 (nI 0), X.2) hS hs1 hLa (fun q_ => m_plain S q_) (fun q hq => m_plain_le hS hq) hr0a) hl.1 rfl rfl (Nat.le_of_ble_eq_true rfl) ⟨by show _ ≤ 17; omega, by show _ ≤ 40 * 17; omega⟩ ⟨Nat.zero_le _, Nat.zero_le _⟩ dX7_cheapest_7 ?_
  rw [← m_tot_0]
  refine sc_pf9 cx hk hW hs1 p_RX7_115_6 dX7_cheapest_10 (fun co2 H locs hs2 ho2 hW => ?_)
  have hw := hW.1
  have hLb : Lok S ((va_up X.1 2 (nI 0), X.2).1, lN (m_tot S 0), (va_up X.1 2 (nI 0), X.2).2.2) := Lok.X hL rfl rfl rfl
  have hr0b : Lrow S ((va_up X.1 2 (nI 0), X.2).1, lN (m_tot S 0), (va_up X.1 2 (nI 0), X.2).2.2) 0 (fun q => m_plain S q) := hr0
  have h6b := hs2.1
  rw [hLb.1, hLb.2.1] at h6b
  obtain ⟨f8b, hc8b, hf8b⟩ := hs2.2.2.1
  obtain ⟨f12b, hc12b, hf12b⟩ := hs2.2.2.2.2.2.2.1
  refine lv_aload_n hx hb dX7_cheapest_13 rfl (lv_at hl 0 rfl) ?_
  refine lv_iconst (v := nI 0) hx hb dX7_cheapest_14 rfl ?_
  refine lv_iconst (v := nI 0) hx hb dX7_cheapest_15 rfl ?_
  refine lv_aload_n hx hb dX7_cheapest_16 rfl (lv_at hl 0 rfl) ?_
  refine x_get (v := .long (lN (m_tot S 0))) cx hk hw (h6b) f_RX7_115_6 rfl dX7_cheapest_17 ?_
  refine lv_iload_n hx hb dX7_cheapest_20 rfl (lv_at hl 1 rfl) ?_
  refine y_wrV (av := [.int (nI 0), .int (nI 0), .long (lN (m_tot S 0)), .int (nI r)]) (rest := []) cx hk hW hA (hs2.1) cv_RX7_119_6 (g_explore S hS r hr_ (sn S 1) 0 (Nat.zero_add _) _ ((va_up X.1 2 (nI 0), X.2).1, lN (m_tot S 0), (va_up X.1 2 (nI 0), X.2).2.2) 0 0 r hs2 hLb hr0b (by decide) rfl (Nat.two_pow_pos _) rfl (by rw [m_rs_0, Nat.add_zero])) hl.1 rfl rfl (Nat.le_of_ble_eq_true rfl) ⟨by show _ ≤ 17; omega, by show _ ≤ 40 * 17; omega⟩ ⟨by decide, by decide⟩ dX7_cheapest_21 (fun v_ lo3 co3 H locs hq_ hW => ?_)
  obtain ⟨hv_, hlo_, ho3, X3, hs3, hL3, hrw3, hxb3, hxc3⟩ := hq_
  have hlo2_ := hlo_.symm
  subst hv_ hlo2_
  have hw := hW.1
  have h63 := hs3.1
  rw [hL3.1, hL3.2.1, hxb3] at h63
  refine lv_aload_n hx hb dX7_cheapest_24 rfl (lv_at hl 0 rfl) ?_
  refine x_get (v := .int (nI (exN S r (sn S 1) 0 0 0))) cx hk hw (h63) f_RX7_112_6 rfl dX7_cheapest_25 ?_
  exact y_iret cx hW hr hlk ⟨by decide, by decide⟩ dX7_cheapest_28 (by rw [← hpo]; exact ⟨by rw [exN_best hS], rfl, ((ho1).tr ho2).tr ho3, X3, hs3, hL3⟩)
set_option maxHeartbeats 4000000 in
set_option maxRecDepth 100000 in
theorem dw_total {l : Launch} {G : x_G} {lo : x_L} {co : x_C} (dd : Nat) (S : St) (X : Sc) (hd : isDk G lo co dd S X) (hj : x_J lo co) (hS : Sok S) (hZ4 : ∀ t, t < 4 → Tz4 (sT S t)) (hms : m_set S (sn S 2) = true) (hnum : ∀ t, t < 4 → 0 < (sT S t).1 1 → (sT S t).1 0 = t) (s : Int32) : x_Wr l G lo (co) yX10_total cX10_total 2 (some .long) 9 0 0 [.ref (lo (0)), .int (s)] (fun (v : Option Value) (lo1 : x_L) (co1 : x_C) => v = some (.long (P_total S s)) ∧ lo1 0 = lo 0 ∧ ∃ X1, isDk G lo1 co1 dd S X1) := by
  refine x_wenter RX10 rfl (by decide) (Nat.le_of_ble_eq_true rfl) ?_
  intro pp ee ss mm bb mt cd ls AA cx hk hW hA hr hlk hnm hl
  have hl : lv_has ls 2 [(0, .ref (lo (0))), (1, .int (s))] := hl
  generalize hav : ([.ref (lo (0)), .int (s)] : List Value).toArray = av at cx ⊢
  generalize hpo : (fun (v : Option Value) (lo1 : x_L) (co1 : x_C) => v = some (.long (P_total S s)) ∧ lo1 0 = lo 0 ∧ ∃ X1, isDk G lo1 co1 dd S X1) = po
  have hx := cx.1
  have hb := cx.2.1
  have hown := cx.2.2.2.1
  have hts := cx.2.2.2.2
  have hw := hW.1
  suffices key_ : ∀ (H : Heap) (locs : List Loc), x_D AA G ss.heap lo (co) H locs → x_ww l 9 0 0 pp ee ss mm av bb mt cd G po AA H locs 0 0 0 ls [] from key_ _ _ hW
  intro H locs hW
  have hw := hW.1
  obtain ⟨s1, s2, s3, s4, s5, s6⟩ := id hS
  obtain ⟨ft, hf1, hft⟩ := hd.2.1
  obtain ⟨mcq, evq, hq0⟩ := hd.L2.obj
  obtain ⟨mca, eva, ha0⟩ := hd.L4.obj
  have hs0 := hd.sc
  have hb12 := Sok.b12 hS
  refine lv_aload_n hx hb dX10_total_0 rfl (lv_at hl 0 rfl) ?_
  refine lv_iload_n hx hb dX10_total_1 rfl (lv_at hl 1 rfl) ?_
  refine x_rdV (av := [.int (s)]) (rest := []) cx hk hw (hd.1) cv_RX10_221_9 (d_isSet dd S X hd hj hS s) hl.1 rfl rfl (Nat.le_of_ble_eq_true rfl) ⟨by decide, by decide⟩ ⟨Nat.zero_le _, Nat.zero_le _⟩ dX10_total_2 ?_
  refine x_if_ne (tgt := 12) cx dX10_total_5 (by decide) (fun h5_1 => ?_) (fun h5_1 => ?_)
  · skip
    obtain ⟨n, hn1, hn2, hn⟩ := m_isS_ex hS (by assumption)
    rw [hn] at hl
    refine lv_aload_n hx hb dX10_total_12 rfl (lv_at hl 0 rfl) ?_
    refine x_get (v := .ref (lo (6))) cx hk hw (hd.1) f_RX10_28_9 rfl dX10_total_13 ?_
    refine lv_aload_n hx hb dX10_total_16 rfl (lv_at hl 0 rfl) ?_
    refine x_get (v := .ref (lo (2))) cx hk hw (hd.1) f_RX10_18_9 rfl dX10_total_17 ?_
    refine lv_aload_n hx hb dX10_total_20 rfl (lv_at hl 0 rfl) ?_
    refine x_get (v := .ref (lo (4))) cx hk hw (hd.1) f_RX10_22_9 rfl dX10_total_21 ?_
    refine y_wrV (av := [.ref (lo (2)), .ref (lo (4))]) (rest := []) cx hk hW hA (hs0.1) cv_RX10_183_6 (g_load dd S X hd hj hS) hl.1 rfl rfl (Nat.le_of_ble_eq_true rfl) ⟨by decide, by decide⟩ ⟨by decide, by decide⟩ dX10_total_24 (fun v_ lo2 co2 H locs hq_ hW => ?_)
    obtain ⟨hv_, hlo_, ho2, X2, hd2, hL2, hr2⟩ := hq_
    have hlo2_ := hlo_.symm
    subst hv_ hlo2_
    have hw := hW.1
    have hs2 := hd2.sc
    have h62 := hs2.1
    rw [hL2.1, hL2.2.1] at h62
    obtain ⟨f82, hc82, hf82⟩ := hs2.2.2.1
    obtain ⟨f122, hc122, hf122⟩ := hs2.2.2.2.2.2.2.1
    have hd := hd2
    have hj : x_J lo _ := hW.2.1.1
    obtain ⟨ft, hf1, hft⟩ := hd.2.1
    obtain ⟨mcq, evq, hq0⟩ := hd.L2.obj
    obtain ⟨mca, eva, ha0⟩ := hd.L4.obj
    refine lv_aload_n hx hb dX10_total_27 rfl (lv_at hl 0 rfl) ?_
    refine x_get (v := .ref (lo (6))) cx hk hw (hd.1) f_RX10_28_9 rfl dX10_total_28 ?_
    refine lv_iload_n hx hb dX10_total_31 rfl (lv_at hl 1 rfl) ?_
    refine y_wrV (av := [.int (nI n)]) (rest := []) cx hk hW hA (h62) cv_RX10_187_6 (g_weigh S X2 hS hs2 hL2 n hr2 (by omega)) hl.1 rfl rfl (Nat.le_of_ble_eq_true rfl) ⟨by decide, by decide⟩ ⟨by decide, by decide⟩ dX10_total_32 (fun v_ lo3 co3 H locs hq_ hW => ?_)
    obtain ⟨hv_, hlo_, ho3, X3, hs3, hL3, hr3⟩ := hq_
    have hlo2_ := hlo_.symm
    subst hv_ hlo2_
    have hw := hW.1
    have h63 := hs3.1
    rw [hL3.1, hL3.2.1] at h63
    obtain ⟨f83, hc83, hf83⟩ := hs3.2.2.1
    obtain ⟨f123, hc123, hf123⟩ := hs3.2.2.2.2.2.2.1
    have hd := dk_X hd hs3 ho3
    have hj : x_J lo _ := hW.2.1.1
    obtain ⟨ft, hf1, hft⟩ := hd.2.1
    obtain ⟨mcq, evq, hq0⟩ := hd.L2.obj
    obtain ⟨mca, eva, ha0⟩ := hd.L4.obj
    exact y_lret cx hW hr hlk ⟨by decide, by decide⟩ dX10_total_35 (by rw [← hpo]; exact ⟨by rw [P_total, if_pos (by assumption), hn, nI_clamp (by omega)], rfl, _, hd⟩)
  · skip
    refine lv_ldc2 (v := (-1)) hx hb hown (hts _ w_562) dX10_total_8 ?_
    exact y_lret cx hW hr hlk ⟨by decide, by decide⟩ dX10_total_11 (by rw [← hpo]; exact ⟨by simp [P_total, *], rfl, X, hd⟩)
set_option maxHeartbeats 4000000 in
set_option maxRecDepth 100000 in
theorem dw_choose {l : Launch} {G : x_G} {lo : x_L} {co : x_C} (dd : Nat) (S : St) (X : Sc) (hd : isDk G lo co dd S X) (hj : x_J lo co) (hS : Sok S) (hZ4 : ∀ t, t < 4 → Tz4 (sT S t)) (hms : m_set S (sn S 2) = true) (hnum : ∀ t, t < 4 → 0 < (sT S t).1 1 → (sT S t).1 0 = t) (r : Int32) : x_Wr l G lo (co) yX10_choose cX10_choose 2 (some .int) 18 0 0 [.ref (lo (0)), .int (r)] (fun (v : Option Value) (lo1 : x_L) (co1 : x_C) => v = some (.int (P_choose S r)) ∧ lo1 0 = lo 0 ∧ ∃ X1, isDk G lo1 co1 dd S X1) := by
  refine x_wenter RX10 rfl (by decide) (Nat.le_of_ble_eq_true rfl) ?_
  intro pp ee ss mm bb mt cd ls AA cx hk hW hA hr hlk hnm hl
  have hl : lv_has ls 2 [(0, .ref (lo (0))), (1, .int (r))] := hl
  generalize hav : ([.ref (lo (0)), .int (r)] : List Value).toArray = av at cx ⊢
  generalize hpo : (fun (v : Option Value) (lo1 : x_L) (co1 : x_C) => v = some (.int (P_choose S r)) ∧ lo1 0 = lo 0 ∧ ∃ X1, isDk G lo1 co1 dd S X1) = po
  have hx := cx.1
  have hb := cx.2.1
  have hown := cx.2.2.2.1
  have hts := cx.2.2.2.2
  have hw := hW.1
  suffices key_ : ∀ (H : Heap) (locs : List Loc), x_D AA G ss.heap lo (co) H locs → x_ww l 18 0 0 pp ee ss mm av bb mt cd G po AA H locs 0 0 0 ls [] from key_ _ _ hW
  intro H locs hW
  have hw := hW.1
  obtain ⟨s1, s2, s3, s4, s5, s6⟩ := id hS
  obtain ⟨ft, hf1, hft⟩ := hd.2.1
  obtain ⟨mcq, evq, hq0⟩ := hd.L2.obj
  obtain ⟨mca, eva, ha0⟩ := hd.L4.obj
  have hs0 := hd.sc
  have hb12 := Sok.b12 hS
  refine lv_iload_n hx hb dX10_choose_0 rfl (lv_at hl 1 rfl) ?_
  refine lv_iconst (v := nI 0) hx hb dX10_choose_1 rfl ?_
  refine lv_sipush (v := nI 10000) hx hb dX10_choose_2 rfl ?_
  refine x_rdS (av := [.int (r), .int (nI 0), .int (nI 10000)]) (rest := []) cx hk hw cs_RX10_32 (c_btw r (nI 0) (nI 10000)) hl.1 rfl rfl (Nat.le_of_ble_eq_true rfl) ⟨by decide, by decide⟩ ⟨Nat.zero_le _, Nat.zero_le _⟩ dX10_choose_5 ?_
  refine x_if_ne (tgt := 13) cx dX10_choose_8 (by decide) (fun h8_1 => ?_) (fun h8_1 => ?_)
  · skip
    obtain ⟨r1, hr1b, hr1a, hr1e⟩ := nI_tc (x := r) (a := 0) (b := 10000) (by decide) (by decide) (by assumption)
    rw [hr1e] at hl
    refine lv_aload_n hx hb dX10_choose_13 rfl (lv_at hl 0 rfl) ?_
    refine x_get (v := .ref (lo (6))) cx hk hw (hd.1) f_RX10_28_9 rfl dX10_choose_14 ?_
    refine lv_aload_n hx hb dX10_choose_17 rfl (lv_at hl 0 rfl) ?_
    refine x_get (v := .ref (lo (2))) cx hk hw (hd.1) f_RX10_18_9 rfl dX10_choose_18 ?_
    refine lv_aload_n hx hb dX10_choose_21 rfl (lv_at hl 0 rfl) ?_
    refine x_get (v := .ref (lo (4))) cx hk hw (hd.1) f_RX10_22_9 rfl dX10_choose_22 ?_
    refine y_wrV (av := [.ref (lo (2)), .ref (lo (4))]) (rest := []) cx hk hW hA (hs0.1) cv_RX10_183_6 (g_load dd S X hd hj hS) hl.1 rfl rfl (Nat.le_of_ble_eq_true rfl) ⟨by decide, by decide⟩ ⟨by decide, by decide⟩ dX10_choose_25 (fun v_ lo2 co2 H locs hq_ hW => ?_)
    obtain ⟨hv_, hlo_, ho2, X2, hd2, hL2, hr2⟩ := hq_
    have hlo2_ := hlo_.symm
    subst hv_ hlo2_
    have hw := hW.1
    have hs2 := hd2.sc
    have h62 := hs2.1
    rw [hL2.1, hL2.2.1] at h62
    obtain ⟨f82, hc82, hf82⟩ := hs2.2.2.1
    obtain ⟨f122, hc122, hf122⟩ := hs2.2.2.2.2.2.2.1
    have hd := hd2
    have hj : x_J lo _ := hW.2.1.1
    obtain ⟨ft, hf1, hft⟩ := hd.2.1
    obtain ⟨mcq, evq, hq0⟩ := hd.L2.obj
    obtain ⟨mca, eva, ha0⟩ := hd.L4.obj
    refine lv_aload_n hx hb dX10_choose_28 rfl (lv_at hl 0 rfl) ?_
    refine x_get (v := .ref (lo (6))) cx hk hw (hd.1) f_RX10_28_9 rfl dX10_choose_29 ?_
    refine lv_iload_n hx hb dX10_choose_32 rfl (lv_at hl 1 rfl) ?_
    refine y_wrV (av := [.int (nI r1)]) (rest := []) cx hk hW hA (h62) cv_RX10_227_6 (g_cheap S X2 hS hs2 hL2 r1 hr2 (by omega)) hl.1 rfl rfl (Nat.le_of_ble_eq_true rfl) ⟨by decide, by decide⟩ ⟨by decide, by decide⟩ dX10_choose_33 (fun v_ lo3 co3 H locs hq_ hW => ?_)
    obtain ⟨hv_, hlo_, ho3, X3, hs3, hL3⟩ := hq_
    have hlo2_ := hlo_.symm
    subst hv_ hlo2_
    have hw := hW.1
    have hd := dk_X hd hs3 ho3
    have hj : x_J lo _ := hW.2.1.1
    obtain ⟨ft, hf1, hft⟩ := hd.2.1
    obtain ⟨mcq, evq, hq0⟩ := hd.L2.obj
    obtain ⟨mca, eva, ha0⟩ := hd.L4.obj
    exact y_iret cx hW hr hlk ⟨by decide, by decide⟩ dX10_choose_36 (by rw [← hpo]; exact ⟨by rw [P_choose, if_pos (by assumption), hr1e, nI_clamp (by omega)], rfl, _, hd⟩)
  · skip
    refine lv_iconst (v := (-1)) hx hb dX10_choose_11 rfl ?_
    exact y_iret cx hW hr hlk ⟨by decide, by decide⟩ dX10_choose_12 (by rw [← hpo]; exact ⟨by rw [P_choose, if_neg (by simp [*])], rfl, X, hd⟩)
set_option maxHeartbeats 4000000 in
set_option maxRecDepth 100000 in
theorem dw_greedy {l : Launch} {G : x_G} {lo : x_L} {co : x_C} (dd : Nat) (S : St) (X : Sc) (hd : isDk G lo co dd S X) (hj : x_J lo co) (hS : Sok S) (hZ4 : ∀ t, t < 4 → Tz4 (sT S t)) (hms : m_set S (sn S 2) = true) (hnum : ∀ t, t < 4 → 0 < (sT S t).1 1 → (sT S t).1 0 = t) (r : Int32) : x_Wr l G lo (co) yX10_greedy cX10_greedy 2 (some .int) 18 0 0 [.ref (lo (0)), .int (r)] (fun (v : Option Value) (lo1 : x_L) (co1 : x_C) => v = some (.int (P_greedy S r)) ∧ lo1 0 = lo 0 ∧ ∃ X1, isDk G lo1 co1 dd S X1) := by
  refine x_wenter RX10 rfl (by decide) (Nat.le_of_ble_eq_true rfl) ?_
  intro pp ee ss mm bb mt cd ls AA cx hk hW hA hr hlk hnm hl
  have hl : lv_has ls 2 [(0, .ref (lo (0))), (1, .int (r))] := hl
  generalize hav : ([.ref (lo (0)), .int (r)] : List Value).toArray = av at cx ⊢
  generalize hpo : (fun (v : Option Value) (lo1 : x_L) (co1 : x_C) => v = some (.int (P_greedy S r)) ∧ lo1 0 = lo 0 ∧ ∃ X1, isDk G lo1 co1 dd S X1) = po
  have hx := cx.1
  have hb := cx.2.1
  have hown := cx.2.2.2.1
  have hts := cx.2.2.2.2
  have hw := hW.1
  suffices key_ : ∀ (H : Heap) (locs : List Loc), x_D AA G ss.heap lo (co) H locs → x_ww l 18 0 0 pp ee ss mm av bb mt cd G po AA H locs 0 0 0 ls [] from key_ _ _ hW
  intro H locs hW
  have hw := hW.1
  obtain ⟨s1, s2, s3, s4, s5, s6⟩ := id hS
  obtain ⟨ft, hf1, hft⟩ := hd.2.1
  obtain ⟨mcq, evq, hq0⟩ := hd.L2.obj
  obtain ⟨mca, eva, ha0⟩ := hd.L4.obj
  have hs0 := hd.sc
  have hb12 := Sok.b12 hS
  refine lv_iload_n hx hb dX10_greedy_0 rfl (lv_at hl 1 rfl) ?_
  refine lv_iconst (v := nI 0) hx hb dX10_greedy_1 rfl ?_
  refine lv_sipush (v := nI 10000) hx hb dX10_greedy_2 rfl ?_
  refine x_rdS (av := [.int (r), .int (nI 0), .int (nI 10000)]) (rest := []) cx hk hw cs_RX10_32 (c_btw r (nI 0) (nI 10000)) hl.1 rfl rfl (Nat.le_of_ble_eq_true rfl) ⟨by decide, by decide⟩ ⟨Nat.zero_le _, Nat.zero_le _⟩ dX10_greedy_5 ?_
  refine x_if_ne (tgt := 13) cx dX10_greedy_8 (by decide) (fun h8_1 => ?_) (fun h8_1 => ?_)
  · skip
    obtain ⟨r1, hr1b, hr1a, hr1e⟩ := nI_tc (x := r) (a := 0) (b := 10000) (by decide) (by decide) (by assumption)
    rw [hr1e] at hl
    refine lv_aload_n hx hb dX10_greedy_13 rfl (lv_at hl 0 rfl) ?_
    refine x_get (v := .ref (lo (6))) cx hk hw (hd.1) f_RX10_28_9 rfl dX10_greedy_14 ?_
    refine lv_aload_n hx hb dX10_greedy_17 rfl (lv_at hl 0 rfl) ?_
    refine x_get (v := .ref (lo (2))) cx hk hw (hd.1) f_RX10_18_9 rfl dX10_greedy_18 ?_
    refine lv_aload_n hx hb dX10_greedy_21 rfl (lv_at hl 0 rfl) ?_
    refine x_get (v := .ref (lo (4))) cx hk hw (hd.1) f_RX10_22_9 rfl dX10_greedy_22 ?_
    refine y_wrV (av := [.ref (lo (2)), .ref (lo (4))]) (rest := []) cx hk hW hA (hs0.1) cv_RX10_183_6 (g_load dd S X hd hj hS) hl.1 rfl rfl (Nat.le_of_ble_eq_true rfl) ⟨by decide, by decide⟩ ⟨by decide, by decide⟩ dX10_greedy_25 (fun v_ lo2 co2 H locs hq_ hW => ?_)
    obtain ⟨hv_, hlo_, ho2, X2, hd2, hL2, hr2⟩ := hq_
    have hlo2_ := hlo_.symm
    subst hv_ hlo2_
    have hw := hW.1
    have hs2 := hd2.sc
    have h62 := hs2.1
    rw [hL2.1, hL2.2.1] at h62
    obtain ⟨f82, hc82, hf82⟩ := hs2.2.2.1
    obtain ⟨f122, hc122, hf122⟩ := hs2.2.2.2.2.2.2.1
    have hd := hd2
    have hj : x_J lo _ := hW.2.1.1
    obtain ⟨ft, hf1, hft⟩ := hd.2.1
    obtain ⟨mcq, evq, hq0⟩ := hd.L2.obj
    obtain ⟨mca, eva, ha0⟩ := hd.L4.obj
    refine lv_aload_n hx hb dX10_greedy_28 rfl (lv_at hl 0 rfl) ?_
    refine x_get (v := .ref (lo (6))) cx hk hw (hd.1) f_RX10_28_9 rfl dX10_greedy_29 ?_
    refine lv_iload_n hx hb dX10_greedy_32 rfl (lv_at hl 1 rfl) ?_
    refine y_wrV (av := [.int (nI r1)]) (rest := []) cx hk hW hA (h62) cv_RX10_230_6 (g_gather S X2 hS hs2 hL2 r1 hr2 (by omega)) hl.1 rfl rfl (Nat.le_of_ble_eq_true rfl) ⟨by decide, by decide⟩ ⟨by decide, by decide⟩ dX10_greedy_33 (fun v_ lo3 co3 H locs hq_ hW => ?_)
    obtain ⟨hv_, hlo_, ho3, X3, hs3, hL3⟩ := hq_
    have hlo2_ := hlo_.symm
    subst hv_ hlo2_
    have hw := hW.1
    have hd := dk_X hd hs3 ho3
    have hj : x_J lo _ := hW.2.1.1
    obtain ⟨ft, hf1, hft⟩ := hd.2.1
    obtain ⟨mcq, evq, hq0⟩ := hd.L2.obj
    obtain ⟨mca, eva, ha0⟩ := hd.L4.obj
    exact y_iret cx hW hr hlk ⟨by decide, by decide⟩ dX10_greedy_36 (by rw [← hpo]; exact ⟨by rw [P_greedy, if_pos (by assumption), hr1e, nI_clamp (by omega)], rfl, _, hd⟩)
  · skip
    refine lv_iconst (v := (-1)) hx hb dX10_greedy_11 rfl ?_
    exact y_iret cx hW hr hlk ⟨by decide, by decide⟩ dX10_greedy_12 (by rw [← hpo]; exact ⟨by rw [P_greedy, if_neg (by simp [*])], rfl, X, hd⟩)
set_option maxHeartbeats 4000000 in
set_option maxRecDepth 100000 in
theorem dw_look {l : Launch} {G : x_G} {lo : x_L} {co : x_C} (dd : Nat) (S : St) (X : Sc) (hd : isDk G lo co dd S X) (hj : x_J lo co) (hS : Sok S) (hZ4 : ∀ t, t < 4 → Tz4 (sT S t)) (hms : m_set S (sn S 2) = true) (hnum : ∀ t, t < 4 → 0 < (sT S t).1 1 → (sT S t).1 0 = t) (a w : Int32) : x_Wr l G lo (co) yX10_look cX10_look 4 (some .long) 9 0 0 [.ref (lo (0)), .int (a), .int (w)] (fun (v : Option Value) (lo1 : x_L) (co1 : x_C) => v = some (.long (P_look S a w)) ∧ lo1 0 = lo 0 ∧ ∃ X1, isDk G lo1 co1 dd S X1) := by
  refine x_wenter RX10 rfl (by decide) (Nat.le_of_ble_eq_true rfl) ?_
  intro pp ee ss mm bb mt cd ls AA cx hk hW hA hr hlk hnm hl
  have hl : lv_has ls 4 [(0, .ref (lo (0))), (1, .int (a)), (2, .int (w))] := hl
  generalize hav : ([.ref (lo (0)), .int (a), .int (w)] : List Value).toArray = av at cx ⊢
  generalize hpo : (fun (v : Option Value) (lo1 : x_L) (co1 : x_C) => v = some (.long (P_look S a w)) ∧ lo1 0 = lo 0 ∧ ∃ X1, isDk G lo1 co1 dd S X1) = po
  have hx := cx.1
  have hb := cx.2.1
  have hown := cx.2.2.2.1
  have hts := cx.2.2.2.2
  have hw := hW.1
  suffices key_ : ∀ (H : Heap) (locs : List Loc), x_D AA G ss.heap lo (co) H locs → x_ww l 9 0 0 pp ee ss mm av bb mt cd G po AA H locs 0 0 0 ls [] from key_ _ _ hW
  intro H locs hW
  have hw := hW.1
  obtain ⟨s1, s2, s3, s4, s5, s6⟩ := id hS
  obtain ⟨ft, hf1, hft⟩ := hd.2.1
  obtain ⟨mcq, evq, hq0⟩ := hd.L2.obj
  obtain ⟨mca, eva, ha0⟩ := hd.L4.obj
  have hs0 := hd.sc
  have hb12 := Sok.b12 hS
  have hxl := fun k (hk : k < sn S 1) => xor_lt s4 hk
  refine lv_aload_n hx hb dX10_look_0 rfl (lv_at hl 0 rfl) ?_
  refine lv_iload_n hx hb dX10_look_1 rfl (lv_at hl 1 rfl) ?_
  refine x_rdV (av := [.int (a)]) (rest := []) cx hk hw (hd.1) cv_RX10_154_9 (d_aidAt dd S X hd hj hS a) hl.1 rfl rfl (Nat.le_of_ble_eq_true rfl) ⟨by decide, by decide⟩ ⟨Nat.zero_le _, Nat.zero_le _⟩ dX10_look_2 ?_
  by_cases hc_a : x_in (sn S 1) a = true
  · skip
    obtain ⟨a1_a, ha1_a, ha3_a⟩ := x_in_ex (n := sn S 1) (by omega) hc_a
    obtain ⟨u1_a, u2_a, hAa_a⟩ := s6 a1_a ha1_a
    have hTa_a := (s1 _ u1_a).1 u2_a
    have hta_a := hd.T u1_a u2_a
    have had_a := hd.A (a := a1_a) ha1_a
    have hBa_a := aok_bA (S := S) hAa_a
    have hA4_a := hAa_a.1
    rw [d_ad_1 hc_a ha3_a (by omega)]
    rw [ha3_a] at hl
    refine lv_astore_n (lv' := [(3, .ref (lo (tA a1_a))), (0, .ref (lo (0))), (1, .int (nI a1_a)), (2, .int (w))]) hx hb dX10_look_5 rfl hl (by decide) rfl (fun ls hl => ?_)
    refine lv_aload_n hx hb dX10_look_6 rfl (lv_at hl 0 rfl) ?_
    refine lv_ifnonnull (tgt := 14) hx hb dX10_look_7 (by decide) ?_
    have hpw : 2 ^ a1_a < 2 ^ sn S 1 := Nat.pow_lt_pow_right (by decide) ha1_a
    have hspl := m_sp_le hS ha1_a
    have hx12 := hxl a1_a ha1_a
    have htn := hnum _ u1_a u2_a
    refine lv_iload_n hx hb dX10_look_14 rfl (lv_at hl 3 rfl) ?_
    by_cases hs15_0 : w = 0
    · skip
      refine x_tin (v := 0) (tgt := 52) (off := 37) cx dX10_look_15 hs15_0 (by decide) (by decide) (by decide) (by decide) ?_
      refine lv_aload_n hx hb dX10_look_52 rfl (lv_at hl 0 rfl) ?_
      refine ag_RX10_173 cx hk hw had_a dX10_look_53 ?_
      rw [kind_bA]
      refine x_i2lN cx dX10_look_56 (by omega) ?_
      exact y_lret cx hW hr hlk ⟨by decide, by decide⟩ dX10_look_57 (by rw [← hpo]; exact ⟨by rw [P_look, if_pos hc_a, ha3_a, nI_clamp (by omega), if_pos (by assumption)], rfl, _, hd⟩)
    by_cases hs15_1 : w = 1
    · skip
      refine x_tin (v := 1) (tgt := 58) (off := 43) cx dX10_look_15 hs15_1 (by decide) (by decide) (by decide) (by decide) ?_
      refine lv_aload_n hx hb dX10_look_58 rfl (lv_at hl 0 rfl) ?_
      refine ag_RX10_176 cx hk hw had_a dX10_look_59 ?_
      refine x_get (v := .int (nI ((sT S (ao S a1_a)).1 0))) cx hk hw (hta_a.1) f_RX10_177_8 rfl dX10_look_62 ?_
      refine x_i2lN cx dX10_look_65 (by omega) ?_
      exact y_lret cx hW hr hlk ⟨by decide, by decide⟩ dX10_look_66 (by rw [← hpo]; exact ⟨by rw [P_look, if_pos hc_a, ha3_a, nI_clamp (by omega), if_neg (by assumption), if_pos (by assumption)]; rw [htn], rfl, _, hd⟩)
    by_cases hs15_2 : w = 2
    · skip
      refine x_tin (v := 2) (tgt := 67) (off := 52) cx dX10_look_15 hs15_2 (by decide) (by decide) (by decide) (by decide) ?_
      refine lv_aload_n hx hb dX10_look_67 rfl (lv_at hl 0 rfl) ?_
      refine av_RX10_180 cx hk hw had_a hta_a hTa_a hBa_a hl.1 (Nat.le_of_ble_eq_true rfl) ⟨by decide, by decide⟩ ⟨Nat.zero_le _, Nat.zero_le _⟩ dX10_look_68 ?_
      rw [show nI (a_space (sT S (ao S a1_a)) (bA S a1_a)) = nI (m_sp S a1_a) from rfl]
      refine x_i2lN cx dX10_look_71 (by omega) ?_
      exact y_lret cx hW hr hlk ⟨by decide, by decide⟩ dX10_look_72 (by rw [← hpo]; exact ⟨by rw [P_look, if_pos hc_a, ha3_a, nI_clamp (by omega), if_neg (by assumption), if_neg (by assumption), if_pos (by assumption)], rfl, _, hd⟩)
    by_cases hs15_3 : w = 3
    · skip
      refine x_tin (v := 3) (tgt := 73) (off := 58) cx dX10_look_15 hs15_3 (by decide) (by decide) (by decide) (by decide) ?_
      refine lv_aload_n hx hb dX10_look_73 rfl (lv_at hl 0 rfl) ?_
      refine ag_RX10_158 cx hk hw had_a dX10_look_74 ?_
      rw [b6_bA]
      refine x_if_eq (tgt := 84) cx dX10_look_77 (by decide) (fun h77_1 => ?_) (fun h77_1 => ?_)
      · skip
        refine lv_lconst (v := lN 0) hx hb dX10_look_84 rfl ?_
        exact y_lret cx hW hr hlk ⟨by decide, by decide⟩ dX10_look_85 (by rw [← hpo]; exact ⟨by rw [P_look, if_pos hc_a, ha3_a, nI_clamp (by omega), if_neg (by assumption), if_neg (by assumption), if_neg (by assumption), if_pos (by assumption)]; (repeat' split) <;> first | rfl | simp_all, rfl, _, hd⟩)
      · skip
        refine lv_lconst (v := lN 1) hx hb dX10_look_80 rfl ?_
        refine lv_goto (tgt := 85) hx hb dX10_look_81 (by decide) ?_
        exact y_lret cx hW hr hlk ⟨by decide, by decide⟩ dX10_look_85 (by rw [← hpo]; exact ⟨by rw [P_look, if_pos hc_a, ha3_a, nI_clamp (by omega), if_neg (by assumption), if_neg (by assumption), if_neg (by assumption), if_pos (by assumption)]; (repeat' split) <;> first | rfl | simp_all, rfl, _, hd⟩)
    by_cases hs15_4 : w = 4
    · skip
      refine x_tin (v := 4) (tgt := 86) (off := 71) cx dX10_look_15 hs15_4 (by decide) (by decide) (by decide) (by decide) ?_
      refine lv_aload_n hx hb dX10_look_86 rfl (lv_at hl 1 rfl) ?_
      refine x_get (v := .ref (lo (6))) cx hk hw (hd.1) f_RX10_28_9 rfl dX10_look_87 ?_
      refine lv_aload_n hx hb dX10_look_90 rfl (lv_at hl 1 rfl) ?_
      refine x_get (v := .ref (lo (2))) cx hk hw (hd.1) f_RX10_18_9 rfl dX10_look_91 ?_
      refine lv_aload_n hx hb dX10_look_94 rfl (lv_at hl 1 rfl) ?_
      refine x_get (v := .ref (lo (4))) cx hk hw (hd.1) f_RX10_22_9 rfl dX10_look_95 ?_
      refine y_wrV (av := [.ref (lo (2)), .ref (lo (4))]) (rest := []) cx hk hW hA (hs0.1) cv_RX10_183_6 (g_load dd S X hd hj hS) hl.1 rfl rfl (Nat.le_of_ble_eq_true rfl) ⟨by decide, by decide⟩ ⟨by decide, by decide⟩ dX10_look_98 (fun v_ lo2 co2 H locs hq_ hW => ?_)
      obtain ⟨hv_, hlo_, ho2, X2, hd2, hL2, hr2⟩ := hq_
      have hlo2_ := hlo_.symm
      subst hv_ hlo2_
      have hw := hW.1
      have hs2 := hd2.sc
      have h62 := hs2.1
      rw [hL2.1, hL2.2.1] at h62
      obtain ⟨f82, hc82, hf82⟩ := hs2.2.2.1
      obtain ⟨f122, hc122, hf122⟩ := hs2.2.2.2.2.2.2.1
      have hd := hd2
      have hj : x_J lo _ := hW.2.1.1
      obtain ⟨ft, hf1, hft⟩ := hd.2.1
      obtain ⟨mcq, evq, hq0⟩ := hd.L2.obj
      obtain ⟨mca, eva, ha0⟩ := hd.L4.obj
      refine lv_aload_n hx hb dX10_look_101 rfl (lv_at hl 1 rfl) ?_
      refine x_get (v := .ref (lo (6))) cx hk hw (hd.1) f_RX10_28_9 rfl dX10_look_102 ?_
      refine lv_iconst (v := nI 0) hx hb dX10_look_105 rfl ?_
      refine y_wrV (av := [.int (nI 0)]) (rest := []) cx hk hW hA (h62) cv_RX10_187_6 (g_weigh S X2 hS hs2 hL2 0 hr2 (by omega)) hl.1 rfl rfl (Nat.le_of_ble_eq_true rfl) ⟨by decide, by decide⟩ ⟨by decide, by decide⟩ dX10_look_106 (fun v_ lo3 co3 H locs hq_ hW => ?_)
      obtain ⟨hv_, hlo_, ho3, X3, hs3, hL3, hr3⟩ := hq_
      have hlo2_ := hlo_.symm
      subst hv_ hlo2_
      have hw := hW.1
      have h63 := hs3.1
      rw [hL3.1, hL3.2.1] at h63
      obtain ⟨f83, hc83, hf83⟩ := hs3.2.2.1
      obtain ⟨f123, hc123, hf123⟩ := hs3.2.2.2.2.2.2.1
      have hd := dk_X hd hs3 ho3
      have hj : x_J lo _ := hW.2.1.1
      obtain ⟨ft, hf1, hft⟩ := hd.2.1
      obtain ⟨mcq, evq, hq0⟩ := hd.L2.obj
      obtain ⟨mca, eva, ha0⟩ := hd.L4.obj
      refine lv_aload_n hx hb dX10_look_109 rfl (lv_at hl 1 rfl) ?_
      refine x_get (v := .ref (lo (6))) cx hk hw (hd.1) f_RX10_28_9 rfl dX10_look_110 ?_
      refine lv_iload_n hx hb dX10_look_113 rfl (lv_at hl 2 rfl) ?_
      refine x_rdS (av := [.int (nI a1_a)]) (rest := [.ref (lo (6)), .long (lN (m_tot S 0))]) cx hk hw cs_RX10_120 (c_bitN a1_a (by omega)) hl.1 rfl rfl (Nat.le_of_ble_eq_true rfl) ⟨by decide, by decide⟩ ⟨Nat.zero_le _, Nat.zero_le _⟩ dX10_look_114 ?_
      refine y_wrV (av := [.int (nI (2 ^ a1_a))]) (rest := [.long (lN (m_tot S 0))]) cx hk hW hA (h63) cv_RX10_187_6 (g_weigh S X3 hS hs3 hL3 (2 ^ a1_a) hr3 (by omega)) hl.1 rfl rfl (Nat.le_of_ble_eq_true rfl) ⟨by decide, by decide⟩ ⟨by decide, by decide⟩ dX10_look_117 (fun v_ lo4 co4 H locs hq_ hW => ?_)
      obtain ⟨hv_, hlo_, ho4, X4, hs4, hL4, hr4⟩ := hq_
      have hlo2_ := hlo_.symm
      subst hv_ hlo2_
      have hw := hW.1
      have h64 := hs4.1
      rw [hL4.1, hL4.2.1] at h64
      obtain ⟨f84, hc84, hf84⟩ := hs4.2.2.1
      obtain ⟨f124, hc124, hf124⟩ := hs4.2.2.2.2.2.2.1
      have hd := dk_X hd hs4 ho4
      have hj : x_J lo _ := hW.2.1.1
      obtain ⟨ft, hf1, hft⟩ := hd.2.1
      obtain ⟨mcq, evq, hq0⟩ := hd.L2.obj
      obtain ⟨mca, eva, ha0⟩ := hd.L4.obj
      refine lv_lsub hx hb dX10_look_120 ?_
      exact y_lret cx hW hr hlk ⟨by decide, by decide⟩ dX10_look_121 (by rw [← hpo]; exact ⟨by rw [P_look, if_pos hc_a, ha3_a, nI_clamp (by omega), if_neg (by assumption), if_neg (by assumption), if_neg (by assumption), if_neg (by assumption), if_pos (by assumption)], rfl, _, hd⟩)
    by_cases hs15_5 : w = 5
    · skip
      refine x_tin (v := 5) (tgt := 122) (off := 107) cx dX10_look_15 hs15_5 (by decide) (by decide) (by decide) (by decide) ?_
      refine lv_aload_n hx hb dX10_look_122 rfl (lv_at hl 0 rfl) ?_
      refine ag_RX10_158 cx hk hw had_a dX10_look_123 ?_
      rw [b6_bA]
      refine x_if_ne (tgt := 133) cx dX10_look_126 (by decide) (fun h126_5 => ?_) (fun h126_5 => ?_)
      · skip
        refine lv_aload_n hx hb dX10_look_133 rfl (lv_at hl 1 rfl) ?_
        refine x_get (v := .ref (lo (6))) cx hk hw (hd.1) f_RX10_28_9 rfl dX10_look_134 ?_
        refine lv_aload_n hx hb dX10_look_137 rfl (lv_at hl 1 rfl) ?_
        refine x_get (v := .ref (lo (2))) cx hk hw (hd.1) f_RX10_18_9 rfl dX10_look_138 ?_
        refine lv_aload_n hx hb dX10_look_141 rfl (lv_at hl 1 rfl) ?_
        refine x_get (v := .ref (lo (4))) cx hk hw (hd.1) f_RX10_22_9 rfl dX10_look_142 ?_
        refine y_wrV (av := [.ref (lo (2)), .ref (lo (4))]) (rest := []) cx hk hW hA (hs0.1) cv_RX10_183_6 (g_load dd S X hd hj hS) hl.1 rfl rfl (Nat.le_of_ble_eq_true rfl) ⟨by decide, by decide⟩ ⟨by decide, by decide⟩ dX10_look_145 (fun v_ lo6 co6 H locs hq_ hW => ?_)
        obtain ⟨hv_, hlo_, ho6, X6, hd6, hL6, hr6⟩ := hq_
        have hlo2_ := hlo_.symm
        subst hv_ hlo2_
        have hw := hW.1
        have hs6 := hd6.sc
        have h66 := hs6.1
        rw [hL6.1, hL6.2.1] at h66
        obtain ⟨f86, hc86, hf86⟩ := hs6.2.2.1
        obtain ⟨f126, hc126, hf126⟩ := hs6.2.2.2.2.2.2.1
        have hd := hd6
        have hj : x_J lo _ := hW.2.1.1
        obtain ⟨ft, hf1, hft⟩ := hd.2.1
        obtain ⟨mcq, evq, hq0⟩ := hd.L2.obj
        obtain ⟨mca, eva, ha0⟩ := hd.L4.obj
        refine lv_aload_n hx hb dX10_look_148 rfl (lv_at hl 1 rfl) ?_
        refine x_get (v := .ref (lo (6))) cx hk hw (hd.1) f_RX10_28_9 rfl dX10_look_149 ?_
        refine lv_aload_n hx hb dX10_look_152 rfl (lv_at hl 1 rfl) ?_
        refine x_rdV (av := []) (rest := [.ref (lo (6))]) cx hk hw (hd.1) cv_RX10_168_9 (d_built dd S X6 hd hj hS) hl.1 rfl rfl (Nat.le_of_ble_eq_true rfl) ⟨by decide, by decide⟩ ⟨Nat.zero_le _, Nat.zero_le _⟩ dX10_look_153 ?_
        refine lv_iload_n hx hb dX10_look_156 rfl (lv_at hl 2 rfl) ?_
        refine x_rdS (av := [.int (nI a1_a)]) (rest := [.int (nI (sn S 2)), .ref (lo (6))]) cx hk hw cs_RX10_120 (c_bitN a1_a (by omega)) hl.1 rfl rfl (Nat.le_of_ble_eq_true rfl) ⟨by decide, by decide⟩ ⟨Nat.zero_le _, Nat.zero_le _⟩ dX10_look_157 ?_
        refine lv_iconst (v := (-1)) hx hb dX10_look_160 rfl ?_
        refine lv_ixor hx hb dX10_look_161 ?_
        refine lv_iand hx hb dX10_look_162 ?_
        rw [nI_andnot (by omega) (by assumption)]
        refine y_wrV (av := [.int (nI (sn S 2 ^^^ 2 ^ a1_a))]) (rest := []) cx hk hW hA (h66) cv_RX10_187_6 (g_weigh S X6 hS hs6 hL6 (sn S 2 ^^^ 2 ^ a1_a) hr6 (by omega)) hl.1 rfl rfl (Nat.le_of_ble_eq_true rfl) ⟨by decide, by decide⟩ ⟨by decide, by decide⟩ dX10_look_163 (fun v_ lo7 co7 H locs hq_ hW => ?_)
        obtain ⟨hv_, hlo_, ho7, X7, hs7, hL7, hr7⟩ := hq_
        have hlo2_ := hlo_.symm
        subst hv_ hlo2_
        have hw := hW.1
        have h67 := hs7.1
        rw [hL7.1, hL7.2.1] at h67
        obtain ⟨f87, hc87, hf87⟩ := hs7.2.2.1
        obtain ⟨f127, hc127, hf127⟩ := hs7.2.2.2.2.2.2.1
        have hd := dk_X hd hs7 ho7
        have hj : x_J lo _ := hW.2.1.1
        obtain ⟨ft, hf1, hft⟩ := hd.2.1
        obtain ⟨mcq, evq, hq0⟩ := hd.L2.obj
        obtain ⟨mca, eva, ha0⟩ := hd.L4.obj
        refine lv_aload_n hx hb dX10_look_166 rfl (lv_at hl 1 rfl) ?_
        refine x_get (v := .ref (lo (6))) cx hk hw (hd.1) f_RX10_28_9 rfl dX10_look_167 ?_
        refine lv_aload_n hx hb dX10_look_170 rfl (lv_at hl 1 rfl) ?_
        refine x_rdV (av := []) (rest := [.ref (lo (6)), .long (lN (m_tot S (sn S 2 ^^^ 2 ^ a1_a)))]) cx hk hw (hd.1) cv_RX10_168_9 (d_built dd S X7 hd hj hS) hl.1 rfl rfl (Nat.le_of_ble_eq_true rfl) ⟨by decide, by decide⟩ ⟨Nat.zero_le _, Nat.zero_le _⟩ dX10_look_171 ?_
        refine y_wrV (av := [.int (nI (sn S 2))]) (rest := [.long (lN (m_tot S (sn S 2 ^^^ 2 ^ a1_a)))]) cx hk hW hA (h67) cv_RX10_187_6 (g_weigh S X7 hS hs7 hL7 (sn S 2) hr7 (by omega)) hl.1 rfl rfl (Nat.le_of_ble_eq_true rfl) ⟨by decide, by decide⟩ ⟨by decide, by decide⟩ dX10_look_174 (fun v_ lo8 co8 H locs hq_ hW => ?_)
        obtain ⟨hv_, hlo_, ho8, X8, hs8, hL8, hr8⟩ := hq_
        have hlo2_ := hlo_.symm
        subst hv_ hlo2_
        have hw := hW.1
        have h68 := hs8.1
        rw [hL8.1, hL8.2.1] at h68
        obtain ⟨f88, hc88, hf88⟩ := hs8.2.2.1
        obtain ⟨f128, hc128, hf128⟩ := hs8.2.2.2.2.2.2.1
        have hd := dk_X hd hs8 ho8
        have hj : x_J lo _ := hW.2.1.1
        obtain ⟨ft, hf1, hft⟩ := hd.2.1
        obtain ⟨mcq, evq, hq0⟩ := hd.L2.obj
        obtain ⟨mca, eva, ha0⟩ := hd.L4.obj
        refine lv_lsub hx hb dX10_look_177 ?_
        exact y_lret cx hW hr hlk ⟨by decide, by decide⟩ dX10_look_178 (by rw [← hpo]; exact ⟨by rw [P_look, if_pos hc_a, ha3_a, nI_clamp (by omega), if_neg (by assumption), if_neg (by assumption), if_neg (by assumption), if_neg (by assumption), if_neg (by assumption), if_pos (by assumption)]; rw [if_pos (by assumption)], rfl, _, hd⟩)
      · skip
        refine lv_ldc2 (v := (-1)) hx hb hown (hts _ w_562) dX10_look_129 ?_
        exact y_lret cx hW hr hlk ⟨by decide, by decide⟩ dX10_look_132 (by rw [← hpo]; exact ⟨by rw [P_look, if_pos hc_a, ha3_a, nI_clamp (by omega), if_neg (by assumption), if_neg (by assumption), if_neg (by assumption), if_neg (by assumption), if_neg (by assumption), if_pos (by assumption)]; rw [if_neg (by simp [*])], rfl, _, hd⟩)
    refine x_tout (tgt := 179) (lo := 0) (hi := 5) cx dX10_look_15 (by decide) (fun z h1 h2 => by rcases (show z = 0 ∨ z = 1 ∨ z = 2 ∨ z = 3 ∨ z = 4 ∨ z = 5 by omega) with rfl | rfl | rfl | rfl | rfl | rfl <;> (first | exact hs15_0 | exact hs15_1 | exact hs15_2 | exact hs15_3 | exact hs15_4 | exact hs15_5)) ?_
    refine lv_ldc2 (v := (-1)) hx hb hown (hts _ w_562) dX10_look_179 ?_
    exact y_lret cx hW hr hlk ⟨by decide, by decide⟩ dX10_look_182 (by rw [← hpo]; exact ⟨by rw [P_look, if_pos hc_a, ha3_a, nI_clamp (by omega), if_neg (by assumption), if_neg (by assumption), if_neg (by assumption), if_neg (by assumption), if_neg (by assumption), if_neg (by assumption)], rfl, _, hd⟩)
  · skip
    rw [d_ad_0 hc_a]
    refine lv_astore_nN (lv' := [(3, .null), (0, .ref (lo (0))), (1, .int (a)), (2, .int (w))]) hx hb dX10_look_5 rfl hl (by decide) rfl (fun ls hl => ?_)
    refine lv_aload_nN hx hb dX10_look_6 rfl (lv_at hl 0 rfl) ?_
    refine lv_ifnonnullN hx hb dX10_look_7 ?_
    refine lv_ldc2 (v := (-1)) hx hb hown (hts _ w_562) dX10_look_10 ?_
    exact y_lret cx hW hr hlk ⟨by decide, by decide⟩ dX10_look_13 (by rw [← hpo]; exact ⟨by simp [P_look, *], rfl, X, hd⟩)
