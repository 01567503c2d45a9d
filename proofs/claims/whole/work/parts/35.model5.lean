set_option maxHeartbeats 4000000 in
set_option maxRecDepth 100000 in
theorem w_changes {l : Launch} {G : x_G} {lo : x_L} (S : St) (m : Nat → Nat → Int32) (hS : Sok S) (hM : Mok S m) (t n : Int32) : x_Wr l G lo (mco G lo (nS S) (mS S m)) yX11_changes cX11_changes 3 (some .boolean) 3 0 0 [.ref (lo (0)), .int (t), .int (n)] (m_post G lo (P_changes S t n).2 (some (.int (bI (P_changes S t n).1)))) := by
  refine x_wenter RX11 rfl (by decide) (Nat.le_of_ble_eq_true rfl) ?_
  intro pp ee ss mm bb mt cd ls AA cx hk hW hA hr hlk hnm hl
  have hl : lv_has ls 3 [(0, .ref (lo (0))), (1, .int (t)), (2, .int (n))] := hl
  generalize hav : ([.ref (lo (0)), .int (t), .int (n)] : List Value).toArray = av at cx ⊢
  generalize hpo : (m_post G lo (P_changes S t n).2 (some (.int (bI (P_changes S t n).1)))) = po
  have hx := cx.1
  have hb := cx.2.1
  have hown := cx.2.2.2.1
  have hts := cx.2.2.2.2
  have hw := hW.1
  obtain ⟨s1, s2, s3, s4, s5, s6⟩ := id hS
  have hm := m_isM G lo S m
  refine lv_aload_n hx hb dX11_changes_0 rfl (lv_at hl 0 rfl) ?_
  refine lv_iload_n hx hb dX11_changes_1 rfl (lv_at hl 1 rfl) ?_
  refine x_rdV (av := [.int (t)]) (rest := []) cx hk hw (rfl) cv_RX11_93_10 (m_isTab S m hm hS t) hl.1 rfl rfl (Nat.le_of_ble_eq_true rfl) ⟨by decide, by decide⟩ ⟨Nat.zero_le _, Nat.zero_le _⟩ dX11_changes_2 ?_
  refine x_if_eq (tgt := 19) cx dX11_changes_5 (by decide) (fun h5_1 => ?_) (fun h5_1 => ?_)
  · skip
    refine lv_iconst (v := nI 0) hx hb dX11_changes_19 rfl ?_
    exact y_zret (false) cx hW hr hlk ⟨by decide, by decide⟩ dX11_changes_20 rfl (by rw [← hpo]; rw [show P_changes S t n = (false, S) from by unfold P_changes; rw [if_neg (by simp [*])]; done]; exact ⟨rfl, rfl, m, hM, rfl⟩)
  · skip
    refine lv_iload_n hx hb dX11_changes_8 rfl (lv_at hl 2 rfl) ?_
    refine lv_iconst (v := nI 0) hx hb dX11_changes_9 rfl ?_
    refine lv_sipush (v := nI 1000) hx hb dX11_changes_10 rfl ?_
    refine x_rdS (av := [.int (n), .int (nI 0), .int (nI 1000)]) (rest := []) cx hk hw cs_RX11_89 (m_lies n (nI 0) (nI 1000)) hl.1 rfl rfl (Nat.le_of_ble_eq_true rfl) ⟨by decide, by decide⟩ ⟨Nat.zero_le _, Nat.zero_le _⟩ dX11_changes_13 ?_
    refine x_if_ne (tgt := 21) cx dX11_changes_16 (by decide) (fun h16_2 => ?_) (fun h16_2 => ?_)
    · skip
      obtain ⟨t1, ht1, ht2, ht3⟩ := m_isT_ex (by assumption)
      rw [ht3] at hl
      have hT := (s1 t1 ht1).1 ht2
      obtain ⟨k1, k2, k3, k4, k5, k6, k7, k8, k9, k0⟩ := id hT
      obtain ⟨n1, hn1b, hn1a, hn1e⟩ := nI_tc (x := n) (a := 0) (b := 1000) (by decide) (by decide) (by assumption)
      rw [hn1e] at hl
      refine lv_aload_n hx hb dX11_changes_21 rfl (lv_at hl 0 rfl) ?_
      refine x_get cx hk hw (rfl) f_RX11_34_10 rfl dX11_changes_22 ?_
      refine lv_iload_n hx hb dX11_changes_25 rfl (lv_at hl 1 rfl) ?_
      refine lv_iload_n hx hb dX11_changes_26 rfl (lv_at hl 2 rfl) ?_
      refine y_ist 9 4 (by decide) cx hk hW (by omega) dX11_changes_27 (fun H locs hW => ?_)
      have hw := hW.1
      refine lv_iconst (v := nI 1) hx hb dX11_changes_28 rfl ?_
      exact y_zret (true) cx hW hr hlk ⟨by decide, by decide⟩ dX11_changes_29 rfl (by rw [← hpo]; rw [show P_changes S t n = (true, setT S t1 (va_up (sT S t1).1 4 n1, (sT S t1).2)) from by unfold P_changes; rw [if_pos (by rw [(by assumption : m_isT S t = true), (by assumption : s_btw n (nI 0) (nI 1000) = true)]; rfl), ht3, hn1e, nI_clamp (by omega), nI_clamp (by omega)]]; exact ⟨rfl, rfl, m, hM, wch t1 n1⟩)
    · skip
      refine lv_iconst (v := nI 0) hx hb dX11_changes_19 rfl ?_
      exact y_zret (false) cx hW hr hlk ⟨by decide, by decide⟩ dX11_changes_20 rfl (by rw [← hpo]; rw [show P_changes S t n = (false, S) from by unfold P_changes; rw [if_neg (by simp [*])]; done]; exact ⟨rfl, rfl, m, hM, rfl⟩)
set_option maxHeartbeats 4000000 in
set_option maxRecDepth 100000 in
theorem w_table {l : Launch} {G : x_G} {lo : x_L} (S : St) (m : Nat → Nat → Int32) (hS : Sok S) (hM : Mok S m) (hZ : ∀ t, t < 4 → (sT S t).1 1 = 0 → Tz (sT S t)) (t c p : Int32) : x_Wr l G lo (mco G lo (nS S) (mS S m)) yX11_table cX11_table 4 (some .boolean) 3 0 0 [.ref (lo (0)), .int (t), .int (c), .int (p)] (m_post G lo (P_table S t c p).2 (some (.int (bI (P_table S t c p).1)))) := by
  refine x_wenter RX11 rfl (by decide) (Nat.le_of_ble_eq_true rfl) ?_
  intro pp ee ss mm bb mt cd ls AA cx hk hW hA hr hlk hnm hl
  have hl : lv_has ls 4 [(0, .ref (lo (0))), (1, .int (t)), (2, .int (c)), (3, .int (p))] := hl
  generalize hav : ([.ref (lo (0)), .int (t), .int (c), .int (p)] : List Value).toArray = av at cx ⊢
  generalize hpo : (m_post G lo (P_table S t c p).2 (some (.int (bI (P_table S t c p).1)))) = po
  have hx := cx.1
  have hb := cx.2.1
  have hown := cx.2.2.2.1
  have hts := cx.2.2.2.2
  have hw := hW.1
  obtain ⟨s1, s2, s3, s4, s5, s6⟩ := id hS
  have hm := m_isM G lo S m
  have hbt : s_btw t (nI 0) (nI 3) = x_in 4 t := s_btw_pos (n := 4) (by decide) (by decide)
  refine lv_iload_n hx hb dX11_table_0 rfl (lv_at hl 1 rfl) ?_
  refine lv_iconst (v := nI 0) hx hb dX11_table_1 rfl ?_
  refine lv_iconst (v := nI 3) hx hb dX11_table_2 rfl ?_
  refine x_rdS (av := [.int (t), .int (nI 0), .int (nI 3)]) (rest := []) cx hk hw cs_RX11_89 (m_lies t (nI 0) (nI 3)) hl.1 rfl rfl (Nat.le_of_ble_eq_true rfl) ⟨by decide, by decide⟩ ⟨Nat.zero_le _, Nat.zero_le _⟩ dX11_table_3 ?_
  refine x_if_eq (tgt := 37) cx dX11_table_6 (by decide) (fun h6_1 => ?_) (fun h6_1 => ?_)
  · skip
    refine lv_iconst (v := nI 0) hx hb dX11_table_37 rfl ?_
    exact y_zret (false) cx hW hr hlk ⟨by decide, by decide⟩ dX11_table_38 rfl (by rw [← hpo]; first | (rw [show P_table S t c p = (false, S) from by unfold P_table; rw [if_neg (by rw [show x_in 4 t = false from hbt.symm.trans (by assumption)]; simp; done)]; done]; exact ⟨rfl, rfl, m, hM, rfl⟩) | (rw [show P_table S t c p = (false, S) from by unfold P_table; rw [if_neg (by rw [hx4, ht3, nI_clamp (by omega)]; simp [*]; done)]; done]; exact ⟨rfl, rfl, m, hM, rfl⟩))
  · skip
    obtain ⟨t1, ht1, ht3⟩ := x_in_ex (by decide) (hbt.symm.trans (by assumption))
    have hx4 : x_in 4 t = true := hbt.symm.trans (by assumption)
    rw [ht3] at hl
    have hc4 : (sT S t1).1 1 ≤ 4 := (Nat.eq_zero_or_pos ((sT S t1).1 1)).elim (fun z => by omega) (fun z => ((s1 t1 ht1).1 z).2.1)
    refine lv_aload_n hx hb dX11_table_9 rfl (lv_at hl 0 rfl) ?_
    refine x_get cx hk hw (rfl) f_RX11_7_10 rfl dX11_table_10 ?_
    refine lv_iload_n hx hb dX11_table_13 rfl (lv_at hl 1 rfl) ?_
    refine x_ialdE (x := nI ((sT S t1).1 1)) cx hk hw (show mco G lo (nS S) (mS S m) 1 = some (.inl (G.2 0, 4, .inl ((mS S m) 1))) from rfl) (by omega) (by decide) (rfl) dX11_table_14 ?_
    refine x_ifN_gt (tgt := 37) cx dX11_table_15 (by decide) (by omega) (fun h15_2 => ?_) (fun h15_2 => ?_)
    · skip
      refine lv_iconst (v := nI 0) hx hb dX11_table_37 rfl ?_
      exact y_zret (false) cx hW hr hlk ⟨by decide, by decide⟩ dX11_table_38 rfl (by rw [← hpo]; first | (rw [show P_table S t c p = (false, S) from by unfold P_table; rw [if_neg (by rw [show x_in 4 t = false from hbt.symm.trans (by assumption)]; simp; done)]; done]; exact ⟨rfl, rfl, m, hM, rfl⟩) | (rw [show P_table S t c p = (false, S) from by unfold P_table; rw [if_neg (by rw [hx4, ht3, nI_clamp (by omega)]; simp [*]; done)]; done]; exact ⟨rfl, rfl, m, hM, rfl⟩))
    · skip
      refine lv_iload_n hx hb dX11_table_18 rfl (lv_at hl 2 rfl) ?_
      refine lv_iconst (v := nI 1) hx hb dX11_table_19 rfl ?_
      refine lv_iconst (v := nI 4) hx hb dX11_table_20 rfl ?_
      refine x_rdS (av := [.int (c), .int (nI 1), .int (nI 4)]) (rest := []) cx hk hw cs_RX11_89 (m_lies c (nI 1) (nI 4)) hl.1 rfl rfl (Nat.le_of_ble_eq_true rfl) ⟨by decide, by decide⟩ ⟨Nat.zero_le _, Nat.zero_le _⟩ dX11_table_21 ?_
      refine x_if_eq (tgt := 37) cx dX11_table_24 (by decide) (fun h24_3 => ?_) (fun h24_3 => ?_)
      · skip
        refine lv_iconst (v := nI 0) hx hb dX11_table_37 rfl ?_
        exact y_zret (false) cx hW hr hlk ⟨by decide, by decide⟩ dX11_table_38 rfl (by rw [← hpo]; first | (rw [show P_table S t c p = (false, S) from by unfold P_table; rw [if_neg (by rw [show x_in 4 t = false from hbt.symm.trans (by assumption)]; simp; done)]; done]; exact ⟨rfl, rfl, m, hM, rfl⟩) | (rw [show P_table S t c p = (false, S) from by unfold P_table; rw [if_neg (by rw [hx4, ht3, nI_clamp (by omega)]; simp [*]; done)]; done]; exact ⟨rfl, rfl, m, hM, rfl⟩))
      · skip
        refine lv_iload_n hx hb dX11_table_27 rfl (lv_at hl 3 rfl) ?_
        refine lv_iconst (v := nI 2) hx hb dX11_table_28 rfl ?_
        refine lv_bipush (v := nI 8) hx hb dX11_table_29 rfl ?_
        refine x_rdS (av := [.int (p), .int (nI 2), .int (nI 8)]) (rest := []) cx hk hw cs_RX11_89 (m_lies p (nI 2) (nI 8)) hl.1 rfl rfl (Nat.le_of_ble_eq_true rfl) ⟨by decide, by decide⟩ ⟨Nat.zero_le _, Nat.zero_le _⟩ dX11_table_31 ?_
        refine x_if_ne (tgt := 39) cx dX11_table_34 (by decide) (fun h34_4 => ?_) (fun h34_4 => ?_)
        · skip
          obtain ⟨c1, hc1b, hc1a, hc1e⟩ := nI_tc (x := c) (a := 1) (b := 4) (by decide) (by decide) (by assumption)
          obtain ⟨p1, hp1b, hp1a, hp1e⟩ := nI_tc (x := p) (a := 2) (b := 8) (by decide) (by decide) (by assumption)
          rw [hc1e, hp1e] at hl
          refine lv_aload_n hx hb dX11_table_39 rfl (lv_at hl 0 rfl) ?_
          refine x_get cx hk hw (rfl) f_RX11_7_10 rfl dX11_table_40 ?_
          refine lv_iload_n hx hb dX11_table_43 rfl (lv_at hl 1 rfl) ?_
          refine lv_iload_n hx hb dX11_table_44 rfl (lv_at hl 2 rfl) ?_
          refine y_ist 1 4 (by decide) cx hk hW (by omega) dX11_table_45 (fun H locs hW => ?_)
          have hw := hW.1
          refine lv_aload_n hx hb dX11_table_46 rfl (lv_at hl 0 rfl) ?_
          refine x_get cx hk hw (rfl) f_RX11_13_10 rfl dX11_table_47 ?_
          refine lv_iload_n hx hb dX11_table_50 rfl (lv_at hl 1 rfl) ?_
          refine lv_iload_n hx hb dX11_table_51 rfl (lv_at hl 3 rfl) ?_
          refine y_ist 2 4 (by decide) cx hk hW (by omega) dX11_table_52 (fun H locs hW => ?_)
          have hw := hW.1
          refine lv_iconst (v := nI 1) hx hb dX11_table_53 rfl ?_
          exact y_zret (true) cx hW hr hlk ⟨by decide, by decide⟩ dX11_table_54 rfl (by rw [← hpo]; rw [show P_table S t c p = (true, setT S t1 (newT t1 c1 p1)) from by unfold P_table; rw [if_pos (by rw [hx4, ht3, nI_clamp (by omega)]; simp [(by assumption : s_btw c (nI 1) (nI 4) = true), (by assumption : s_btw p (nI 2) (nI 8) = true), (by assumption : (sT S t1).1 1 = 0)]), ht3, hc1e, hp1e, nI_clamp (by omega), nI_clamp (by omega), nI_clamp (by omega)]]; exact ⟨rfl, rfl, m, hM, wtb t1 c1 p1 (hZ t1 ht1 (by assumption))⟩)
        · skip
          refine lv_iconst (v := nI 0) hx hb dX11_table_37 rfl ?_
          exact y_zret (false) cx hW hr hlk ⟨by decide, by decide⟩ dX11_table_38 rfl (by rw [← hpo]; first | (rw [show P_table S t c p = (false, S) from by unfold P_table; rw [if_neg (by rw [show x_in 4 t = false from hbt.symm.trans (by assumption)]; simp; done)]; done]; exact ⟨rfl, rfl, m, hM, rfl⟩) | (rw [show P_table S t c p = (false, S) from by unfold P_table; rw [if_neg (by rw [hx4, ht3, nI_clamp (by omega)]; simp [*]; done)]; done]; exact ⟨rfl, rfl, m, hM, rfl⟩))
