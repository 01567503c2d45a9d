set_option maxHeartbeats 4000000 in
set_option maxRecDepth 100000 in
theorem w_question {l : Launch} {G : x_G} {lo : x_L} (S : St) (m : Nat → Nat → Int32) (hS : Sok S) (hM : Mok S m) (hZ : Szz S) (t w a n : Int32) : x_Wr l G lo (mco G lo (nS S) (mS S m)) yX11_question cX11_question 5 (some .int) 4 0 0 [.ref (lo (0)), .int (t), .int (w), .int (a), .int (n)] (m_post G lo (P_question S t w a n).2 (some (.int (P_question S t w a n).1))) := by
  refine x_wenter RX11 rfl (by decide) (Nat.le_of_ble_eq_true rfl) ?_
  intro pp ee ss mm bb mt cd ls AA cx hk hW hA hr hlk hnm hl
  have hl : lv_has ls 5 [(0, .ref (lo (0))), (1, .int (t)), (2, .int (w)), (3, .int (a)), (4, .int (n))] := hl
  generalize hav : ([.ref (lo (0)), .int (t), .int (w), .int (a), .int (n)] : List Value).toArray = av at cx ⊢
  generalize hpo : (m_post G lo (P_question S t w a n).2 (some (.int (P_question S t w a n).1))) = po
  have hx := cx.1
  have hb := cx.2.1
  have hown := cx.2.2.2.1
  have hts := cx.2.2.2.2
  have hw := hW.1
  obtain ⟨s1, s2, s3, s4, s5, s6⟩ := id hS
  have hm := m_isM G lo S m
  refine lv_aload_n hx hb dX11_question_0 rfl (lv_at hl 0 rfl) ?_
  refine x_get cx hk hw (rfl) f_RX11_116_10 rfl dX11_question_1 ?_
  refine lv_bipush (v := nI 24) hx hb dX11_question_4 rfl ?_
  refine x_icmp_eq (tgt := 60) cx dX11_question_6 (by decide) (by omega) (fun h6_1 => ?_) (fun h6_1 => ?_)
  · skip
    refine lv_iconst (v := (-1)) hx hb dX11_question_60 rfl ?_
    exact y_iret cx hW hr hlk ⟨by decide, by decide⟩ dX11_question_61 (by rw [← hpo]; first | (rw [show P_question S t w a n = (-1, S) from by unfold P_question; rw [if_neg (fun u => u.1 (by assumption))]; done]; exact ⟨rfl, rfl, m, hM, rfl⟩) | (rw [show P_question S t w a n = (-1, S) from by unfold P_question; rw [if_neg (fun u => Bool.noConfusion ((by assumption : m_isT S t = false).symm.trans u.2.1))]; done]; exact ⟨rfl, rfl, m, hM, rfl⟩) | (rw [show P_question S t w a n = (-1, S) from by unfold P_question; rw [if_neg (fun u => by have u2 := u.2.2.1; rw [ht3, nI_clamp (by omega)] at u2; exact Bool.noConfusion ((by assumption : x_in (2 ^ (sT S t1).1 1) w = false).symm.trans u2))]; done]; exact ⟨rfl, rfl, m, hM, rfl⟩) | (rw [show P_question S t w a n = (-1, S) from by unfold P_question; rw [if_neg (fun u => Bool.noConfusion ((by assumption : s_btw n (nI 1) (nI 100) = false).symm.trans u.2.2.2.2))]; done]; exact ⟨rfl, rfl, m, hM, rfl⟩) | (rw [show P_question S t w a n = (-1, S) from by unfold P_question; rw [if_neg (fun u => by have u2 := u.2.2.2.1; rw [ht3, nI_clamp (by omega), t_hon, decide_eq_false (by assumption : ¬ a = (-1)), Bool.false_or] at u2; have w1 := (by assumption : m_isC S (nI t1) a = false); rw [m_isC, nI_clamp (by omega), u2, m_isT_nI (by omega), decide_eq_true ⟨ht1, ht2⟩] at w1; exact absurd w1 (by decide))]; done]; exact ⟨rfl, rfl, m, hM, rfl⟩))
  · skip
    refine lv_aload_n hx hb dX11_question_9 rfl (lv_at hl 0 rfl) ?_
    refine lv_iload_n hx hb dX11_question_10 rfl (lv_at hl 1 rfl) ?_
    refine x_rdV (av := [.int (t)]) (rest := []) cx hk hw (rfl) cv_RX11_93_10 (m_isTab S m hm hS t) hl.1 rfl rfl (Nat.le_of_ble_eq_true rfl) ⟨by decide, by decide⟩ ⟨Nat.zero_le _, Nat.zero_le _⟩ dX11_question_11 ?_
    refine x_if_eq (tgt := 60) cx dX11_question_14 (by decide) (fun h14_2 => ?_) (fun h14_2 => ?_)
    · skip
      refine lv_iconst (v := (-1)) hx hb dX11_question_60 rfl ?_
      exact y_iret cx hW hr hlk ⟨by decide, by decide⟩ dX11_question_61 (by rw [← hpo]; first | (rw [show P_question S t w a n = (-1, S) from by unfold P_question; rw [if_neg (fun u => u.1 (by assumption))]; done]; exact ⟨rfl, rfl, m, hM, rfl⟩) | (rw [show P_question S t w a n = (-1, S) from by unfold P_question; rw [if_neg (fun u => Bool.noConfusion ((by assumption : m_isT S t = false).symm.trans u.2.1))]; done]; exact ⟨rfl, rfl, m, hM, rfl⟩) | (rw [show P_question S t w a n = (-1, S) from by unfold P_question; rw [if_neg (fun u => by have u2 := u.2.2.1; rw [ht3, nI_clamp (by omega)] at u2; exact Bool.noConfusion ((by assumption : x_in (2 ^ (sT S t1).1 1) w = false).symm.trans u2))]; done]; exact ⟨rfl, rfl, m, hM, rfl⟩) | (rw [show P_question S t w a n = (-1, S) from by unfold P_question; rw [if_neg (fun u => Bool.noConfusion ((by assumption : s_btw n (nI 1) (nI 100) = false).symm.trans u.2.2.2.2))]; done]; exact ⟨rfl, rfl, m, hM, rfl⟩) | (rw [show P_question S t w a n = (-1, S) from by unfold P_question; rw [if_neg (fun u => by have u2 := u.2.2.2.1; rw [ht3, nI_clamp (by omega), t_hon, decide_eq_false (by assumption : ¬ a = (-1)), Bool.false_or] at u2; have w1 := (by assumption : m_isC S (nI t1) a = false); rw [m_isC, nI_clamp (by omega), u2, m_isT_nI (by omega), decide_eq_true ⟨ht1, ht2⟩] at w1; exact absurd w1 (by decide))]; done]; exact ⟨rfl, rfl, m, hM, rfl⟩))
    · skip
      obtain ⟨t1, ht1, ht2, ht3⟩ := m_isT_ex (by assumption)
      rw [ht3] at hl
      have hT := (s1 t1 ht1).1 ht2
      obtain ⟨k1, k2, k3, k4, k5, k6, k7, k8, k9, k0⟩ := id hT
      have hp16 := pow_col k2
      have hp1 := Nat.two_pow_pos ((sT S t1).1 1)
      refine lv_iload_n hx hb dX11_question_17 rfl (lv_at hl 2 rfl) ?_
      refine lv_iconst (v := nI 0) hx hb dX11_question_18 rfl ?_
      refine lv_iconst (v := nI 1) hx hb dX11_question_19 rfl ?_
      refine lv_aload_n hx hb dX11_question_20 rfl (lv_at hl 0 rfl) ?_
      refine x_get cx hk hw (rfl) f_RX11_7_10 rfl dX11_question_21 ?_
      refine lv_iload_n hx hb dX11_question_24 rfl (lv_at hl 1 rfl) ?_
      refine x_ialdE (x := nI ((sT S t1).1 1)) cx hk hw (show mco G lo (nS S) (mS S m) 1 = some (.inl (G.2 0, 4, .inl ((mS S m) 1))) from rfl) (by omega) (by decide) (rfl) dX11_question_25 ?_
      refine x_ishlB cx (by omega) dX11_question_26 ?_
      refine lv_iconst (v := nI 1) hx hb dX11_question_27 rfl ?_
      refine x_isubN cx (by omega) dX11_question_28 ?_
      refine x_rdS (av := [.int (w), .int (nI 0), .int (nI ((2 ^ ((sT S t1).1 1)) - 1))]) (rest := []) cx hk hw cs_RX11_89 (m_lies w (nI 0) (nI ((2 ^ ((sT S t1).1 1)) - 1))) hl.1 rfl rfl (Nat.le_of_ble_eq_true rfl) ⟨by decide, by decide⟩ ⟨Nat.zero_le _, Nat.zero_le _⟩ dX11_question_29 ?_
      rw [s_btw_pos (by omega) (by omega)]
      refine x_if_eq (tgt := 60) cx dX11_question_32 (by decide) (fun h32_3 => ?_) (fun h32_3 => ?_)
      · skip
        refine lv_iconst (v := (-1)) hx hb dX11_question_60 rfl ?_
        exact y_iret cx hW hr hlk ⟨by decide, by decide⟩ dX11_question_61 (by rw [← hpo]; first | (rw [show P_question S t w a n = (-1, S) from by unfold P_question; rw [if_neg (fun u => u.1 (by assumption))]; done]; exact ⟨rfl, rfl, m, hM, rfl⟩) | (rw [show P_question S t w a n = (-1, S) from by unfold P_question; rw [if_neg (fun u => Bool.noConfusion ((by assumption : m_isT S t = false).symm.trans u.2.1))]; done]; exact ⟨rfl, rfl, m, hM, rfl⟩) | (rw [show P_question S t w a n = (-1, S) from by unfold P_question; rw [if_neg (fun u => by have u2 := u.2.2.1; rw [ht3, nI_clamp (by omega)] at u2; exact Bool.noConfusion ((by assumption : x_in (2 ^ (sT S t1).1 1) w = false).symm.trans u2))]; done]; exact ⟨rfl, rfl, m, hM, rfl⟩) | (rw [show P_question S t w a n = (-1, S) from by unfold P_question; rw [if_neg (fun u => Bool.noConfusion ((by assumption : s_btw n (nI 1) (nI 100) = false).symm.trans u.2.2.2.2))]; done]; exact ⟨rfl, rfl, m, hM, rfl⟩) | (rw [show P_question S t w a n = (-1, S) from by unfold P_question; rw [if_neg (fun u => by have u2 := u.2.2.2.1; rw [ht3, nI_clamp (by omega), t_hon, decide_eq_false (by assumption : ¬ a = (-1)), Bool.false_or] at u2; have w1 := (by assumption : m_isC S (nI t1) a = false); rw [m_isC, nI_clamp (by omega), u2, m_isT_nI (by omega), decide_eq_true ⟨ht1, ht2⟩] at w1; exact absurd w1 (by decide))]; done]; exact ⟨rfl, rfl, m, hM, rfl⟩))
      · skip
        refine lv_iload_n hx hb dX11_question_35 rfl (lv_at hl 3 rfl) ?_
        refine lv_iconst (v := (-1)) hx hb dX11_question_36 rfl ?_
        refine lv_icmp_eq (tgt := 49) hx hb dX11_question_37 (by decide) (fun h37_4 => ?_) (fun h37_4 => ?_)
        · skip
          have hon : t_hon (sT S t1) a = true := by first | (rw [t_hon, decide_eq_true (by assumption : a = (-1))]; rfl) | (have w1 := (by assumption : m_isC S (nI t1) a = true); rw [m_isC, nI_clamp (by omega), Bool.and_eq_true] at w1; rw [t_hon, w1.2, Bool.or_true])
          refine lv_iload hx hb dX11_question_49 (lv_at hl 4 rfl) ?_
          refine lv_iconst (v := nI 1) hx hb dX11_question_51 rfl ?_
          refine lv_bipush (v := nI 100) hx hb dX11_question_52 rfl ?_
          refine x_rdS (av := [.int (n), .int (nI 1), .int (nI 100)]) (rest := []) cx hk hw cs_RX11_89 (m_lies n (nI 1) (nI 100)) hl.1 rfl rfl (Nat.le_of_ble_eq_true rfl) ⟨by decide, by decide⟩ ⟨Nat.zero_le _, Nat.zero_le _⟩ dX11_question_54 ?_
          refine x_if_ne (tgt := 62) cx dX11_question_57 (by decide) (fun h57_5 => ?_) (fun h57_5 => ?_)
          · skip
            obtain ⟨w1, hw1, hw3⟩ := x_in_ex (n := 2 ^ (sT S t1).1 1) (q := w) (by omega) (by assumption)
            obtain ⟨n1, hn1b, hn1a, hn1e⟩ := nI_tc (x := n) (a := 1) (b := 100) (by decide) (by decide) (by assumption)
            rw [hw3, hn1e] at hl
            refine lv_aload_n hx hb dX11_question_62 rfl (lv_at hl 0 rfl) ?_
            refine x_get cx hk hw (rfl) f_RX11_37_10 rfl dX11_question_63 ?_
            refine lv_aload_n hx hb dX11_question_66 rfl (lv_at hl 0 rfl) ?_
            refine x_get cx hk hw (rfl) f_RX11_116_10 rfl dX11_question_67 ?_
            refine lv_iload_n hx hb dX11_question_70 rfl (lv_at hl 1 rfl) ?_
            refine y_ist 11 24 (by decide) cx hk hW (by omega) dX11_question_71 (fun H locs hW => ?_)
            have hw := hW.1
            refine lv_aload_n hx hb dX11_question_72 rfl (lv_at hl 0 rfl) ?_
            refine x_get cx hk hw (rfl) f_RX11_40_10 rfl dX11_question_73 ?_
            refine lv_aload_n hx hb dX11_question_76 rfl (lv_at hl 0 rfl) ?_
            refine x_get cx hk hw (rfl) f_RX11_116_10 rfl dX11_question_77 ?_
            refine lv_iload_n hx hb dX11_question_80 rfl (lv_at hl 2 rfl) ?_
            refine y_ist 12 24 (by decide) cx hk hW (by omega) dX11_question_81 (fun H locs hW => ?_)
            have hw := hW.1
            refine lv_aload_n hx hb dX11_question_82 rfl (lv_at hl 0 rfl) ?_
            refine x_get cx hk hw (rfl) f_RX11_43_10 rfl dX11_question_83 ?_
            refine lv_aload_n hx hb dX11_question_86 rfl (lv_at hl 0 rfl) ?_
            refine x_get cx hk hw (rfl) f_RX11_116_10 rfl dX11_question_87 ?_
            refine lv_iload_n hx hb dX11_question_90 rfl (lv_at hl 3 rfl) ?_
            refine y_ist 13 24 (by decide) cx hk hW (by omega) dX11_question_91 (fun H locs hW => ?_)
            have hw := hW.1
            refine lv_aload_n hx hb dX11_question_92 rfl (lv_at hl 0 rfl) ?_
            refine x_get cx hk hw (rfl) f_RX11_46_10 rfl dX11_question_93 ?_
            refine lv_aload_n hx hb dX11_question_96 rfl (lv_at hl 0 rfl) ?_
            refine x_get cx hk hw (rfl) f_RX11_116_10 rfl dX11_question_97 ?_
            refine lv_iload hx hb dX11_question_100 (lv_at hl 4 rfl) ?_
            refine y_ist 14 24 (by decide) cx hk hW (by omega) dX11_question_102 (fun H locs hW => ?_)
            have hw := hW.1
            refine lv_aload_n hx hb dX11_question_103 rfl (lv_at hl 0 rfl) ?_
            refine lv_dup hx hb dX11_question_104 rfl ?_
            refine x_get cx hk hw (rfl) f_RX11_116_10 rfl dX11_question_105 ?_
            refine lv_iconst (v := nI 1) hx hb dX11_question_108 rfl ?_
            refine x_iaddN cx dX11_question_109 ?_
            refine y_pt 0 rfl (by decide) cx hk hW p_RX11_116_10 dX11_question_110 (fun H locs hW => ?_)
            have hw := hW.1
            refine lv_aload_n hx hb dX11_question_113 rfl (lv_at hl 0 rfl) ?_
            refine x_get cx hk hw (rfl) f_RX11_116_10 rfl dX11_question_114 ?_
            refine lv_iconst (v := nI 1) hx hb dX11_question_117 rfl ?_
            refine x_isubN cx (by omega) dX11_question_118 ?_
            exact y_iret cx hW hr hlk ⟨by decide, by decide⟩ dX11_question_119 (by rw [← hpo]; rw [show P_question S t w a n = (nI (sn S 0), addQ S (t1, newQ w1 n1 (cO a))) from by unfold P_question; rw [if_pos ⟨by assumption, by assumption, by rw [ht3, nI_clamp (by omega)]; assumption, by rw [ht3, nI_clamp (by omega)]; exact hon, by assumption⟩, ht3, hw3, hn1e, nI_clamp (by omega), nI_clamp (by omega), nI_clamp (by omega)]]; exact ⟨rfl, rfl, m, hM, wqu hZ (cO_hon k2 hon).1⟩)
          · skip
            refine lv_iconst (v := (-1)) hx hb dX11_question_60 rfl ?_
            exact y_iret cx hW hr hlk ⟨by decide, by decide⟩ dX11_question_61 (by rw [← hpo]; first | (rw [show P_question S t w a n = (-1, S) from by unfold P_question; rw [if_neg (fun u => u.1 (by assumption))]; done]; exact ⟨rfl, rfl, m, hM, rfl⟩) | (rw [show P_question S t w a n = (-1, S) from by unfold P_question; rw [if_neg (fun u => Bool.noConfusion ((by assumption : m_isT S t = false).symm.trans u.2.1))]; done]; exact ⟨rfl, rfl, m, hM, rfl⟩) | (rw [show P_question S t w a n = (-1, S) from by unfold P_question; rw [if_neg (fun u => by have u2 := u.2.2.1; rw [ht3, nI_clamp (by omega)] at u2; exact Bool.noConfusion ((by assumption : x_in (2 ^ (sT S t1).1 1) w = false).symm.trans u2))]; done]; exact ⟨rfl, rfl, m, hM, rfl⟩) | (rw [show P_question S t w a n = (-1, S) from by unfold P_question; rw [if_neg (fun u => Bool.noConfusion ((by assumption : s_btw n (nI 1) (nI 100) = false).symm.trans u.2.2.2.2))]; done]; exact ⟨rfl, rfl, m, hM, rfl⟩) | (rw [show P_question S t w a n = (-1, S) from by unfold P_question; rw [if_neg (fun u => by have u2 := u.2.2.2.1; rw [ht3, nI_clamp (by omega), t_hon, decide_eq_false (by assumption : ¬ a = (-1)), Bool.false_or] at u2; have w1 := (by assumption : m_isC S (nI t1) a = false); rw [m_isC, nI_clamp (by omega), u2, m_isT_nI (by omega), decide_eq_true ⟨ht1, ht2⟩] at w1; exact absurd w1 (by decide))]; done]; exact ⟨rfl, rfl, m, hM, rfl⟩))
        · skip
          refine lv_aload_n hx hb dX11_question_40 rfl (lv_at hl 0 rfl) ?_
          refine lv_iload_n hx hb dX11_question_41 rfl (lv_at hl 1 rfl) ?_
          refine lv_iload_n hx hb dX11_question_42 rfl (lv_at hl 3 rfl) ?_
          refine x_rdV (av := [.int (nI t1), .int (a)]) (rest := []) cx hk hw (rfl) cv_RX11_113_10 (m_isCol S m hm hS (nI t1) a) hl.1 rfl rfl (Nat.le_of_ble_eq_true rfl) ⟨by decide, by decide⟩ ⟨Nat.zero_le _, Nat.zero_le _⟩ dX11_question_43 ?_
          refine x_if_eq (tgt := 60) cx dX11_question_46 (by decide) (fun h46_6 => ?_) (fun h46_6 => ?_)
          · skip
            refine lv_iconst (v := (-1)) hx hb dX11_question_60 rfl ?_
            exact y_iret cx hW hr hlk ⟨by decide, by decide⟩ dX11_question_61 (by rw [← hpo]; first | (rw [show P_question S t w a n = (-1, S) from by unfold P_question; rw [if_neg (fun u => u.1 (by assumption))]; done]; exact ⟨rfl, rfl, m, hM, rfl⟩) | (rw [show P_question S t w a n = (-1, S) from by unfold P_question; rw [if_neg (fun u => Bool.noConfusion ((by assumption : m_isT S t = false).symm.trans u.2.1))]; done]; exact ⟨rfl, rfl, m, hM, rfl⟩) | (rw [show P_question S t w a n = (-1, S) from by unfold P_question; rw [if_neg (fun u => by have u2 := u.2.2.1; rw [ht3, nI_clamp (by omega)] at u2; exact Bool.noConfusion ((by assumption : x_in (2 ^ (sT S t1).1 1) w = false).symm.trans u2))]; done]; exact ⟨rfl, rfl, m, hM, rfl⟩) | (rw [show P_question S t w a n = (-1, S) from by unfold P_question; rw [if_neg (fun u => Bool.noConfusion ((by assumption : s_btw n (nI 1) (nI 100) = false).symm.trans u.2.2.2.2))]; done]; exact ⟨rfl, rfl, m, hM, rfl⟩) | (rw [show P_question S t w a n = (-1, S) from by unfold P_question; rw [if_neg (fun u => by have u2 := u.2.2.2.1; rw [ht3, nI_clamp (by omega), t_hon, decide_eq_false (by assumption : ¬ a = (-1)), Bool.false_or] at u2; have w1 := (by assumption : m_isC S (nI t1) a = false); rw [m_isC, nI_clamp (by omega), u2, m_isT_nI (by omega), decide_eq_true ⟨ht1, ht2⟩] at w1; exact absurd w1 (by decide))]; done]; exact ⟨rfl, rfl, m, hM, rfl⟩))
          · skip
            have hon : t_hon (sT S t1) a = true := by first | (rw [t_hon, decide_eq_true (by assumption : a = (-1))]; rfl) | (have w1 := (by assumption : m_isC S (nI t1) a = true); rw [m_isC, nI_clamp (by omega), Bool.and_eq_true] at w1; rw [t_hon, w1.2, Bool.or_true])
            refine lv_iload hx hb dX11_question_49 (lv_at hl 4 rfl) ?_
            refine lv_iconst (v := nI 1) hx hb dX11_question_51 rfl ?_
            refine lv_bipush (v := nI 100) hx hb dX11_question_52 rfl ?_
            refine x_rdS (av := [.int (n), .int (nI 1), .int (nI 100)]) (rest := []) cx hk hw cs_RX11_89 (m_lies n (nI 1) (nI 100)) hl.1 rfl rfl (Nat.le_of_ble_eq_true rfl) ⟨by decide, by decide⟩ ⟨Nat.zero_le _, Nat.zero_le _⟩ dX11_question_54 ?_
            refine x_if_ne (tgt := 62) cx dX11_question_57 (by decide) (fun h57_7 => ?_) (fun h57_7 => ?_)
            · skip
              obtain ⟨w1, hw1, hw3⟩ := x_in_ex (n := 2 ^ (sT S t1).1 1) (q := w) (by omega) (by assumption)
              obtain ⟨n1, hn1b, hn1a, hn1e⟩ := nI_tc (x := n) (a := 1) (b := 100) (by decide) (by decide) (by assumption)
              rw [hw3, hn1e] at hl
              refine lv_aload_n hx hb dX11_question_62 rfl (lv_at hl 0 rfl) ?_
              refine x_get cx hk hw (rfl) f_RX11_37_10 rfl dX11_question_63 ?_
              refine lv_aload_n hx hb dX11_question_66 rfl (lv_at hl 0 rfl) ?_
              refine x_get cx hk hw (rfl) f_RX11_116_10 rfl dX11_question_67 ?_
              refine lv_iload_n hx hb dX11_question_70 rfl (lv_at hl 1 rfl) ?_
              refine y_ist 11 24 (by decide) cx hk hW (by omega) dX11_question_71 (fun H locs hW => ?_)
              have hw := hW.1
              refine lv_aload_n hx hb dX11_question_72 rfl (lv_at hl 0 rfl) ?_
              refine x_get cx hk hw (rfl) f_RX11_40_10 rfl dX11_question_73 ?_
              refine lv_aload_n hx hb dX11_question_76 rfl (lv_at hl 0 rfl) ?_
              refine x_get cx hk hw (rfl) f_RX11_116_10 rfl dX11_question_77 ?_
              refine lv_iload_n hx hb dX11_question_80 rfl (lv_at hl 2 rfl) ?_
              refine y_ist 12 24 (by decide) cx hk hW (by omega) dX11_question_81 (fun H locs hW => ?_)
              have hw := hW.1
              refine lv_aload_n hx hb dX11_question_82 rfl (lv_at hl 0 rfl) ?_
              refine x_get cx hk hw (rfl) f_RX11_43_10 rfl dX11_question_83 ?_
              refine lv_aload_n hx hb dX11_question_86 rfl (lv_at hl 0 rfl) ?_
              refine x_get cx hk hw (rfl) f_RX11_116_10 rfl dX11_question_87 ?_
              refine lv_iload_n hx hb dX11_question_90 rfl (lv_at hl 3 rfl) ?_
              refine y_ist 13 24 (by decide) cx hk hW (by omega) dX11_question_91 (fun H locs hW => ?_)
              have hw := hW.1
              refine lv_aload_n hx hb dX11_question_92 rfl (lv_at hl 0 rfl) ?_
              refine x_get cx hk hw (rfl) f_RX11_46_10 rfl dX11_question_93 ?_
              refine lv_aload_n hx hb dX11_question_96 rfl (lv_at hl 0 rfl) ?_
              refine x_get cx hk hw (rfl) f_RX11_116_10 rfl dX11_question_97 ?_
              refine lv_iload hx hb dX11_question_100 (lv_at hl 4 rfl) ?_
              refine y_ist 14 24 (by decide) cx hk hW (by omega) dX11_question_102 (fun H locs hW => ?_)
              have hw := hW.1
              refine lv_aload_n hx hb dX11_question_103 rfl (lv_at hl 0 rfl) ?_
              refine lv_dup hx hb dX11_question_104 rfl ?_
              refine x_get cx hk hw (rfl) f_RX11_116_10 rfl dX11_question_105 ?_
              refine lv_iconst (v := nI 1) hx hb dX11_question_108 rfl ?_
              refine x_iaddN cx dX11_question_109 ?_
              refine y_pt 0 rfl (by decide) cx hk hW p_RX11_116_10 dX11_question_110 (fun H locs hW => ?_)
              have hw := hW.1
              refine lv_aload_n hx hb dX11_question_113 rfl (lv_at hl 0 rfl) ?_
              refine x_get cx hk hw (rfl) f_RX11_116_10 rfl dX11_question_114 ?_
              refine lv_iconst (v := nI 1) hx hb dX11_question_117 rfl ?_
              refine x_isubN cx (by omega) dX11_question_118 ?_
              exact y_iret cx hW hr hlk ⟨by decide, by decide⟩ dX11_question_119 (by rw [← hpo]; rw [show P_question S t w a n = (nI (sn S 0), addQ S (t1, newQ w1 n1 (cO a))) from by unfold P_question; rw [if_pos ⟨by assumption, by assumption, by rw [ht3, nI_clamp (by omega)]; assumption, by rw [ht3, nI_clamp (by omega)]; exact hon, by assumption⟩, ht3, hw3, hn1e, nI_clamp (by omega), nI_clamp (by omega), nI_clamp (by omega)]]; exact ⟨rfl, rfl, m, hM, wqu hZ (cO_hon k2 hon).1⟩)
            · skip
              refine lv_iconst (v := (-1)) hx hb dX11_question_60 rfl ?_
              exact y_iret cx hW hr hlk ⟨by decide, by decide⟩ dX11_question_61 (by rw [← hpo]; first | (rw [show P_question S t w a n = (-1, S) from by unfold P_question; rw [if_neg (fun u => u.1 (by assumption))]; done]; exact ⟨rfl, rfl, m, hM, rfl⟩) | (rw [show P_question S t w a n = (-1, S) from by unfold P_question; rw [if_neg (fun u => Bool.noConfusion ((by assumption : m_isT S t = false).symm.trans u.2.1))]; done]; exact ⟨rfl, rfl, m, hM, rfl⟩) | (rw [show P_question S t w a n = (-1, S) from by unfold P_question; rw [if_neg (fun u => by have u2 := u.2.2.1; rw [ht3, nI_clamp (by omega)] at u2; exact Bool.noConfusion ((by assumption : x_in (2 ^ (sT S t1).1 1) w = false).symm.trans u2))]; done]; exact ⟨rfl, rfl, m, hM, rfl⟩) | (rw [show P_question S t w a n = (-1, S) from by unfold P_question; rw [if_neg (fun u => Bool.noConfusion ((by assumption : s_btw n (nI 1) (nI 100) = false).symm.trans u.2.2.2.2))]; done]; exact ⟨rfl, rfl, m, hM, rfl⟩) | (rw [show P_question S t w a n = (-1, S) from by unfold P_question; rw [if_neg (fun u => by have u2 := u.2.2.2.1; rw [ht3, nI_clamp (by omega), t_hon, decide_eq_false (by assumption : ¬ a = (-1)), Bool.false_or] at u2; have w1 := (by assumption : m_isC S (nI t1) a = false); rw [m_isC, nI_clamp (by omega), u2, m_isT_nI (by omega), decide_eq_true ⟨ht1, ht2⟩] at w1; exact absurd w1 (by decide))]; done]; exact ⟨rfl, rfl, m, hM, rfl⟩))
set_option maxHeartbeats 4000000 in
set_option maxRecDepth 100000 in
theorem w_test {l : Launch} {G : x_G} {lo : x_L} (S : St) (m : Nat → Nat → Int32) (hS : Sok S) (hM : Mok S m) (q c f t : Int32) : x_Wr l G lo (mco G lo (nS S) (mS S m)) yX11_test cX11_test 5 (some .boolean) 4 0 0 [.ref (lo (0)), .int (q), .int (c), .int (f), .int (t)] (m_post G lo (P_test S q c f t).2 (some (.int (bI (P_test S q c f t).1)))) := by
  refine x_wenter RX11 rfl (by decide) (Nat.le_of_ble_eq_true rfl) ?_
  intro pp ee ss mm bb mt cd ls AA cx hk hW hA hr hlk hnm hl
  have hl : lv_has ls 5 [(0, .ref (lo (0))), (1, .int (q)), (2, .int (c)), (3, .int (f)), (4, .int (t))] := hl
  generalize hav : ([.ref (lo (0)), .int (q), .int (c), .int (f), .int (t)] : List Value).toArray = av at cx ⊢
  generalize hpo : (m_post G lo (P_test S q c f t).2 (some (.int (bI (P_test S q c f t).1)))) = po
  have hx := cx.1
  have hb := cx.2.1
  have hown := cx.2.2.2.1
  have hts := cx.2.2.2.2
  have hw := hW.1
  obtain ⟨s1, s2, s3, s4, s5, s6⟩ := id hS
  have hm := m_isM G lo S m
  have hre := rng_eq f t
  refine lv_aload_n hx hb dX11_test_0 rfl (lv_at hl 0 rfl) ?_
  refine lv_iload_n hx hb dX11_test_1 rfl (lv_at hl 1 rfl) ?_
  refine x_rdV (av := [.int (q)]) (rest := []) cx hk hw (rfl) cv_RX11_120_10 (m_isQ S m hm hS q) hl.1 rfl rfl (Nat.le_of_ble_eq_true rfl) ⟨by decide, by decide⟩ ⟨Nat.zero_le _, Nat.zero_le _⟩ dX11_test_2 ?_
  refine x_if_eq (tgt := 45) cx dX11_test_5 (by decide) (fun h5_1 => ?_) (fun h5_1 => ?_)
  · skip
    refine lv_iconst (v := nI 0) hx hb dX11_test_45 rfl ?_
    exact y_zret (false) cx hW hr hlk ⟨by decide, by decide⟩ dX11_test_46 rfl (by rw [← hpo]; first | (rw [show P_test S q c f t = (false, S) from by unfold P_test; rw [if_neg (fun u => Bool.noConfusion ((by assumption : x_in (sn S 0) q = false).symm.trans u.1))]; done]; exact ⟨rfl, rfl, m, hM, rfl⟩) | (rw [show P_test S q c f t = (false, S) from by unfold P_test; rw [if_neg (fun u => by have u2 := u.2.1; rw [hq3, nI_clamp (by omega)] at u2; exact Bool.noConfusion ((by assumption : t_has (sT S (qt S q1)) c = false).symm.trans u2))]; done]; exact ⟨rfl, rfl, m, hM, rfl⟩) | (rw [show P_test S q c f t = (false, S) from by unfold P_test; rw [if_neg (fun u => by have u2 := u.2.2; rw [hre, (by assumption : s_btw f (nI 0) (nI 999) = false), Bool.false_and] at u2; exact absurd u2 (by decide))]; done]; exact ⟨rfl, rfl, m, hM, rfl⟩) | (rw [show P_test S q c f t = (false, S) from by unfold P_test; rw [if_neg (fun u => by have u2 := u.2.2; rw [hre, (by assumption : s_btw t f (nI 999) = false), Bool.and_false] at u2; exact absurd u2 (by decide))]; done]; exact ⟨rfl, rfl, m, hM, rfl⟩))
  · skip
    obtain ⟨q1, hq1, hq3⟩ := x_in_ex (n := sn S 0) (q := q) (by omega) (by assumption)
    rw [hq3] at hl
    obtain ⟨v1, v2, hQ⟩ := s5 q1 hq1
    have hTq := (s1 _ v1).1 v2
    obtain ⟨k1, k2, k3, k4, k5, k6, k7, k8, k9, k0⟩ := id hTq
    refine lv_aload_n hx hb dX11_test_8 rfl (lv_at hl 0 rfl) ?_
    refine lv_aload_n hx hb dX11_test_9 rfl (lv_at hl 0 rfl) ?_
    refine x_get cx hk hw (rfl) f_RX11_37_10 rfl dX11_test_10 ?_
    refine lv_iload_n hx hb dX11_test_13 rfl (lv_at hl 1 rfl) ?_
    refine x_ialdE (x := nI (qt S q1)) cx hk hw (show mco G lo (nS S) (mS S m) 11 = some (.inl (G.2 0, 24, .inl ((mS S m) 11))) from rfl) (by omega) (by decide) (rfl) dX11_test_14 ?_
    refine lv_iload_n hx hb dX11_test_15 rfl (lv_at hl 2 rfl) ?_
    refine x_rdV (av := [.int (nI (qt S q1)), .int (c)]) (rest := []) cx hk hw (rfl) cv_RX11_113_10 (m_isCol S m hm hS (nI (qt S q1)) c) hl.1 rfl rfl (Nat.le_of_ble_eq_true rfl) ⟨by decide, by decide⟩ ⟨Nat.zero_le _, Nat.zero_le _⟩ dX11_test_16 ?_
    rw [show m_isC S (nI (qt S q1)) c = t_has (sT S (qt S q1)) c from by rw [m_isC, m_isT_nI (by omega), decide_eq_true ⟨v1, v2⟩, nI_clamp (by omega), Bool.true_and]]
    refine x_if_eq (tgt := 45) cx dX11_test_19 (by decide) (fun h19_2 => ?_) (fun h19_2 => ?_)
    · skip
      refine lv_iconst (v := nI 0) hx hb dX11_test_45 rfl ?_
      exact y_zret (false) cx hW hr hlk ⟨by decide, by decide⟩ dX11_test_46 rfl (by rw [← hpo]; first | (rw [show P_test S q c f t = (false, S) from by unfold P_test; rw [if_neg (fun u => Bool.noConfusion ((by assumption : x_in (sn S 0) q = false).symm.trans u.1))]; done]; exact ⟨rfl, rfl, m, hM, rfl⟩) | (rw [show P_test S q c f t = (false, S) from by unfold P_test; rw [if_neg (fun u => by have u2 := u.2.1; rw [hq3, nI_clamp (by omega)] at u2; exact Bool.noConfusion ((by assumption : t_has (sT S (qt S q1)) c = false).symm.trans u2))]; done]; exact ⟨rfl, rfl, m, hM, rfl⟩) | (rw [show P_test S q c f t = (false, S) from by unfold P_test; rw [if_neg (fun u => by have u2 := u.2.2; rw [hre, (by assumption : s_btw f (nI 0) (nI 999) = false), Bool.false_and] at u2; exact absurd u2 (by decide))]; done]; exact ⟨rfl, rfl, m, hM, rfl⟩) | (rw [show P_test S q c f t = (false, S) from by unfold P_test; rw [if_neg (fun u => by have u2 := u.2.2; rw [hre, (by assumption : s_btw t f (nI 999) = false), Bool.and_false] at u2; exact absurd u2 (by decide))]; done]; exact ⟨rfl, rfl, m, hM, rfl⟩))
    · skip
      refine lv_iload_n hx hb dX11_test_22 rfl (lv_at hl 3 rfl) ?_
      refine lv_iconst (v := nI 0) hx hb dX11_test_23 rfl ?_
      refine lv_sipush (v := nI 999) hx hb dX11_test_24 rfl ?_
      refine x_rdS (av := [.int (f), .int (nI 0), .int (nI 999)]) (rest := []) cx hk hw cs_RX11_89 (m_lies f (nI 0) (nI 999)) hl.1 rfl rfl (Nat.le_of_ble_eq_true rfl) ⟨by decide, by decide⟩ ⟨Nat.zero_le _, Nat.zero_le _⟩ dX11_test_27 ?_
      refine x_if_eq (tgt := 45) cx dX11_test_30 (by decide) (fun h30_3 => ?_) (fun h30_3 => ?_)
      · skip
        refine lv_iconst (v := nI 0) hx hb dX11_test_45 rfl ?_
        exact y_zret (false) cx hW hr hlk ⟨by decide, by decide⟩ dX11_test_46 rfl (by rw [← hpo]; first | (rw [show P_test S q c f t = (false, S) from by unfold P_test; rw [if_neg (fun u => Bool.noConfusion ((by assumption : x_in (sn S 0) q = false).symm.trans u.1))]; done]; exact ⟨rfl, rfl, m, hM, rfl⟩) | (rw [show P_test S q c f t = (false, S) from by unfold P_test; rw [if_neg (fun u => by have u2 := u.2.1; rw [hq3, nI_clamp (by omega)] at u2; exact Bool.noConfusion ((by assumption : t_has (sT S (qt S q1)) c = false).symm.trans u2))]; done]; exact ⟨rfl, rfl, m, hM, rfl⟩) | (rw [show P_test S q c f t = (false, S) from by unfold P_test; rw [if_neg (fun u => by have u2 := u.2.2; rw [hre, (by assumption : s_btw f (nI 0) (nI 999) = false), Bool.false_and] at u2; exact absurd u2 (by decide))]; done]; exact ⟨rfl, rfl, m, hM, rfl⟩) | (rw [show P_test S q c f t = (false, S) from by unfold P_test; rw [if_neg (fun u => by have u2 := u.2.2; rw [hre, (by assumption : s_btw t f (nI 999) = false), Bool.and_false] at u2; exact absurd u2 (by decide))]; done]; exact ⟨rfl, rfl, m, hM, rfl⟩))
      · skip
        refine lv_iload hx hb dX11_test_33 (lv_at hl 4 rfl) ?_
        refine lv_iload_n hx hb dX11_test_35 rfl (lv_at hl 3 rfl) ?_
        refine lv_sipush (v := nI 999) hx hb dX11_test_36 rfl ?_
        refine x_rdS (av := [.int (t), .int (f), .int (nI 999)]) (rest := []) cx hk hw cs_RX11_89 (m_lies t f (nI 999)) hl.1 rfl rfl (Nat.le_of_ble_eq_true rfl) ⟨by decide, by decide⟩ ⟨Nat.zero_le _, Nat.zero_le _⟩ dX11_test_39 ?_
        refine x_if_ne (tgt := 47) cx dX11_test_42 (by decide) (fun h42_4 => ?_) (fun h42_4 => ?_)
        · skip
          obtain ⟨c1, hc1, hc3⟩ := t_has_ex (T := sT S (qt S q1)) k2 (by assumption)
          obtain ⟨f1, hf1b, hf1a, hf1e⟩ := nI_tc (x := f) (a := 0) (b := 999) (by decide) (by decide) (by assumption)
          have hsr : s_rng f t = true := by rw [hre, (by assumption : s_btw f (nI 0) (nI 999) = true), (by assumption : s_btw t f (nI 999) = true)]; rfl
          obtain ⟨t1, ht1b, ht1a, ht1e⟩ := nI_tc (x := t) (a := f1) (b := 999) (by omega) (by decide) (by rw [← hf1e]; assumption)
          rw [hc3, hf1e, ht1e] at hl
          refine lv_aload_n hx hb dX11_test_47 rfl (lv_at hl 0 rfl) ?_
          refine x_get cx hk hw (rfl) f_RX11_49_10 rfl dX11_test_48 ?_
          refine lv_iconst (v := nI 4) hx hb dX11_test_51 rfl ?_
          refine lv_iload_n hx hb dX11_test_52 rfl (lv_at hl 1 rfl) ?_
          refine x_imulN cx dX11_test_53 ?_
          refine lv_iload_n hx hb dX11_test_54 rfl (lv_at hl 2 rfl) ?_
          refine x_iaddN cx dX11_test_55 ?_
          refine lv_iconst (v := nI 1) hx hb dX11_test_56 rfl ?_
          refine y_zst true cx hk hW (by omega) rfl dX11_test_57 (fun H locs hW => ?_)
          have hw := hW.1
          refine lv_aload_n hx hb dX11_test_58 rfl (lv_at hl 0 rfl) ?_
          refine x_get cx hk hw (rfl) f_RX11_53_10 rfl dX11_test_59 ?_
          refine lv_iconst (v := nI 4) hx hb dX11_test_62 rfl ?_
          refine lv_iload_n hx hb dX11_test_63 rfl (lv_at hl 1 rfl) ?_
          refine x_imulN cx dX11_test_64 ?_
          refine lv_iload_n hx hb dX11_test_65 rfl (lv_at hl 2 rfl) ?_
          refine x_iaddN cx dX11_test_66 ?_
          refine lv_iload_n hx hb dX11_test_67 rfl (lv_at hl 3 rfl) ?_
          refine y_ist 16 96 (by decide) cx hk hW (by omega) dX11_test_68 (fun H locs hW => ?_)
          have hw := hW.1
          refine lv_aload_n hx hb dX11_test_69 rfl (lv_at hl 0 rfl) ?_
          refine x_get cx hk hw (rfl) f_RX11_56_10 rfl dX11_test_70 ?_
          refine lv_iconst (v := nI 4) hx hb dX11_test_73 rfl ?_
          refine lv_iload_n hx hb dX11_test_74 rfl (lv_at hl 1 rfl) ?_
          refine x_imulN cx dX11_test_75 ?_
          refine lv_iload_n hx hb dX11_test_76 rfl (lv_at hl 2 rfl) ?_
          refine x_iaddN cx dX11_test_77 ?_
          refine lv_iload hx hb dX11_test_78 (lv_at hl 4 rfl) ?_
          refine y_ist 17 96 (by decide) cx hk hW (by omega) dX11_test_80 (fun H locs hW => ?_)
          have hw := hW.1
          refine lv_iconst (v := nI 1) hx hb dX11_test_81 rfl ?_
          exact y_zret (true) cx hW hr hlk ⟨by decide, by decide⟩ dX11_test_82 rfl (by rw [← hpo]; rw [show P_test S q c f t = (true, setQ S q1 (tstQ (qQ S q1) c1 f1 t1)) from by unfold P_test; rw [if_pos ⟨by assumption, by rw [hq3, nI_clamp (by omega)]; assumption, hsr⟩, hq3, hc3, hf1e, ht1e, nI_clamp (by omega), nI_clamp (by omega), nI_clamp (by omega), nI_clamp (by omega)]]; exact ⟨rfl, rfl, m, hM, wts (by omega)⟩)
        · skip
          refine lv_iconst (v := nI 0) hx hb dX11_test_45 rfl ?_
          exact y_zret (false) cx hW hr hlk ⟨by decide, by decide⟩ dX11_test_46 rfl (by rw [← hpo]; first | (rw [show P_test S q c f t = (false, S) from by unfold P_test; rw [if_neg (fun u => Bool.noConfusion ((by assumption : x_in (sn S 0) q = false).symm.trans u.1))]; done]; exact ⟨rfl, rfl, m, hM, rfl⟩) | (rw [show P_test S q c f t = (false, S) from by unfold P_test; rw [if_neg (fun u => by have u2 := u.2.1; rw [hq3, nI_clamp (by omega)] at u2; exact Bool.noConfusion ((by assumption : t_has (sT S (qt S q1)) c = false).symm.trans u2))]; done]; exact ⟨rfl, rfl, m, hM, rfl⟩) | (rw [show P_test S q c f t = (false, S) from by unfold P_test; rw [if_neg (fun u => by have u2 := u.2.2; rw [hre, (by assumption : s_btw f (nI 0) (nI 999) = false), Bool.false_and] at u2; exact absurd u2 (by decide))]; done]; exact ⟨rfl, rfl, m, hM, rfl⟩) | (rw [show P_test S q c f t = (false, S) from by unfold P_test; rw [if_neg (fun u => by have u2 := u.2.2; rw [hre, (by assumption : s_btw t f (nI 999) = false), Bool.and_false] at u2; exact absurd u2 (by decide))]; done]; exact ⟨rfl, rfl, m, hM, rfl⟩))
