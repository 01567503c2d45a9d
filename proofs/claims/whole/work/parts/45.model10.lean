set_option maxHeartbeats 4000000 in
set_option maxRecDepth 100000 in
theorem w_order {l : Launch} {G : x_G} {lo : x_L} (S : St) (m : Nat → Nat → Int32) (hS : Sok S) (hM : Mok S m) (hZ : Szz S) (t k a b c w : Int32) : x_Wr l G lo (mco G lo (nS S) (mS S m)) yX11_order cX11_order 9 (some .int) 5 0 0 [.ref (lo (0)), .int (t), .int (k), .int (a), .int (b), .int (c), .int (w)] (m_post G lo (P_order S t k a b c w).2 (some (.int (P_order S t k a b c w).1))) := by
  refine x_wenter RX11 rfl (by decide) (Nat.le_of_ble_eq_true rfl) ?_
  intro pp ee ss mm bb mt cd ls AA cx hk hW hA hr hlk hnm hl
  have hl : lv_has ls 9 [(0, .ref (lo (0))), (1, .int (t)), (2, .int (k)), (3, .int (a)), (4, .int (b)), (5, .int (c)), (6, .int (w))] := hl
  generalize hav : ([.ref (lo (0)), .int (t), .int (k), .int (a), .int (b), .int (c), .int (w)] : List Value).toArray = av at cx ⊢
  generalize hpo : (m_post G lo (P_order S t k a b c w).2 (some (.int (P_order S t k a b c w).1))) = po
  have hx := cx.1
  have hb := cx.2.1
  have hown := cx.2.2.2.1
  have hts := cx.2.2.2.2
  have hw := hW.1
  obtain ⟨s1, s2, s3, s4, s5, s6⟩ := id hS
  have hm := m_isM G lo S m
  refine lv_aload_n hx hb dX11_order_0 rfl (lv_at hl 0 rfl) ?_
  refine lv_iload_n hx hb dX11_order_1 rfl (lv_at hl 1 rfl) ?_
  refine lv_iload_n hx hb dX11_order_2 rfl (lv_at hl 3 rfl) ?_
  refine lv_iload hx hb dX11_order_3 (lv_at hl 4 rfl) ?_
  refine lv_iload hx hb dX11_order_5 (lv_at hl 5 rfl) ?_
  refine x_rdV (av := [.int (t), .int (a), .int (b), .int (c)]) (rest := []) cx hk hw (rfl) cv_RX11_126_10 (m_turn_ S m hm hS t a b c) hl.1 rfl rfl (Nat.le_of_ble_eq_true rfl) ⟨by decide, by decide⟩ ⟨Nat.zero_le _, Nat.zero_le _⟩ dX11_order_7 ?_
  refine lv_istore (lv' := [(7, .int (m_turn S t a b c)), (0, .ref (lo (0))), (1, .int (t)), (2, .int (k)), (3, .int (a)), (4, .int (b)), (5, .int (c)), (6, .int (w))]) hx hb dX11_order_10 hl (by decide) rfl (fun ls hl => ?_)
  refine lv_aload_n hx hb dX11_order_12 rfl (lv_at hl 1 rfl) ?_
  refine x_get cx hk hw (rfl) f_RX11_123_10 rfl dX11_order_13 ?_
  refine lv_bipush (v := nI 12) hx hb dX11_order_16 rfl ?_
  refine x_icmp_eq (tgt := 40) cx dX11_order_18 (by decide) (by omega) (fun h18_1 => ?_) (fun h18_1 => ?_)
  · skip
    refine lv_iconst (v := (-1)) hx hb dX11_order_40 rfl ?_
    exact y_iret cx hW hr hlk ⟨by decide, by decide⟩ dX11_order_41 (by rw [← hpo]; first | (rw [show P_order S t k a b c w = (-1, S) from by unfold P_order; rw [if_neg (fun u => u.1 (by assumption))]; done]; exact ⟨rfl, rfl, m, hM, rfl⟩) | (rw [show P_order S t k a b c w = (-1, S) from by unfold P_order; rw [if_neg (fun u => m_turn_neg hS (by assumption) ⟨u.2.1, u.2.2.1⟩)]; done]; exact ⟨rfl, rfl, m, hM, rfl⟩) | (rw [show P_order S t k a b c w = (-1, S) from by unfold P_order; rw [if_neg (fun u => by rcases u.2.2.2 with w1 | w1 | w1; exact absurd w1 (by assumption); exact absurd w1 (by assumption); exact absurd w1.1 (by assumption))]; done]; exact ⟨rfl, rfl, m, hM, rfl⟩))
  · skip
    refine lv_iload hx hb dX11_order_21 (lv_at hl 0 rfl) ?_
    refine lv_if_lt (tgt := 40) hx hb dX11_order_23 (by decide) (fun h23_2 => ?_) (fun h23_2 => ?_)
    · skip
      refine lv_iconst (v := (-1)) hx hb dX11_order_40 rfl ?_
      exact y_iret cx hW hr hlk ⟨by decide, by decide⟩ dX11_order_41 (by rw [← hpo]; first | (rw [show P_order S t k a b c w = (-1, S) from by unfold P_order; rw [if_neg (fun u => u.1 (by assumption))]; done]; exact ⟨rfl, rfl, m, hM, rfl⟩) | (rw [show P_order S t k a b c w = (-1, S) from by unfold P_order; rw [if_neg (fun u => m_turn_neg hS (by assumption) ⟨u.2.1, u.2.2.1⟩)]; done]; exact ⟨rfl, rfl, m, hM, rfl⟩) | (rw [show P_order S t k a b c w = (-1, S) from by unfold P_order; rw [if_neg (fun u => by rcases u.2.2.2 with w1 | w1 | w1; exact absurd w1 (by assumption); exact absurd w1 (by assumption); exact absurd w1.1 (by assumption))]; done]; exact ⟨rfl, rfl, m, hM, rfl⟩))
    · skip
      obtain ⟨htn1, htn2, htn3⟩ := m_turn_pos (by assumption : ¬ m_turn S t a b c < 0)
      rw [htn3] at hl
      obtain ⟨t1, ht1, ht2, ht3⟩ := m_isT_ex (by assumption)
      rw [ht3] at hl
      have hT := (s1 t1 ht1).1 ht2
      obtain ⟨k1, k2, k3, k4, k5, k6, k7, k8, k9, k0⟩ := id hT
      have hp16 := pow_col k2
      have hp1 := Nat.two_pow_pos ((sT S t1).1 1)
      rw [ht3, nI_clamp (by omega)] at htn2
      have hown_ := own_lt k2 htn2
      refine lv_iload_n hx hb dX11_order_26 rfl (lv_at hl 3 rfl) ?_
      refine lv_if_eq (tgt := 42) hx hb dX11_order_27 (by decide) (fun h27_3 => ?_) (fun h27_3 => ?_)
      · skip
        obtain ⟨k1, hk4, hke⟩ : ∃ k1 : Nat, (k1 = 0 ∨ k1 = 1 ∨ k1 = 4) ∧ k = nI k1 := by first | exact ⟨0, Or.inl rfl, (by assumption : k = 0)⟩ | exact ⟨1, Or.inr (Or.inl rfl), by assumption⟩ | exact ⟨4, Or.inr (Or.inr rfl), by assumption⟩
        rw [hke] at hl
        refine lv_iload_n hx hb dX11_order_42 rfl (lv_at hl 3 rfl) ?_
        refine lv_iconst (v := nI 1) hx hb dX11_order_43 rfl ?_
        refine x_icmp_ne (tgt := 78) cx dX11_order_44 (by decide) (by omega) (fun h44_4 => ?_) (fun h44_4 => ?_)
        · skip
          refine lv_aload_n hx hb dX11_order_78 rfl (lv_at hl 1 rfl) ?_
          refine lv_iload_n hx hb dX11_order_79 rfl (lv_at hl 2 rfl) ?_
          refine lv_iload_n hx hb dX11_order_80 rfl (lv_at hl 3 rfl) ?_
          refine lv_iload_n hx hb dX11_order_81 rfl (lv_at hl 4 rfl) ?_
          refine lv_iload hx hb dX11_order_82 (lv_at hl 5 rfl) ?_
          refine lv_iload hx hb dX11_order_84 (lv_at hl 6 rfl) ?_
          refine y_wrV (av := [.int (nI t1), .int (nI k1), .int (a), .int (b), .int (c)]) (rest := []) cx hk hW hA (rfl) cv_RX11_130_10 (w_aid S m hS hM hZ t1 k1 a b c (by omega) (by omega)) hl.1 rfl rfl (Nat.le_of_ble_eq_true rfl) ⟨by decide, by decide⟩ ⟨by decide, by decide⟩ dX11_order_86 (fun v_ lo_ co_ H locs hq_ hW => ?_)
          obtain ⟨hv_, hlo_, hco_⟩ := hq_
          have hlo2_ := hlo_.symm
          subst hv_ hlo2_ hco_
          have hw := hW.1
          refine lv_istore (lv' := [(8, .int (nI (sn S 1))), (7, .int (nI (s_own a b c))), (0, .ref (lo (0))), (1, .int (nI t1)), (2, .int (nI k1)), (3, .int (a)), (4, .int (b)), (5, .int (c)), (6, .int (w))]) hx hb dX11_order_89 hl (by decide) rfl (fun ls hl => ?_)
          refine lv_aload_n hx hb dX11_order_91 rfl (lv_at hl 2 rfl) ?_
          refine x_get cx hk hw (rfl) f_RX11_71_10 rfl dX11_order_92 ?_
          refine lv_iload hx hb dX11_order_95 (lv_at hl 0 rfl) ?_
          refine lv_iload_n hx hb dX11_order_97 rfl (lv_at hl 4 rfl) ?_
          refine lv_iconst (v := nI 1) hx hb dX11_order_98 rfl ?_
          refine x_icmp_ne (tgt := 110) cx dX11_order_99 (by decide) (by omega) (fun h99_5 => ?_) (fun h99_5 => ?_)
          · skip
            refine lv_iload hx hb dX11_order_110 (lv_at hl 1 rfl) ?_
            refine y_ist 24 12 (by decide) cx hk hW (by omega) dX11_order_112 (fun H locs hW => ?_)
            have hw := hW.1
            refine lv_iload hx hb dX11_order_113 (lv_at hl 0 rfl) ?_
            exact y_iret cx hW hr hlk ⟨by decide, by decide⟩ dX11_order_115 (by rw [← hpo]; first | contradiction | (have hk1 := (by assumption : k1 = 1); (rw [show P_order S t k a b c w = (nI (sn S 1), addA S (t1, newA k1 (s_many b c) (w1 ||| s_own a b c) (s_own a b c) 0 0 0 a b c)) from by unfold P_order; rw [if_pos ⟨by assumption, by assumption, by rw [ht3, nI_clamp (by omega)]; exact htn2, Or.inr (Or.inr ⟨by rw [hke, hk1], by rw [ht3, nI_clamp (by omega)]; assumption, by assumption⟩)⟩, if_pos (by rw [hke, hk1]), ht3, hke, hw3, nI_clamp (by omega), nI_clamp (by omega), nI_clamp (by omega)]]; exact ⟨rfl, rfl, mA m (sn S 1) a b c, mok_order hS hM k2 htn2 (by omega), by rw [hw3, nI_or]; exact wset⟩)) | (rw [show P_order S t k a b c w = (nI (sn S 1), addA S (t1, newA k1 (s_many b c) (s_own a b c) (s_own a b c) 0 0 0 a b c)) from by unfold P_order; rw [if_pos ⟨by assumption, by assumption, by rw [ht3, nI_clamp (by omega)]; exact htn2, by rcases hk4 with e | e | e; exact Or.inl (by rw [hke, e]); contradiction; exact Or.inr (Or.inl (by rw [hke, e]))⟩, if_neg (by rw [hke, nI_eq (by omega) (by decide)]; assumption), ht3, hke, nI_clamp (by omega), nI_clamp (by omega)]]; exact ⟨rfl, rfl, mA m (sn S 1) a b c, mok_order hS hM k2 htn2 (by omega), wset⟩))
          · skip
            refine lv_iload hx hb dX11_order_102 (lv_at hl 8 rfl) ?_
            refine lv_iload hx hb dX11_order_104 (lv_at hl 1 rfl) ?_
            refine lv_ior hx hb dX11_order_106 ?_
            refine lv_goto (tgt := 112) hx hb dX11_order_107 (by decide) ?_
            refine y_ist 24 12 (by decide) cx hk hW (by omega) dX11_order_112 (fun H locs hW => ?_)
            have hw := hW.1
            refine lv_iload hx hb dX11_order_113 (lv_at hl 0 rfl) ?_
            exact y_iret cx hW hr hlk ⟨by decide, by decide⟩ dX11_order_115 (by rw [← hpo]; first | contradiction | (have hk1 := (by assumption : k1 = 1); (rw [show P_order S t k a b c w = (nI (sn S 1), addA S (t1, newA k1 (s_many b c) (w1 ||| s_own a b c) (s_own a b c) 0 0 0 a b c)) from by unfold P_order; rw [if_pos ⟨by assumption, by assumption, by rw [ht3, nI_clamp (by omega)]; exact htn2, Or.inr (Or.inr ⟨by rw [hke, hk1], by rw [ht3, nI_clamp (by omega)]; assumption, by assumption⟩)⟩, if_pos (by rw [hke, hk1]), ht3, hke, hw3, nI_clamp (by omega), nI_clamp (by omega), nI_clamp (by omega)]]; exact ⟨rfl, rfl, mA m (sn S 1) a b c, mok_order hS hM k2 htn2 (by omega), by rw [hw3, nI_or]; exact wset⟩)) | (rw [show P_order S t k a b c w = (nI (sn S 1), addA S (t1, newA k1 (s_many b c) (s_own a b c) (s_own a b c) 0 0 0 a b c)) from by unfold P_order; rw [if_pos ⟨by assumption, by assumption, by rw [ht3, nI_clamp (by omega)]; exact htn2, by rcases hk4 with e | e | e; exact Or.inl (by rw [hke, e]); contradiction; exact Or.inr (Or.inl (by rw [hke, e]))⟩, if_neg (by rw [hke, nI_eq (by omega) (by decide)]; assumption), ht3, hke, nI_clamp (by omega), nI_clamp (by omega)]]; exact ⟨rfl, rfl, mA m (sn S 1) a b c, mok_order hS hM k2 htn2 (by omega), wset⟩))
        · skip
          refine lv_iload hx hb dX11_order_47 (lv_at hl 7 rfl) ?_
          refine lv_iconst (v := nI 0) hx hb dX11_order_49 rfl ?_
          refine lv_iconst (v := nI 1) hx hb dX11_order_50 rfl ?_
          refine lv_aload_n hx hb dX11_order_51 rfl (lv_at hl 1 rfl) ?_
          refine x_get cx hk hw (rfl) f_RX11_7_10 rfl dX11_order_52 ?_
          refine lv_iload_n hx hb dX11_order_55 rfl (lv_at hl 2 rfl) ?_
          refine x_ialdE (x := nI ((sT S t1).1 1)) cx hk hw (show mco G lo (nS S) (mS S m) 1 = some (.inl (G.2 0, 4, .inl ((mS S m) 1))) from rfl) (by omega) (by decide) (rfl) dX11_order_56 ?_
          refine x_ishlB cx (by omega) dX11_order_57 ?_
          refine lv_iconst (v := nI 1) hx hb dX11_order_58 rfl ?_
          refine x_isubN cx (by omega) dX11_order_59 ?_
          refine x_rdS (av := [.int (w), .int (nI 0), .int (nI ((2 ^ ((sT S t1).1 1)) - 1))]) (rest := []) cx hk hw cs_RX11_89 (m_lies w (nI 0) (nI ((2 ^ ((sT S t1).1 1)) - 1))) hl.1 rfl rfl (Nat.le_of_ble_eq_true rfl) ⟨by decide, by decide⟩ ⟨Nat.zero_le _, Nat.zero_le _⟩ dX11_order_60 ?_
          rw [s_btw_pos (by omega) (by omega)]
          refine x_if_eq (tgt := 76) cx dX11_order_63 (by decide) (fun h63_6 => ?_) (fun h63_6 => ?_)
          · skip
            refine lv_iconst (v := (-1)) hx hb dX11_order_76 rfl ?_
            exact y_iret cx hW hr hlk ⟨by decide, by decide⟩ dX11_order_77 (by rw [← hpo]; first | contradiction | (rw [show P_order S t k a b c w = (-1, S) from by unfold P_order; rw [if_neg (fun u => by have q := u.2.2.2; rw [hke, (by assumption : k1 = 1)] at q; rcases q with w1 | w1 | w1; exact absurd w1 (by decide); exact absurd w1 (by decide); rw [ht3, nI_clamp (by omega), (by assumption : x_in (2 ^ (sT S t1).1 1) w = false)] at w1; exact Bool.noConfusion w1.2.1)]; done]; exact ⟨rfl, rfl, m, hM, rfl⟩) | (rw [show P_order S t k a b c w = (-1, S) from by unfold P_order; rw [if_neg (fun u => by have q := u.2.2.2; rw [hke, (by assumption : k1 = 1)] at q; rcases q with w1 | w1 | w1; exact absurd w1 (by decide); exact absurd w1 (by decide); exact w1.2.2 (by assumption))]; done]; exact ⟨rfl, rfl, m, hM, rfl⟩))
          · skip
            obtain ⟨w1, hw1, hw3⟩ := x_in_ex (n := 2 ^ (sT S t1).1 1) (q := w) (by omega) (by assumption)
            refine lv_iload hx hb dX11_order_66 (lv_at hl 7 rfl) ?_
            refine lv_iload hx hb dX11_order_68 (lv_at hl 0 rfl) ?_
            refine lv_iconst (v := (-1)) hx hb dX11_order_70 rfl ?_
            refine lv_ixor hx hb dX11_order_71 ?_
            refine lv_iand hx hb dX11_order_72 ?_
            refine lv_if_ne (tgt := 78) hx hb dX11_order_73 (by decide) (fun h73_7 => ?_) (fun h73_7 => ?_)
            · skip
              refine lv_aload_n hx hb dX11_order_78 rfl (lv_at hl 1 rfl) ?_
              refine lv_iload_n hx hb dX11_order_79 rfl (lv_at hl 2 rfl) ?_
              refine lv_iload_n hx hb dX11_order_80 rfl (lv_at hl 3 rfl) ?_
              refine lv_iload_n hx hb dX11_order_81 rfl (lv_at hl 4 rfl) ?_
              refine lv_iload hx hb dX11_order_82 (lv_at hl 5 rfl) ?_
              refine lv_iload hx hb dX11_order_84 (lv_at hl 6 rfl) ?_
              refine y_wrV (av := [.int (nI t1), .int (nI k1), .int (a), .int (b), .int (c)]) (rest := []) cx hk hW hA (rfl) cv_RX11_130_10 (w_aid S m hS hM hZ t1 k1 a b c (by omega) (by omega)) hl.1 rfl rfl (Nat.le_of_ble_eq_true rfl) ⟨by decide, by decide⟩ ⟨by decide, by decide⟩ dX11_order_86 (fun v_ lo_ co_ H locs hq_ hW => ?_)
              obtain ⟨hv_, hlo_, hco_⟩ := hq_
              have hlo2_ := hlo_.symm
              subst hv_ hlo2_ hco_
              have hw := hW.1
              refine lv_istore (lv' := [(8, .int (nI (sn S 1))), (7, .int (nI (s_own a b c))), (0, .ref (lo (0))), (1, .int (nI t1)), (2, .int (nI k1)), (3, .int (a)), (4, .int (b)), (5, .int (c)), (6, .int (w))]) hx hb dX11_order_89 hl (by decide) rfl (fun ls hl => ?_)
              refine lv_aload_n hx hb dX11_order_91 rfl (lv_at hl 2 rfl) ?_
              refine x_get cx hk hw (rfl) f_RX11_71_10 rfl dX11_order_92 ?_
              refine lv_iload hx hb dX11_order_95 (lv_at hl 0 rfl) ?_
              refine lv_iload_n hx hb dX11_order_97 rfl (lv_at hl 4 rfl) ?_
              refine lv_iconst (v := nI 1) hx hb dX11_order_98 rfl ?_
              refine x_icmp_ne (tgt := 110) cx dX11_order_99 (by decide) (by omega) (fun h99_8 => ?_) (fun h99_8 => ?_)
              · skip
                refine lv_iload hx hb dX11_order_110 (lv_at hl 1 rfl) ?_
                refine y_ist 24 12 (by decide) cx hk hW (by omega) dX11_order_112 (fun H locs hW => ?_)
                have hw := hW.1
                refine lv_iload hx hb dX11_order_113 (lv_at hl 0 rfl) ?_
                exact y_iret cx hW hr hlk ⟨by decide, by decide⟩ dX11_order_115 (by rw [← hpo]; first | contradiction | (have hk1 := (by assumption : k1 = 1); (rw [show P_order S t k a b c w = (nI (sn S 1), addA S (t1, newA k1 (s_many b c) (w1 ||| s_own a b c) (s_own a b c) 0 0 0 a b c)) from by unfold P_order; rw [if_pos ⟨by assumption, by assumption, by rw [ht3, nI_clamp (by omega)]; exact htn2, Or.inr (Or.inr ⟨by rw [hke, hk1], by rw [ht3, nI_clamp (by omega)]; assumption, by assumption⟩)⟩, if_pos (by rw [hke, hk1]), ht3, hke, hw3, nI_clamp (by omega), nI_clamp (by omega), nI_clamp (by omega)]]; exact ⟨rfl, rfl, mA m (sn S 1) a b c, mok_order hS hM k2 htn2 (by omega), by rw [hw3, nI_or]; exact wset⟩)) | (rw [show P_order S t k a b c w = (nI (sn S 1), addA S (t1, newA k1 (s_many b c) (s_own a b c) (s_own a b c) 0 0 0 a b c)) from by unfold P_order; rw [if_pos ⟨by assumption, by assumption, by rw [ht3, nI_clamp (by omega)]; exact htn2, by rcases hk4 with e | e | e; exact Or.inl (by rw [hke, e]); contradiction; exact Or.inr (Or.inl (by rw [hke, e]))⟩, if_neg (by rw [hke, nI_eq (by omega) (by decide)]; assumption), ht3, hke, nI_clamp (by omega), nI_clamp (by omega)]]; exact ⟨rfl, rfl, mA m (sn S 1) a b c, mok_order hS hM k2 htn2 (by omega), wset⟩))
              · skip
                refine lv_iload hx hb dX11_order_102 (lv_at hl 8 rfl) ?_
                refine lv_iload hx hb dX11_order_104 (lv_at hl 1 rfl) ?_
                refine lv_ior hx hb dX11_order_106 ?_
                refine lv_goto (tgt := 112) hx hb dX11_order_107 (by decide) ?_
                refine y_ist 24 12 (by decide) cx hk hW (by omega) dX11_order_112 (fun H locs hW => ?_)
                have hw := hW.1
                refine lv_iload hx hb dX11_order_113 (lv_at hl 0 rfl) ?_
                exact y_iret cx hW hr hlk ⟨by decide, by decide⟩ dX11_order_115 (by rw [← hpo]; first | contradiction | (have hk1 := (by assumption : k1 = 1); (rw [show P_order S t k a b c w = (nI (sn S 1), addA S (t1, newA k1 (s_many b c) (w1 ||| s_own a b c) (s_own a b c) 0 0 0 a b c)) from by unfold P_order; rw [if_pos ⟨by assumption, by assumption, by rw [ht3, nI_clamp (by omega)]; exact htn2, Or.inr (Or.inr ⟨by rw [hke, hk1], by rw [ht3, nI_clamp (by omega)]; assumption, by assumption⟩)⟩, if_pos (by rw [hke, hk1]), ht3, hke, hw3, nI_clamp (by omega), nI_clamp (by omega), nI_clamp (by omega)]]; exact ⟨rfl, rfl, mA m (sn S 1) a b c, mok_order hS hM k2 htn2 (by omega), by rw [hw3, nI_or]; exact wset⟩)) | (rw [show P_order S t k a b c w = (nI (sn S 1), addA S (t1, newA k1 (s_many b c) (s_own a b c) (s_own a b c) 0 0 0 a b c)) from by unfold P_order; rw [if_pos ⟨by assumption, by assumption, by rw [ht3, nI_clamp (by omega)]; exact htn2, by rcases hk4 with e | e | e; exact Or.inl (by rw [hke, e]); contradiction; exact Or.inr (Or.inl (by rw [hke, e]))⟩, if_neg (by rw [hke, nI_eq (by omega) (by decide)]; assumption), ht3, hke, nI_clamp (by omega), nI_clamp (by omega)]]; exact ⟨rfl, rfl, mA m (sn S 1) a b c, mok_order hS hM k2 htn2 (by omega), wset⟩))
            · skip
              refine lv_iconst (v := (-1)) hx hb dX11_order_76 rfl ?_
              exact y_iret cx hW hr hlk ⟨by decide, by decide⟩ dX11_order_77 (by rw [← hpo]; first | contradiction | (rw [show P_order S t k a b c w = (-1, S) from by unfold P_order; rw [if_neg (fun u => by have q := u.2.2.2; rw [hke, (by assumption : k1 = 1)] at q; rcases q with w1 | w1 | w1; exact absurd w1 (by decide); exact absurd w1 (by decide); rw [ht3, nI_clamp (by omega), (by assumption : x_in (2 ^ (sT S t1).1 1) w = false)] at w1; exact Bool.noConfusion w1.2.1)]; done]; exact ⟨rfl, rfl, m, hM, rfl⟩) | (rw [show P_order S t k a b c w = (-1, S) from by unfold P_order; rw [if_neg (fun u => by have q := u.2.2.2; rw [hke, (by assumption : k1 = 1)] at q; rcases q with w1 | w1 | w1; exact absurd w1 (by decide); exact absurd w1 (by decide); exact w1.2.2 (by assumption))]; done]; exact ⟨rfl, rfl, m, hM, rfl⟩))
      · skip
        refine lv_iload_n hx hb dX11_order_30 rfl (lv_at hl 3 rfl) ?_
        refine lv_iconst (v := nI 1) hx hb dX11_order_31 rfl ?_
        refine lv_icmp_eq (tgt := 42) hx hb dX11_order_32 (by decide) (fun h32_9 => ?_) (fun h32_9 => ?_)
        · skip
          obtain ⟨k1, hk4, hke⟩ : ∃ k1 : Nat, (k1 = 0 ∨ k1 = 1 ∨ k1 = 4) ∧ k = nI k1 := by first | exact ⟨0, Or.inl rfl, (by assumption : k = 0)⟩ | exact ⟨1, Or.inr (Or.inl rfl), by assumption⟩ | exact ⟨4, Or.inr (Or.inr rfl), by assumption⟩
          rw [hke] at hl
          refine lv_iload_n hx hb dX11_order_42 rfl (lv_at hl 3 rfl) ?_
          refine lv_iconst (v := nI 1) hx hb dX11_order_43 rfl ?_
          refine x_icmp_ne (tgt := 78) cx dX11_order_44 (by decide) (by omega) (fun h44_10 => ?_) (fun h44_10 => ?_)
          · skip
            refine lv_aload_n hx hb dX11_order_78 rfl (lv_at hl 1 rfl) ?_
            refine lv_iload_n hx hb dX11_order_79 rfl (lv_at hl 2 rfl) ?_
            refine lv_iload_n hx hb dX11_order_80 rfl (lv_at hl 3 rfl) ?_
            refine lv_iload_n hx hb dX11_order_81 rfl (lv_at hl 4 rfl) ?_
            refine lv_iload hx hb dX11_order_82 (lv_at hl 5 rfl) ?_
            refine lv_iload hx hb dX11_order_84 (lv_at hl 6 rfl) ?_
            refine y_wrV (av := [.int (nI t1), .int (nI k1), .int (a), .int (b), .int (c)]) (rest := []) cx hk hW hA (rfl) cv_RX11_130_10 (w_aid S m hS hM hZ t1 k1 a b c (by omega) (by omega)) hl.1 rfl rfl (Nat.le_of_ble_eq_true rfl) ⟨by decide, by decide⟩ ⟨by decide, by decide⟩ dX11_order_86 (fun v_ lo_ co_ H locs hq_ hW => ?_)
            obtain ⟨hv_, hlo_, hco_⟩ := hq_
            have hlo2_ := hlo_.symm
            subst hv_ hlo2_ hco_
            have hw := hW.1
            refine lv_istore (lv' := [(8, .int (nI (sn S 1))), (7, .int (nI (s_own a b c))), (0, .ref (lo (0))), (1, .int (nI t1)), (2, .int (nI k1)), (3, .int (a)), (4, .int (b)), (5, .int (c)), (6, .int (w))]) hx hb dX11_order_89 hl (by decide) rfl (fun ls hl => ?_)
            refine lv_aload_n hx hb dX11_order_91 rfl (lv_at hl 2 rfl) ?_
            refine x_get cx hk hw (rfl) f_RX11_71_10 rfl dX11_order_92 ?_
            refine lv_iload hx hb dX11_order_95 (lv_at hl 0 rfl) ?_
            refine lv_iload_n hx hb dX11_order_97 rfl (lv_at hl 4 rfl) ?_
            refine lv_iconst (v := nI 1) hx hb dX11_order_98 rfl ?_
            refine x_icmp_ne (tgt := 110) cx dX11_order_99 (by decide) (by omega) (fun h99_11 => ?_) (fun h99_11 => ?_)
            · skip
              refine lv_iload hx hb dX11_order_110 (lv_at hl 1 rfl) ?_
              refine y_ist 24 12 (by decide) cx hk hW (by omega) dX11_order_112 (fun H locs hW => ?_)
              have hw := hW.1
              refine lv_iload hx hb dX11_order_113 (lv_at hl 0 rfl) ?_
              exact y_iret cx hW hr hlk ⟨by decide, by decide⟩ dX11_order_115 (by rw [← hpo]; first | contradiction | (have hk1 := (by assumption : k1 = 1); (rw [show P_order S t k a b c w = (nI (sn S 1), addA S (t1, newA k1 (s_many b c) (w1 ||| s_own a b c) (s_own a b c) 0 0 0 a b c)) from by unfold P_order; rw [if_pos ⟨by assumption, by assumption, by rw [ht3, nI_clamp (by omega)]; exact htn2, Or.inr (Or.inr ⟨by rw [hke, hk1], by rw [ht3, nI_clamp (by omega)]; assumption, by assumption⟩)⟩, if_pos (by rw [hke, hk1]), ht3, hke, hw3, nI_clamp (by omega), nI_clamp (by omega), nI_clamp (by omega)]]; exact ⟨rfl, rfl, mA m (sn S 1) a b c, mok_order hS hM k2 htn2 (by omega), by rw [hw3, nI_or]; exact wset⟩)) | (rw [show P_order S t k a b c w = (nI (sn S 1), addA S (t1, newA k1 (s_many b c) (s_own a b c) (s_own a b c) 0 0 0 a b c)) from by unfold P_order; rw [if_pos ⟨by assumption, by assumption, by rw [ht3, nI_clamp (by omega)]; exact htn2, by rcases hk4 with e | e | e; exact Or.inl (by rw [hke, e]); contradiction; exact Or.inr (Or.inl (by rw [hke, e]))⟩, if_neg (by rw [hke, nI_eq (by omega) (by decide)]; assumption), ht3, hke, nI_clamp (by omega), nI_clamp (by omega)]]; exact ⟨rfl, rfl, mA m (sn S 1) a b c, mok_order hS hM k2 htn2 (by omega), wset⟩))
            · skip
              refine lv_iload hx hb dX11_order_102 (lv_at hl 8 rfl) ?_
              refine lv_iload hx hb dX11_order_104 (lv_at hl 1 rfl) ?_
              refine lv_ior hx hb dX11_order_106 ?_
              refine lv_goto (tgt := 112) hx hb dX11_order_107 (by decide) ?_
              refine y_ist 24 12 (by decide) cx hk hW (by omega) dX11_order_112 (fun H locs hW => ?_)
              have hw := hW.1
              refine lv_iload hx hb dX11_order_113 (lv_at hl 0 rfl) ?_
              exact y_iret cx hW hr hlk ⟨by decide, by decide⟩ dX11_order_115 (by rw [← hpo]; first | contradiction | (have hk1 := (by assumption : k1 = 1); (rw [show P_order S t k a b c w = (nI (sn S 1), addA S (t1, newA k1 (s_many b c) (w1 ||| s_own a b c) (s_own a b c) 0 0 0 a b c)) from by unfold P_order; rw [if_pos ⟨by assumption, by assumption, by rw [ht3, nI_clamp (by omega)]; exact htn2, Or.inr (Or.inr ⟨by rw [hke, hk1], by rw [ht3, nI_clamp (by omega)]; assumption, by assumption⟩)⟩, if_pos (by rw [hke, hk1]), ht3, hke, hw3, nI_clamp (by omega), nI_clamp (by omega), nI_clamp (by omega)]]; exact ⟨rfl, rfl, mA m (sn S 1) a b c, mok_order hS hM k2 htn2 (by omega), by rw [hw3, nI_or]; exact wset⟩)) | (rw [show P_order S t k a b c w = (nI (sn S 1), addA S (t1, newA k1 (s_many b c) (s_own a b c) (s_own a b c) 0 0 0 a b c)) from by unfold P_order; rw [if_pos ⟨by assumption, by assumption, by rw [ht3, nI_clamp (by omega)]; exact htn2, by rcases hk4 with e | e | e; exact Or.inl (by rw [hke, e]); contradiction; exact Or.inr (Or.inl (by rw [hke, e]))⟩, if_neg (by rw [hke, nI_eq (by omega) (by decide)]; assumption), ht3, hke, nI_clamp (by omega), nI_clamp (by omega)]]; exact ⟨rfl, rfl, mA m (sn S 1) a b c, mok_order hS hM k2 htn2 (by omega), wset⟩))
          · skip
            refine lv_iload hx hb dX11_order_47 (lv_at hl 7 rfl) ?_
            refine lv_iconst (v := nI 0) hx hb dX11_order_49 rfl ?_
            refine lv_iconst (v := nI 1) hx hb dX11_order_50 rfl ?_
            refine lv_aload_n hx hb dX11_order_51 rfl (lv_at hl 1 rfl) ?_
            refine x_get cx hk hw (rfl) f_RX11_7_10 rfl dX11_order_52 ?_
            refine lv_iload_n hx hb dX11_order_55 rfl (lv_at hl 2 rfl) ?_
            refine x_ialdE (x := nI ((sT S t1).1 1)) cx hk hw (show mco G lo (nS S) (mS S m) 1 = some (.inl (G.2 0, 4, .inl ((mS S m) 1))) from rfl) (by omega) (by decide) (rfl) dX11_order_56 ?_
            refine x_ishlB cx (by omega) dX11_order_57 ?_
            refine lv_iconst (v := nI 1) hx hb dX11_order_58 rfl ?_
            refine x_isubN cx (by omega) dX11_order_59 ?_
            refine x_rdS (av := [.int (w), .int (nI 0), .int (nI ((2 ^ ((sT S t1).1 1)) - 1))]) (rest := []) cx hk hw cs_RX11_89 (m_lies w (nI 0) (nI ((2 ^ ((sT S t1).1 1)) - 1))) hl.1 rfl rfl (Nat.le_of_ble_eq_true rfl) ⟨by decide, by decide⟩ ⟨Nat.zero_le _, Nat.zero_le _⟩ dX11_order_60 ?_
            rw [s_btw_pos (by omega) (by omega)]
            refine x_if_eq (tgt := 76) cx dX11_order_63 (by decide) (fun h63_12 => ?_) (fun h63_12 => ?_)
            · skip
              refine lv_iconst (v := (-1)) hx hb dX11_order_76 rfl ?_
              exact y_iret cx hW hr hlk ⟨by decide, by decide⟩ dX11_order_77 (by rw [← hpo]; first | contradiction | (rw [show P_order S t k a b c w = (-1, S) from by unfold P_order; rw [if_neg (fun u => by have q := u.2.2.2; rw [hke, (by assumption : k1 = 1)] at q; rcases q with w1 | w1 | w1; exact absurd w1 (by decide); exact absurd w1 (by decide); rw [ht3, nI_clamp (by omega), (by assumption : x_in (2 ^ (sT S t1).1 1) w = false)] at w1; exact Bool.noConfusion w1.2.1)]; done]; exact ⟨rfl, rfl, m, hM, rfl⟩) | (rw [show P_order S t k a b c w = (-1, S) from by unfold P_order; rw [if_neg (fun u => by have q := u.2.2.2; rw [hke, (by assumption : k1 = 1)] at q; rcases q with w1 | w1 | w1; exact absurd w1 (by decide); exact absurd w1 (by decide); exact w1.2.2 (by assumption))]; done]; exact ⟨rfl, rfl, m, hM, rfl⟩))
            · skip
              obtain ⟨w1, hw1, hw3⟩ := x_in_ex (n := 2 ^ (sT S t1).1 1) (q := w) (by omega) (by assumption)
              refine lv_iload hx hb dX11_order_66 (lv_at hl 7 rfl) ?_
              refine lv_iload hx hb dX11_order_68 (lv_at hl 0 rfl) ?_
              refine lv_iconst (v := (-1)) hx hb dX11_order_70 rfl ?_
              refine lv_ixor hx hb dX11_order_71 ?_
              refine lv_iand hx hb dX11_order_72 ?_
              refine lv_if_ne (tgt := 78) hx hb dX11_order_73 (by decide) (fun h73_13 => ?_) (fun h73_13 => ?_)
              · skip
                refine lv_aload_n hx hb dX11_order_78 rfl (lv_at hl 1 rfl) ?_
                refine lv_iload_n hx hb dX11_order_79 rfl (lv_at hl 2 rfl) ?_
                refine lv_iload_n hx hb dX11_order_80 rfl (lv_at hl 3 rfl) ?_
                refine lv_iload_n hx hb dX11_order_81 rfl (lv_at hl 4 rfl) ?_
                refine lv_iload hx hb dX11_order_82 (lv_at hl 5 rfl) ?_
                refine lv_iload hx hb dX11_order_84 (lv_at hl 6 rfl) ?_
                refine y_wrV (av := [.int (nI t1), .int (nI k1), .int (a), .int (b), .int (c)]) (rest := []) cx hk hW hA (rfl) cv_RX11_130_10 (w_aid S m hS hM hZ t1 k1 a b c (by omega) (by omega)) hl.1 rfl rfl (Nat.le_of_ble_eq_true rfl) ⟨by decide, by decide⟩ ⟨by decide, by decide⟩ dX11_order_86 (fun v_ lo_ co_ H locs hq_ hW => ?_)
                obtain ⟨hv_, hlo_, hco_⟩ := hq_
                have hlo2_ := hlo_.symm
                subst hv_ hlo2_ hco_
                have hw := hW.1
                refine lv_istore (lv' := [(8, .int (nI (sn S 1))), (7, .int (nI (s_own a b c))), (0, .ref (lo (0))), (1, .int (nI t1)), (2, .int (nI k1)), (3, .int (a)), (4, .int (b)), (5, .int (c)), (6, .int (w))]) hx hb dX11_order_89 hl (by decide) rfl (fun ls hl => ?_)
                refine lv_aload_n hx hb dX11_order_91 rfl (lv_at hl 2 rfl) ?_
                refine x_get cx hk hw (rfl) f_RX11_71_10 rfl dX11_order_92 ?_
                refine lv_iload hx hb dX11_order_95 (lv_at hl 0 rfl) ?_
                refine lv_iload_n hx hb dX11_order_97 rfl (lv_at hl 4 rfl) ?_
                refine lv_iconst (v := nI 1) hx hb dX11_order_98 rfl ?_
                refine x_icmp_ne (tgt := 110) cx dX11_order_99 (by decide) (by omega) (fun h99_14 => ?_) (fun h99_14 => ?_)
                · skip
                  refine lv_iload hx hb dX11_order_110 (lv_at hl 1 rfl) ?_
                  refine y_ist 24 12 (by decide) cx hk hW (by omega) dX11_order_112 (fun H locs hW => ?_)
                  have hw := hW.1
                  refine lv_iload hx hb dX11_order_113 (lv_at hl 0 rfl) ?_
                  exact y_iret cx hW hr hlk ⟨by decide, by decide⟩ dX11_order_115 (by rw [← hpo]; first | contradiction | (have hk1 := (by assumption : k1 = 1); (rw [show P_order S t k a b c w = (nI (sn S 1), addA S (t1, newA k1 (s_many b c) (w1 ||| s_own a b c) (s_own a b c) 0 0 0 a b c)) from by unfold P_order; rw [if_pos ⟨by assumption, by assumption, by rw [ht3, nI_clamp (by omega)]; exact htn2, Or.inr (Or.inr ⟨by rw [hke, hk1], by rw [ht3, nI_clamp (by omega)]; assumption, by assumption⟩)⟩, if_pos (by rw [hke, hk1]), ht3, hke, hw3, nI_clamp (by omega), nI_clamp (by omega), nI_clamp (by omega)]]; exact ⟨rfl, rfl, mA m (sn S 1) a b c, mok_order hS hM k2 htn2 (by omega), by rw [hw3, nI_or]; exact wset⟩)) | (rw [show P_order S t k a b c w = (nI (sn S 1), addA S (t1, newA k1 (s_many b c) (s_own a b c) (s_own a b c) 0 0 0 a b c)) from by unfold P_order; rw [if_pos ⟨by assumption, by assumption, by rw [ht3, nI_clamp (by omega)]; exact htn2, by rcases hk4 with e | e | e; exact Or.inl (by rw [hke, e]); contradiction; exact Or.inr (Or.inl (by rw [hke, e]))⟩, if_neg (by rw [hke, nI_eq (by omega) (by decide)]; assumption), ht3, hke, nI_clamp (by omega), nI_clamp (by omega)]]; exact ⟨rfl, rfl, mA m (sn S 1) a b c, mok_order hS hM k2 htn2 (by omega), wset⟩))
                · skip
                  refine lv_iload hx hb dX11_order_102 (lv_at hl 8 rfl) ?_
                  refine lv_iload hx hb dX11_order_104 (lv_at hl 1 rfl) ?_
                  refine lv_ior hx hb dX11_order_106 ?_
                  refine lv_goto (tgt := 112) hx hb dX11_order_107 (by decide) ?_
                  refine y_ist 24 12 (by decide) cx hk hW (by omega) dX11_order_112 (fun H locs hW => ?_)
                  have hw := hW.1
                  refine lv_iload hx hb dX11_order_113 (lv_at hl 0 rfl) ?_
                  exact y_iret cx hW hr hlk ⟨by decide, by decide⟩ dX11_order_115 (by rw [← hpo]; first | contradiction | (have hk1 := (by assumption : k1 = 1); (rw [show P_order S t k a b c w = (nI (sn S 1), addA S (t1, newA k1 (s_many b c) (w1 ||| s_own a b c) (s_own a b c) 0 0 0 a b c)) from by unfold P_order; rw [if_pos ⟨by assumption, by assumption, by rw [ht3, nI_clamp (by omega)]; exact htn2, Or.inr (Or.inr ⟨by rw [hke, hk1], by rw [ht3, nI_clamp (by omega)]; assumption, by assumption⟩)⟩, if_pos (by rw [hke, hk1]), ht3, hke, hw3, nI_clamp (by omega), nI_clamp (by omega), nI_clamp (by omega)]]; exact ⟨rfl, rfl, mA m (sn S 1) a b c, mok_order hS hM k2 htn2 (by omega), by rw [hw3, nI_or]; exact wset⟩)) | (rw [show P_order S t k a b c w = (nI (sn S 1), addA S (t1, newA k1 (s_many b c) (s_own a b c) (s_own a b c) 0 0 0 a b c)) from by unfold P_order; rw [if_pos ⟨by assumption, by assumption, by rw [ht3, nI_clamp (by omega)]; exact htn2, by rcases hk4 with e | e | e; exact Or.inl (by rw [hke, e]); contradiction; exact Or.inr (Or.inl (by rw [hke, e]))⟩, if_neg (by rw [hke, nI_eq (by omega) (by decide)]; assumption), ht3, hke, nI_clamp (by omega), nI_clamp (by omega)]]; exact ⟨rfl, rfl, mA m (sn S 1) a b c, mok_order hS hM k2 htn2 (by omega), wset⟩))
              · skip
                refine lv_iconst (v := (-1)) hx hb dX11_order_76 rfl ?_
                exact y_iret cx hW hr hlk ⟨by decide, by decide⟩ dX11_order_77 (by rw [← hpo]; first | contradiction | (rw [show P_order S t k a b c w = (-1, S) from by unfold P_order; rw [if_neg (fun u => by have q := u.2.2.2; rw [hke, (by assumption : k1 = 1)] at q; rcases q with w1 | w1 | w1; exact absurd w1 (by decide); exact absurd w1 (by decide); rw [ht3, nI_clamp (by omega), (by assumption : x_in (2 ^ (sT S t1).1 1) w = false)] at w1; exact Bool.noConfusion w1.2.1)]; done]; exact ⟨rfl, rfl, m, hM, rfl⟩) | (rw [show P_order S t k a b c w = (-1, S) from by unfold P_order; rw [if_neg (fun u => by have q := u.2.2.2; rw [hke, (by assumption : k1 = 1)] at q; rcases q with w1 | w1 | w1; exact absurd w1 (by decide); exact absurd w1 (by decide); exact w1.2.2 (by assumption))]; done]; exact ⟨rfl, rfl, m, hM, rfl⟩))
        · skip
          refine lv_iload_n hx hb dX11_order_35 rfl (lv_at hl 3 rfl) ?_
          refine lv_iconst (v := nI 4) hx hb dX11_order_36 rfl ?_
          refine lv_icmp_eq (tgt := 42) hx hb dX11_order_37 (by decide) (fun h37_15 => ?_) (fun h37_15 => ?_)
          · skip
            obtain ⟨k1, hk4, hke⟩ : ∃ k1 : Nat, (k1 = 0 ∨ k1 = 1 ∨ k1 = 4) ∧ k = nI k1 := by first | exact ⟨0, Or.inl rfl, (by assumption : k = 0)⟩ | exact ⟨1, Or.inr (Or.inl rfl), by assumption⟩ | exact ⟨4, Or.inr (Or.inr rfl), by assumption⟩
            rw [hke] at hl
            refine lv_iload_n hx hb dX11_order_42 rfl (lv_at hl 3 rfl) ?_
            refine lv_iconst (v := nI 1) hx hb dX11_order_43 rfl ?_
            refine x_icmp_ne (tgt := 78) cx dX11_order_44 (by decide) (by omega) (fun h44_16 => ?_) (fun h44_16 => ?_)
            · skip
              refine lv_aload_n hx hb dX11_order_78 rfl (lv_at hl 1 rfl) ?_
              refine lv_iload_n hx hb dX11_order_79 rfl (lv_at hl 2 rfl) ?_
              refine lv_iload_n hx hb dX11_order_80 rfl (lv_at hl 3 rfl) ?_
              refine lv_iload_n hx hb dX11_order_81 rfl (lv_at hl 4 rfl) ?_
              refine lv_iload hx hb dX11_order_82 (lv_at hl 5 rfl) ?_
              refine lv_iload hx hb dX11_order_84 (lv_at hl 6 rfl) ?_
              refine y_wrV (av := [.int (nI t1), .int (nI k1), .int (a), .int (b), .int (c)]) (rest := []) cx hk hW hA (rfl) cv_RX11_130_10 (w_aid S m hS hM hZ t1 k1 a b c (by omega) (by omega)) hl.1 rfl rfl (Nat.le_of_ble_eq_true rfl) ⟨by decide, by decide⟩ ⟨by decide, by decide⟩ dX11_order_86 (fun v_ lo_ co_ H locs hq_ hW => ?_)
              obtain ⟨hv_, hlo_, hco_⟩ := hq_
              have hlo2_ := hlo_.symm
              subst hv_ hlo2_ hco_
              have hw := hW.1
              refine lv_istore (lv' := [(8, .int (nI (sn S 1))), (7, .int (nI (s_own a b c))), (0, .ref (lo (0))), (1, .int (nI t1)), (2, .int (nI k1)), (3, .int (a)), (4, .int (b)), (5, .int (c)), (6, .int (w))]) hx hb dX11_order_89 hl (by decide) rfl (fun ls hl => ?_)
              refine lv_aload_n hx hb dX11_order_91 rfl (lv_at hl 2 rfl) ?_
              refine x_get cx hk hw (rfl) f_RX11_71_10 rfl dX11_order_92 ?_
              refine lv_iload hx hb dX11_order_95 (lv_at hl 0 rfl) ?_
              refine lv_iload_n hx hb dX11_order_97 rfl (lv_at hl 4 rfl) ?_
              refine lv_iconst (v := nI 1) hx hb dX11_order_98 rfl ?_
              refine x_icmp_ne (tgt := 110) cx dX11_order_99 (by decide) (by omega) (fun h99_17 => ?_) (fun h99_17 => ?_)
              · skip
                refine lv_iload hx hb dX11_order_110 (lv_at hl 1 rfl) ?_
                refine y_ist 24 12 (by decide) cx hk hW (by omega) dX11_order_112 (fun H locs hW => ?_)
                have hw := hW.1
                refine lv_iload hx hb dX11_order_113 (lv_at hl 0 rfl) ?_
                exact y_iret cx hW hr hlk ⟨by decide, by decide⟩ dX11_order_115 (by rw [← hpo]; first | contradiction | (have hk1 := (by assumption : k1 = 1); (rw [show P_order S t k a b c w = (nI (sn S 1), addA S (t1, newA k1 (s_many b c) (w1 ||| s_own a b c) (s_own a b c) 0 0 0 a b c)) from by unfold P_order; rw [if_pos ⟨by assumption, by assumption, by rw [ht3, nI_clamp (by omega)]; exact htn2, Or.inr (Or.inr ⟨by rw [hke, hk1], by rw [ht3, nI_clamp (by omega)]; assumption, by assumption⟩)⟩, if_pos (by rw [hke, hk1]), ht3, hke, hw3, nI_clamp (by omega), nI_clamp (by omega), nI_clamp (by omega)]]; exact ⟨rfl, rfl, mA m (sn S 1) a b c, mok_order hS hM k2 htn2 (by omega), by rw [hw3, nI_or]; exact wset⟩)) | (rw [show P_order S t k a b c w = (nI (sn S 1), addA S (t1, newA k1 (s_many b c) (s_own a b c) (s_own a b c) 0 0 0 a b c)) from by unfold P_order; rw [if_pos ⟨by assumption, by assumption, by rw [ht3, nI_clamp (by omega)]; exact htn2, by rcases hk4 with e | e | e; exact Or.inl (by rw [hke, e]); contradiction; exact Or.inr (Or.inl (by rw [hke, e]))⟩, if_neg (by rw [hke, nI_eq (by omega) (by decide)]; assumption), ht3, hke, nI_clamp (by omega), nI_clamp (by omega)]]; exact ⟨rfl, rfl, mA m (sn S 1) a b c, mok_order hS hM k2 htn2 (by omega), wset⟩))
              · skip
                refine lv_iload hx hb dX11_order_102 (lv_at hl 8 rfl) ?_
                refine lv_iload hx hb dX11_order_104 (lv_at hl 1 rfl) ?_
                refine lv_ior hx hb dX11_order_106 ?_
                refine lv_goto (tgt := 112) hx hb dX11_order_107 (by decide) ?_
                refine y_ist 24 12 (by decide) cx hk hW (by omega) dX11_order_112 (fun H locs hW => ?_)
                have hw := hW.1
                refine lv_iload hx hb dX11_order_113 (lv_at hl 0 rfl) ?_
                exact y_iret cx hW hr hlk ⟨by decide, by decide⟩ dX11_order_115 (by rw [← hpo]; first | contradiction | (have hk1 := (by assumption : k1 = 1); (rw [show P_order S t k a b c w = (nI (sn S 1), addA S (t1, newA k1 (s_many b c) (w1 ||| s_own a b c) (s_own a b c) 0 0 0 a b c)) from by unfold P_order; rw [if_pos ⟨by assumption, by assumption, by rw [ht3, nI_clamp (by omega)]; exact htn2, Or.inr (Or.inr ⟨by rw [hke, hk1], by rw [ht3, nI_clamp (by omega)]; assumption, by assumption⟩)⟩, if_pos (by rw [hke, hk1]), ht3, hke, hw3, nI_clamp (by omega), nI_clamp (by omega), nI_clamp (by omega)]]; exact ⟨rfl, rfl, mA m (sn S 1) a b c, mok_order hS hM k2 htn2 (by omega), by rw [hw3, nI_or]; exact wset⟩)) | (rw [show P_order S t k a b c w = (nI (sn S 1), addA S (t1, newA k1 (s_many b c) (s_own a b c) (s_own a b c) 0 0 0 a b c)) from by unfold P_order; rw [if_pos ⟨by assumption, by assumption, by rw [ht3, nI_clamp (by omega)]; exact htn2, by rcases hk4 with e | e | e; exact Or.inl (by rw [hke, e]); contradiction; exact Or.inr (Or.inl (by rw [hke, e]))⟩, if_neg (by rw [hke, nI_eq (by omega) (by decide)]; assumption), ht3, hke, nI_clamp (by omega), nI_clamp (by omega)]]; exact ⟨rfl, rfl, mA m (sn S 1) a b c, mok_order hS hM k2 htn2 (by omega), wset⟩))
            · skip
              refine lv_iload hx hb dX11_order_47 (lv_at hl 7 rfl) ?_
              refine lv_iconst (v := nI 0) hx hb dX11_order_49 rfl ?_
              refine lv_iconst (v := nI 1) hx hb dX11_order_50 rfl ?_
              refine lv_aload_n hx hb dX11_order_51 rfl (lv_at hl 1 rfl) ?_
              refine x_get cx hk hw (rfl) f_RX11_7_10 rfl dX11_order_52 ?_
              refine lv_iload_n hx hb dX11_order_55 rfl (lv_at hl 2 rfl) ?_
              refine x_ialdE (x := nI ((sT S t1).1 1)) cx hk hw (show mco G lo (nS S) (mS S m) 1 = some (.inl (G.2 0, 4, .inl ((mS S m) 1))) from rfl) (by omega) (by decide) (rfl) dX11_order_56 ?_
              refine x_ishlB cx (by omega) dX11_order_57 ?_
              refine lv_iconst (v := nI 1) hx hb dX11_order_58 rfl ?_
              refine x_isubN cx (by omega) dX11_order_59 ?_
              refine x_rdS (av := [.int (w), .int (nI 0), .int (nI ((2 ^ ((sT S t1).1 1)) - 1))]) (rest := []) cx hk hw cs_RX11_89 (m_lies w (nI 0) (nI ((2 ^ ((sT S t1).1 1)) - 1))) hl.1 rfl rfl (Nat.le_of_ble_eq_true rfl) ⟨by decide, by decide⟩ ⟨Nat.zero_le _, Nat.zero_le _⟩ dX11_order_60 ?_
              rw [s_btw_pos (by omega) (by omega)]
              refine x_if_eq (tgt := 76) cx dX11_order_63 (by decide) (fun h63_18 => ?_) (fun h63_18 => ?_)
              · skip
                refine lv_iconst (v := (-1)) hx hb dX11_order_76 rfl ?_
                exact y_iret cx hW hr hlk ⟨by decide, by decide⟩ dX11_order_77 (by rw [← hpo]; first | contradiction | (rw [show P_order S t k a b c w = (-1, S) from by unfold P_order; rw [if_neg (fun u => by have q := u.2.2.2; rw [hke, (by assumption : k1 = 1)] at q; rcases q with w1 | w1 | w1; exact absurd w1 (by decide); exact absurd w1 (by decide); rw [ht3, nI_clamp (by omega), (by assumption : x_in (2 ^ (sT S t1).1 1) w = false)] at w1; exact Bool.noConfusion w1.2.1)]; done]; exact ⟨rfl, rfl, m, hM, rfl⟩) | (rw [show P_order S t k a b c w = (-1, S) from by unfold P_order; rw [if_neg (fun u => by have q := u.2.2.2; rw [hke, (by assumption : k1 = 1)] at q; rcases q with w1 | w1 | w1; exact absurd w1 (by decide); exact absurd w1 (by decide); exact w1.2.2 (by assumption))]; done]; exact ⟨rfl, rfl, m, hM, rfl⟩))
              · skip
                obtain ⟨w1, hw1, hw3⟩ := x_in_ex (n := 2 ^ (sT S t1).1 1) (q := w) (by omega) (by assumption)
                refine lv_iload hx hb dX11_order_66 (lv_at hl 7 rfl) ?_
                refine lv_iload hx hb dX11_order_68 (lv_at hl 0 rfl) ?_
                refine lv_iconst (v := (-1)) hx hb dX11_order_70 rfl ?_
                refine lv_ixor hx hb dX11_order_71 ?_
                refine lv_iand hx hb dX11_order_72 ?_
                refine lv_if_ne (tgt := 78) hx hb dX11_order_73 (by decide) (fun h73_19 => ?_) (fun h73_19 => ?_)
                · skip
                  refine lv_aload_n hx hb dX11_order_78 rfl (lv_at hl 1 rfl) ?_
                  refine lv_iload_n hx hb dX11_order_79 rfl (lv_at hl 2 rfl) ?_
                  refine lv_iload_n hx hb dX11_order_80 rfl (lv_at hl 3 rfl) ?_
                  refine lv_iload_n hx hb dX11_order_81 rfl (lv_at hl 4 rfl) ?_
                  refine lv_iload hx hb dX11_order_82 (lv_at hl 5 rfl) ?_
                  refine lv_iload hx hb dX11_order_84 (lv_at hl 6 rfl) ?_
                  refine y_wrV (av := [.int (nI t1), .int (nI k1), .int (a), .int (b), .int (c)]) (rest := []) cx hk hW hA (rfl) cv_RX11_130_10 (w_aid S m hS hM hZ t1 k1 a b c (by omega) (by omega)) hl.1 rfl rfl (Nat.le_of_ble_eq_true rfl) ⟨by decide, by decide⟩ ⟨by decide, by decide⟩ dX11_order_86 (fun v_ lo_ co_ H locs hq_ hW => ?_)
                  obtain ⟨hv_, hlo_, hco_⟩ := hq_
                  have hlo2_ := hlo_.symm
                  subst hv_ hlo2_ hco_
                  have hw := hW.1
                  refine lv_istore (lv' := [(8, .int (nI (sn S 1))), (7, .int (nI (s_own a b c))), (0, .ref (lo (0))), (1, .int (nI t1)), (2, .int (nI k1)), (3, .int (a)), (4, .int (b)), (5, .int (c)), (6, .int (w))]) hx hb dX11_order_89 hl (by decide) rfl (fun ls hl => ?_)
                  refine lv_aload_n hx hb dX11_order_91 rfl (lv_at hl 2 rfl) ?_
                  refine x_get cx hk hw (rfl) f_RX11_71_10 rfl dX11_order_92 ?_
                  refine lv_iload hx hb dX11_order_95 (lv_at hl 0 rfl) ?_
                  refine lv_iload_n hx hb dX11_order_97 rfl (lv_at hl 4 rfl) ?_
                  refine lv_iconst (v := nI 1) hx hb dX11_order_98 rfl ?_
                  refine x_icmp_ne (tgt := 110) cx dX11_order_99 (by decide) (by omega) (fun h99_20 => ?_) (fun h99_20 => ?_)
                  · skip
                    refine lv_iload hx hb dX11_order_110 (lv_at hl 1 rfl) ?_
                    refine y_ist 24 12 (by decide) cx hk hW (by omega) dX11_order_112 (fun H locs hW => ?_)
                    have hw := hW.1
                    refine lv_iload hx hb dX11_order_113 (lv_at hl 0 rfl) ?_
                    exact y_iret cx hW hr hlk ⟨by decide, by decide⟩ dX11_order_115 (by rw [← hpo]; first | contradiction | (have hk1 := (by assumption : k1 = 1); (rw [show P_order S t k a b c w = (nI (sn S 1), addA S (t1, newA k1 (s_many b c) (w1 ||| s_own a b c) (s_own a b c) 0 0 0 a b c)) from by unfold P_order; rw [if_pos ⟨by assumption, by assumption, by rw [ht3, nI_clamp (by omega)]; exact htn2, Or.inr (Or.inr ⟨by rw [hke, hk1], by rw [ht3, nI_clamp (by omega)]; assumption, by assumption⟩)⟩, if_pos (by rw [hke, hk1]), ht3, hke, hw3, nI_clamp (by omega), nI_clamp (by omega), nI_clamp (by omega)]]; exact ⟨rfl, rfl, mA m (sn S 1) a b c, mok_order hS hM k2 htn2 (by omega), by rw [hw3, nI_or]; exact wset⟩)) | (rw [show P_order S t k a b c w = (nI (sn S 1), addA S (t1, newA k1 (s_many b c) (s_own a b c) (s_own a b c) 0 0 0 a b c)) from by unfold P_order; rw [if_pos ⟨by assumption, by assumption, by rw [ht3, nI_clamp (by omega)]; exact htn2, by rcases hk4 with e | e | e; exact Or.inl (by rw [hke, e]); contradiction; exact Or.inr (Or.inl (by rw [hke, e]))⟩, if_neg (by rw [hke, nI_eq (by omega) (by decide)]; assumption), ht3, hke, nI_clamp (by omega), nI_clamp (by omega)]]; exact ⟨rfl, rfl, mA m (sn S 1) a b c, mok_order hS hM k2 htn2 (by omega), wset⟩))
                  · skip
                    refine lv_iload hx hb dX11_order_102 (lv_at hl 8 rfl) ?_
                    refine lv_iload hx hb dX11_order_104 (lv_at hl 1 rfl) ?_
                    refine lv_ior hx hb dX11_order_106 ?_
                    refine lv_goto (tgt := 112) hx hb dX11_order_107 (by decide) ?_
                    refine y_ist 24 12 (by decide) cx hk hW (by omega) dX11_order_112 (fun H locs hW => ?_)
                    have hw := hW.1
                    refine lv_iload hx hb dX11_order_113 (lv_at hl 0 rfl) ?_
                    exact y_iret cx hW hr hlk ⟨by decide, by decide⟩ dX11_order_115 (by rw [← hpo]; first | contradiction | (have hk1 := (by assumption : k1 = 1); (rw [show P_order S t k a b c w = (nI (sn S 1), addA S (t1, newA k1 (s_many b c) (w1 ||| s_own a b c) (s_own a b c) 0 0 0 a b c)) from by unfold P_order; rw [if_pos ⟨by assumption, by assumption, by rw [ht3, nI_clamp (by omega)]; exact htn2, Or.inr (Or.inr ⟨by rw [hke, hk1], by rw [ht3, nI_clamp (by omega)]; assumption, by assumption⟩)⟩, if_pos (by rw [hke, hk1]), ht3, hke, hw3, nI_clamp (by omega), nI_clamp (by omega), nI_clamp (by omega)]]; exact ⟨rfl, rfl, mA m (sn S 1) a b c, mok_order hS hM k2 htn2 (by omega), by rw [hw3, nI_or]; exact wset⟩)) | (rw [show P_order S t k a b c w = (nI (sn S 1), addA S (t1, newA k1 (s_many b c) (s_own a b c) (s_own a b c) 0 0 0 a b c)) from by unfold P_order; rw [if_pos ⟨by assumption, by assumption, by rw [ht3, nI_clamp (by omega)]; exact htn2, by rcases hk4 with e | e | e; exact Or.inl (by rw [hke, e]); contradiction; exact Or.inr (Or.inl (by rw [hke, e]))⟩, if_neg (by rw [hke, nI_eq (by omega) (by decide)]; assumption), ht3, hke, nI_clamp (by omega), nI_clamp (by omega)]]; exact ⟨rfl, rfl, mA m (sn S 1) a b c, mok_order hS hM k2 htn2 (by omega), wset⟩))
                · skip
                  refine lv_iconst (v := (-1)) hx hb dX11_order_76 rfl ?_
                  exact y_iret cx hW hr hlk ⟨by decide, by decide⟩ dX11_order_77 (by rw [← hpo]; first | contradiction | (rw [show P_order S t k a b c w = (-1, S) from by unfold P_order; rw [if_neg (fun u => by have q := u.2.2.2; rw [hke, (by assumption : k1 = 1)] at q; rcases q with w1 | w1 | w1; exact absurd w1 (by decide); exact absurd w1 (by decide); rw [ht3, nI_clamp (by omega), (by assumption : x_in (2 ^ (sT S t1).1 1) w = false)] at w1; exact Bool.noConfusion w1.2.1)]; done]; exact ⟨rfl, rfl, m, hM, rfl⟩) | (rw [show P_order S t k a b c w = (-1, S) from by unfold P_order; rw [if_neg (fun u => by have q := u.2.2.2; rw [hke, (by assumption : k1 = 1)] at q; rcases q with w1 | w1 | w1; exact absurd w1 (by decide); exact absurd w1 (by decide); exact w1.2.2 (by assumption))]; done]; exact ⟨rfl, rfl, m, hM, rfl⟩))
          · skip
            refine lv_iconst (v := (-1)) hx hb dX11_order_40 rfl ?_
            exact y_iret cx hW hr hlk ⟨by decide, by decide⟩ dX11_order_41 (by rw [← hpo]; first | (rw [show P_order S t k a b c w = (-1, S) from by unfold P_order; rw [if_neg (fun u => u.1 (by assumption))]; done]; exact ⟨rfl, rfl, m, hM, rfl⟩) | (rw [show P_order S t k a b c w = (-1, S) from by unfold P_order; rw [if_neg (fun u => m_turn_neg hS (by assumption) ⟨u.2.1, u.2.2.1⟩)]; done]; exact ⟨rfl, rfl, m, hM, rfl⟩) | (rw [show P_order S t k a b c w = (-1, S) from by unfold P_order; rw [if_neg (fun u => by rcases u.2.2.2 with w1 | w1 | w1; exact absurd w1 (by assumption); exact absurd w1 (by assumption); exact absurd w1.1 (by assumption))]; done]; exact ⟨rfl, rfl, m, hM, rfl⟩))
set_option maxHeartbeats 4000000 in
set_option maxRecDepth 100000 in
theorem w_part {l : Launch} {G : x_G} {lo : x_L} (S : St) (m : Nat → Nat → Int32) (hS : Sok S) (hM : Mok S m) (hZ : Szz S) (t a b c f u : Int32) : x_Wr l G lo (mco G lo (nS S) (mS S m)) yX11_part cX11_part 8 (some .int) 5 0 0 [.ref (lo (0)), .int (t), .int (a), .int (b), .int (c), .int (f), .int (u)] (m_post G lo (P_part S t a b c f u).2 (some (.int (P_part S t a b c f u).1))) := by
  refine x_wenter RX11 rfl (by decide) (Nat.le_of_ble_eq_true rfl) ?_
  intro pp ee ss mm bb mt cd ls AA cx hk hW hA hr hlk hnm hl
  have hl : lv_has ls 8 [(0, .ref (lo (0))), (1, .int (t)), (2, .int (a)), (3, .int (b)), (4, .int (c)), (5, .int (f)), (6, .int (u))] := hl
  generalize hav : ([.ref (lo (0)), .int (t), .int (a), .int (b), .int (c), .int (f), .int (u)] : List Value).toArray = av at cx ⊢
  generalize hpo : (m_post G lo (P_part S t a b c f u).2 (some (.int (P_part S t a b c f u).1))) = po
  have hx := cx.1
  have hb := cx.2.1
  have hown := cx.2.2.2.1
  have hts := cx.2.2.2.2
  have hw := hW.1
  obtain ⟨s1, s2, s3, s4, s5, s6⟩ := id hS
  have hm := m_isM G lo S m
  have hre := rng_eq f u
  refine lv_aload_n hx hb dX11_part_0 rfl (lv_at hl 0 rfl) ?_
  refine x_get cx hk hw (rfl) f_RX11_123_10 rfl dX11_part_1 ?_
  refine lv_bipush (v := nI 12) hx hb dX11_part_4 rfl ?_
  refine x_icmp_eq (tgt := 55) cx dX11_part_6 (by decide) (by omega) (fun h6_1 => ?_) (fun h6_1 => ?_)
  · skip
    refine lv_iconst (v := (-1)) hx hb dX11_part_55 rfl ?_
    exact y_iret cx hW hr hlk ⟨by decide, by decide⟩ dX11_part_56 (by rw [← hpo]; first | (rw [show P_part S t a b c f u = (-1, S) from by unfold P_part; rw [if_neg (fun z => z.1 (by assumption))]; done]; exact ⟨rfl, rfl, m, hM, rfl⟩) | (rw [show P_part S t a b c f u = (-1, S) from by unfold P_part; rw [if_neg (fun z => m_turn_neg hS (by assumption) ⟨z.2.1, z.2.2.1⟩)]; done]; exact ⟨rfl, rfl, m, hM, rfl⟩) | (rw [show P_part S t a b c f u = (-1, S) from by unfold P_part; rw [if_neg (fun z => by have q := z.2.2.2.1; rw [ht3, nI_clamp (by omega)] at q; exact Bool.noConfusion ((by assumption : t_has (sT S t1) c = false).symm.trans q))]; done]; exact ⟨rfl, rfl, m, hM, rfl⟩) | (rw [show P_part S t a b c f u = (-1, S) from by unfold P_part; rw [if_neg (fun z => by have u2 := z.2.2.2.2; rw [hre, (by assumption : s_btw f (nI 0) (nI 999) = false), Bool.false_and] at u2; exact absurd u2 (by decide))]; done]; exact ⟨rfl, rfl, m, hM, rfl⟩) | (rw [show P_part S t a b c f u = (-1, S) from by unfold P_part; rw [if_neg (fun z => by have u2 := z.2.2.2.2; rw [hre, (by assumption : s_btw u f (nI 999) = false), Bool.and_false] at u2; exact absurd u2 (by decide))]; done]; exact ⟨rfl, rfl, m, hM, rfl⟩))
  · skip
    refine lv_aload_n hx hb dX11_part_9 rfl (lv_at hl 0 rfl) ?_
    refine lv_iload_n hx hb dX11_part_10 rfl (lv_at hl 1 rfl) ?_
    refine lv_iload_n hx hb dX11_part_11 rfl (lv_at hl 2 rfl) ?_
    refine lv_iload_n hx hb dX11_part_12 rfl (lv_at hl 3 rfl) ?_
    refine lv_iconst (v := (-1)) hx hb dX11_part_13 rfl ?_
    refine x_rdV (av := [.int (t), .int (a), .int (b), .int ((-1))]) (rest := []) cx hk hw (rfl) cv_RX11_126_10 (m_turn_ S m hm hS t a b (-1)) hl.1 rfl rfl (Nat.le_of_ble_eq_true rfl) ⟨by decide, by decide⟩ ⟨Nat.zero_le _, Nat.zero_le _⟩ dX11_part_14 ?_
    refine lv_if_lt (tgt := 55) hx hb dX11_part_17 (by decide) (fun h17_2 => ?_) (fun h17_2 => ?_)
    · skip
      refine lv_iconst (v := (-1)) hx hb dX11_part_55 rfl ?_
      exact y_iret cx hW hr hlk ⟨by decide, by decide⟩ dX11_part_56 (by rw [← hpo]; first | (rw [show P_part S t a b c f u = (-1, S) from by unfold P_part; rw [if_neg (fun z => z.1 (by assumption))]; done]; exact ⟨rfl, rfl, m, hM, rfl⟩) | (rw [show P_part S t a b c f u = (-1, S) from by unfold P_part; rw [if_neg (fun z => m_turn_neg hS (by assumption) ⟨z.2.1, z.2.2.1⟩)]; done]; exact ⟨rfl, rfl, m, hM, rfl⟩) | (rw [show P_part S t a b c f u = (-1, S) from by unfold P_part; rw [if_neg (fun z => by have q := z.2.2.2.1; rw [ht3, nI_clamp (by omega)] at q; exact Bool.noConfusion ((by assumption : t_has (sT S t1) c = false).symm.trans q))]; done]; exact ⟨rfl, rfl, m, hM, rfl⟩) | (rw [show P_part S t a b c f u = (-1, S) from by unfold P_part; rw [if_neg (fun z => by have u2 := z.2.2.2.2; rw [hre, (by assumption : s_btw f (nI 0) (nI 999) = false), Bool.false_and] at u2; exact absurd u2 (by decide))]; done]; exact ⟨rfl, rfl, m, hM, rfl⟩) | (rw [show P_part S t a b c f u = (-1, S) from by unfold P_part; rw [if_neg (fun z => by have u2 := z.2.2.2.2; rw [hre, (by assumption : s_btw u f (nI 999) = false), Bool.and_false] at u2; exact absurd u2 (by decide))]; done]; exact ⟨rfl, rfl, m, hM, rfl⟩))
    · skip
      obtain ⟨htn1, htn2, htn3⟩ := m_turn_pos (by assumption : ¬ m_turn S t a b (-1) < 0)
      obtain ⟨t1, ht1, ht2, ht3⟩ := m_isT_ex (by assumption)
      rw [ht3] at hl
      have hT := (s1 t1 ht1).1 ht2
      obtain ⟨k1, k2, k3, k4, k5, k6, k7, k8, k9, k0⟩ := id hT
      have hp16 := pow_col k2
      have hp1 := Nat.two_pow_pos ((sT S t1).1 1)
      rw [ht3, nI_clamp (by omega)] at htn2
      refine lv_aload_n hx hb dX11_part_20 rfl (lv_at hl 0 rfl) ?_
      refine lv_iload_n hx hb dX11_part_21 rfl (lv_at hl 1 rfl) ?_
      refine lv_iload hx hb dX11_part_22 (lv_at hl 4 rfl) ?_
      refine x_rdV (av := [.int (nI t1), .int (c)]) (rest := []) cx hk hw (rfl) cv_RX11_113_10 (m_isCol S m hm hS (nI t1) c) hl.1 rfl rfl (Nat.le_of_ble_eq_true rfl) ⟨by decide, by decide⟩ ⟨Nat.zero_le _, Nat.zero_le _⟩ dX11_part_24 ?_
      rw [show m_isC S (nI t1) c = t_has (sT S t1) c from by rw [m_isC, m_isT_nI (by omega), decide_eq_true ⟨ht1, ht2⟩, nI_clamp (by omega), Bool.true_and]]
      refine x_if_eq (tgt := 55) cx dX11_part_27 (by decide) (fun h27_3 => ?_) (fun h27_3 => ?_)
      · skip
        refine lv_iconst (v := (-1)) hx hb dX11_part_55 rfl ?_
        exact y_iret cx hW hr hlk ⟨by decide, by decide⟩ dX11_part_56 (by rw [← hpo]; first | (rw [show P_part S t a b c f u = (-1, S) from by unfold P_part; rw [if_neg (fun z => z.1 (by assumption))]; done]; exact ⟨rfl, rfl, m, hM, rfl⟩) | (rw [show P_part S t a b c f u = (-1, S) from by unfold P_part; rw [if_neg (fun z => m_turn_neg hS (by assumption) ⟨z.2.1, z.2.2.1⟩)]; done]; exact ⟨rfl, rfl, m, hM, rfl⟩) | (rw [show P_part S t a b c f u = (-1, S) from by unfold P_part; rw [if_neg (fun z => by have q := z.2.2.2.1; rw [ht3, nI_clamp (by omega)] at q; exact Bool.noConfusion ((by assumption : t_has (sT S t1) c = false).symm.trans q))]; done]; exact ⟨rfl, rfl, m, hM, rfl⟩) | (rw [show P_part S t a b c f u = (-1, S) from by unfold P_part; rw [if_neg (fun z => by have u2 := z.2.2.2.2; rw [hre, (by assumption : s_btw f (nI 0) (nI 999) = false), Bool.false_and] at u2; exact absurd u2 (by decide))]; done]; exact ⟨rfl, rfl, m, hM, rfl⟩) | (rw [show P_part S t a b c f u = (-1, S) from by unfold P_part; rw [if_neg (fun z => by have u2 := z.2.2.2.2; rw [hre, (by assumption : s_btw u f (nI 999) = false), Bool.and_false] at u2; exact absurd u2 (by decide))]; done]; exact ⟨rfl, rfl, m, hM, rfl⟩))
      · skip
        refine lv_iload hx hb dX11_part_30 (lv_at hl 5 rfl) ?_
        refine lv_iconst (v := nI 0) hx hb dX11_part_32 rfl ?_
        refine lv_sipush (v := nI 999) hx hb dX11_part_33 rfl ?_
        refine x_rdS (av := [.int (f), .int (nI 0), .int (nI 999)]) (rest := []) cx hk hw cs_RX11_89 (m_lies f (nI 0) (nI 999)) hl.1 rfl rfl (Nat.le_of_ble_eq_true rfl) ⟨by decide, by decide⟩ ⟨Nat.zero_le _, Nat.zero_le _⟩ dX11_part_36 ?_
        refine x_if_eq (tgt := 55) cx dX11_part_39 (by decide) (fun h39_4 => ?_) (fun h39_4 => ?_)
        · skip
          refine lv_iconst (v := (-1)) hx hb dX11_part_55 rfl ?_
          exact y_iret cx hW hr hlk ⟨by decide, by decide⟩ dX11_part_56 (by rw [← hpo]; first | (rw [show P_part S t a b c f u = (-1, S) from by unfold P_part; rw [if_neg (fun z => z.1 (by assumption))]; done]; exact ⟨rfl, rfl, m, hM, rfl⟩) | (rw [show P_part S t a b c f u = (-1, S) from by unfold P_part; rw [if_neg (fun z => m_turn_neg hS (by assumption) ⟨z.2.1, z.2.2.1⟩)]; done]; exact ⟨rfl, rfl, m, hM, rfl⟩) | (rw [show P_part S t a b c f u = (-1, S) from by unfold P_part; rw [if_neg (fun z => by have q := z.2.2.2.1; rw [ht3, nI_clamp (by omega)] at q; exact Bool.noConfusion ((by assumption : t_has (sT S t1) c = false).symm.trans q))]; done]; exact ⟨rfl, rfl, m, hM, rfl⟩) | (rw [show P_part S t a b c f u = (-1, S) from by unfold P_part; rw [if_neg (fun z => by have u2 := z.2.2.2.2; rw [hre, (by assumption : s_btw f (nI 0) (nI 999) = false), Bool.false_and] at u2; exact absurd u2 (by decide))]; done]; exact ⟨rfl, rfl, m, hM, rfl⟩) | (rw [show P_part S t a b c f u = (-1, S) from by unfold P_part; rw [if_neg (fun z => by have u2 := z.2.2.2.2; rw [hre, (by assumption : s_btw u f (nI 999) = false), Bool.and_false] at u2; exact absurd u2 (by decide))]; done]; exact ⟨rfl, rfl, m, hM, rfl⟩))
        · skip
          refine lv_iload hx hb dX11_part_42 (lv_at hl 6 rfl) ?_
          refine lv_iload hx hb dX11_part_44 (lv_at hl 5 rfl) ?_
          refine lv_sipush (v := nI 999) hx hb dX11_part_46 rfl ?_
          refine x_rdS (av := [.int (u), .int (f), .int (nI 999)]) (rest := []) cx hk hw cs_RX11_89 (m_lies u f (nI 999)) hl.1 rfl rfl (Nat.le_of_ble_eq_true rfl) ⟨by decide, by decide⟩ ⟨Nat.zero_le _, Nat.zero_le _⟩ dX11_part_49 ?_
          refine x_if_ne (tgt := 57) cx dX11_part_52 (by decide) (fun h52_5 => ?_) (fun h52_5 => ?_)
          · skip
            obtain ⟨c1, hc1, hc3⟩ := t_has_ex (T := sT S t1) k2 (by assumption)
            obtain ⟨f1, hf1b, hf1a, hf1e⟩ := nI_tc (x := f) (a := 0) (b := 999) (by decide) (by decide) (by assumption)
            have hsr : s_rng f u = true := by rw [hre, (by assumption : s_btw f (nI 0) (nI 999) = true), (by assumption : s_btw u f (nI 999) = true)]; rfl
            obtain ⟨u1, hu1b, hu1a, hu1e⟩ := nI_tc (x := u) (a := f1) (b := 999) (by omega) (by decide) (by rw [← hf1e]; assumption)
            rw [hc3, hf1e, hu1e] at hl
            refine lv_aload_n hx hb dX11_part_57 rfl (lv_at hl 0 rfl) ?_
            refine lv_iload_n hx hb dX11_part_58 rfl (lv_at hl 1 rfl) ?_
            refine lv_iconst (v := nI 2) hx hb dX11_part_59 rfl ?_
            refine lv_iload_n hx hb dX11_part_60 rfl (lv_at hl 2 rfl) ?_
            refine lv_iload_n hx hb dX11_part_61 rfl (lv_at hl 3 rfl) ?_
            refine lv_iconst (v := (-1)) hx hb dX11_part_62 rfl ?_
            refine y_wrV (av := [.int (nI t1), .int (nI 2), .int (a), .int (b), .int ((-1))]) (rest := []) cx hk hW hA (rfl) cv_RX11_130_10 (w_aid S m hS hM hZ t1 2 a b (-1) (by omega) (by omega)) hl.1 rfl rfl (Nat.le_of_ble_eq_true rfl) ⟨by decide, by decide⟩ ⟨by decide, by decide⟩ dX11_part_63 (fun v_ lo_ co_ H locs hq_ hW => ?_)
            obtain ⟨hv_, hlo_, hco_⟩ := hq_
            have hlo2_ := hlo_.symm
            subst hv_ hlo2_ hco_
            have hw := hW.1
            refine lv_istore (lv' := [(7, .int (nI (sn S 1))), (0, .ref (lo (0))), (1, .int (nI t1)), (2, .int (a)), (3, .int (b)), (4, .int (nI c1)), (5, .int (nI f1)), (6, .int (nI u1))]) hx hb dX11_part_66 hl (by decide) rfl (fun ls hl => ?_)
            refine lv_aload_n hx hb dX11_part_68 rfl (lv_at hl 1 rfl) ?_
            refine x_get cx hk hw (rfl) f_RX11_74_10 rfl dX11_part_69 ?_
            refine lv_iload hx hb dX11_part_72 (lv_at hl 0 rfl) ?_
            refine lv_iload hx hb dX11_part_74 (lv_at hl 5 rfl) ?_
            refine y_ist 25 12 (by decide) cx hk hW (by omega) dX11_part_76 (fun H locs hW => ?_)
            have hw := hW.1
            refine lv_aload_n hx hb dX11_part_77 rfl (lv_at hl 1 rfl) ?_
            refine x_get cx hk hw (rfl) f_RX11_77_10 rfl dX11_part_78 ?_
            refine lv_iload hx hb dX11_part_81 (lv_at hl 0 rfl) ?_
            refine lv_iload hx hb dX11_part_83 (lv_at hl 6 rfl) ?_
            refine y_ist 26 12 (by decide) cx hk hW (by omega) dX11_part_85 (fun H locs hW => ?_)
            have hw := hW.1
            refine lv_aload_n hx hb dX11_part_86 rfl (lv_at hl 1 rfl) ?_
            refine x_get cx hk hw (rfl) f_RX11_80_10 rfl dX11_part_87 ?_
            refine lv_iload hx hb dX11_part_90 (lv_at hl 0 rfl) ?_
            refine lv_iload hx hb dX11_part_92 (lv_at hl 7 rfl) ?_
            refine y_ist 27 12 (by decide) cx hk hW (by omega) dX11_part_94 (fun H locs hW => ?_)
            have hw := hW.1
            refine lv_iload hx hb dX11_part_95 (lv_at hl 0 rfl) ?_
            exact y_iret cx hW hr hlk ⟨by decide, by decide⟩ dX11_part_97 (by rw [← hpo]; rw [show P_part S t a b c f u = (nI (sn S 1), addA S (t1, newA 2 (s_many b (-1)) 0 (s_own a b (-1)) c1 f1 u1 a b (-1))) from by unfold P_part; rw [if_pos ⟨by assumption, by assumption, by rw [ht3, nI_clamp (by omega)]; exact htn2, by rw [ht3, nI_clamp (by omega)]; assumption, hsr⟩, ht3, hc3, hf1e, hu1e, nI_clamp (by omega), nI_clamp (by omega), nI_clamp (by omega), nI_clamp (by omega)]]; exact ⟨rfl, rfl, _, mok_part hS hM k2 htn2, wpart rfl⟩)
          · skip
            refine lv_iconst (v := (-1)) hx hb dX11_part_55 rfl ?_
            exact y_iret cx hW hr hlk ⟨by decide, by decide⟩ dX11_part_56 (by rw [← hpo]; first | (rw [show P_part S t a b c f u = (-1, S) from by unfold P_part; rw [if_neg (fun z => z.1 (by assumption))]; done]; exact ⟨rfl, rfl, m, hM, rfl⟩) | (rw [show P_part S t a b c f u = (-1, S) from by unfold P_part; rw [if_neg (fun z => m_turn_neg hS (by assumption) ⟨z.2.1, z.2.2.1⟩)]; done]; exact ⟨rfl, rfl, m, hM, rfl⟩) | (rw [show P_part S t a b c f u = (-1, S) from by unfold P_part; rw [if_neg (fun z => by have q := z.2.2.2.1; rw [ht3, nI_clamp (by omega)] at q; exact Bool.noConfusion ((by assumption : t_has (sT S t1) c = false).symm.trans q))]; done]; exact ⟨rfl, rfl, m, hM, rfl⟩) | (rw [show P_part S t a b c f u = (-1, S) from by unfold P_part; rw [if_neg (fun z => by have u2 := z.2.2.2.2; rw [hre, (by assumption : s_btw f (nI 0) (nI 999) = false), Bool.false_and] at u2; exact absurd u2 (by decide))]; done]; exact ⟨rfl, rfl, m, hM, rfl⟩) | (rw [show P_part S t a b c f u = (-1, S) from by unfold P_part; rw [if_neg (fun z => by have u2 := z.2.2.2.2; rw [hre, (by assumption : s_btw u f (nI 999) = false), Bool.and_false] at u2; exact absurd u2 (by decide))]; done]; exact ⟨rfl, rfl, m, hM, rfl⟩))
set_option maxHeartbeats 4000000 in
set_option maxRecDepth 100000 in
theorem w_sums {l : Launch} {G : x_G} {lo : x_L} (S : St) (m : Nat → Nat → Int32) (hS : Sok S) (hM : Mok S m) (hZ : Szz S) (t s c : Int32) : x_Wr l G lo (mco G lo (nS S) (mS S m)) yX11_sums cX11_sums 5 (some .int) 5 0 0 [.ref (lo (0)), .int (t), .int (s), .int (c)] (m_post G lo (P_sums S t s c).2 (some (.int (P_sums S t s c).1))) := by
  refine x_wenter RX11 rfl (by decide) (Nat.le_of_ble_eq_true rfl) ?_
  intro pp ee ss mm bb mt cd ls AA cx hk hW hA hr hlk hnm hl
  have hl : lv_has ls 5 [(0, .ref (lo (0))), (1, .int (t)), (2, .int (s)), (3, .int (c))] := hl
  generalize hav : ([.ref (lo (0)), .int (t), .int (s), .int (c)] : List Value).toArray = av at cx ⊢
  generalize hpo : (m_post G lo (P_sums S t s c).2 (some (.int (P_sums S t s c).1))) = po
  have hx := cx.1
  have hb := cx.2.1
  have hown := cx.2.2.2.1
  have hts := cx.2.2.2.2
  have hw := hW.1
  obtain ⟨s1, s2, s3, s4, s5, s6⟩ := id hS
  have hm := m_isM G lo S m
  refine lv_aload_n hx hb dX11_sums_0 rfl (lv_at hl 0 rfl) ?_
  refine x_get cx hk hw (rfl) f_RX11_123_10 rfl dX11_sums_1 ?_
  refine lv_bipush (v := nI 12) hx hb dX11_sums_4 rfl ?_
  refine x_icmp_eq (tgt := 48) cx dX11_sums_6 (by decide) (by omega) (fun h6_1 => ?_) (fun h6_1 => ?_)
  · skip
    refine lv_iconst (v := (-1)) hx hb dX11_sums_48 rfl ?_
    exact y_iret cx hW hr hlk ⟨by decide, by decide⟩ dX11_sums_49 (by rw [← hpo]; first | (rw [show P_sums S t s c = (-1, S) from by unfold P_sums; rw [if_neg (fun z => z.1 (by assumption))]; done]; exact ⟨rfl, rfl, m, hM, rfl⟩) | (rw [show P_sums S t s c = (-1, S) from by unfold P_sums; rw [if_neg (fun z => by have q := (by assumption : m_isC S t c = false); rw [m_isC, z.2.1, z.2.2.1] at q; exact absurd q (by decide))]; done]; exact ⟨rfl, rfl, m, hM, rfl⟩) | (rw [show P_sums S t s c = (-1, S) from by unfold P_sums; rw [if_neg (fun z => by have q := z.2.2.2.1; rw [ht3, nI_clamp (by omega)] at q; exact Bool.noConfusion ((by assumption : x_in (2 ^ (sT S t1).1 1) s = false).symm.trans q))]; done]; exact ⟨rfl, rfl, m, hM, rfl⟩) | (rw [show P_sums S t s c = (-1, S) from by unfold P_sums; rw [if_neg (fun z => by have q := z.2.2.2.2; rw [hs3, nI_clamp (by omega)] at q; have q2 := (by assumption : (decide (1 ≤ pop s_1) && decide (pop s_1 ≤ 2)) = false); rw [decide_eq_true q.1, decide_eq_true q.2] at q2; exact absurd q2 (by decide))]; done]; exact ⟨rfl, rfl, m, hM, rfl⟩))
  · skip
    refine lv_aload_n hx hb dX11_sums_9 rfl (lv_at hl 0 rfl) ?_
    refine lv_iload_n hx hb dX11_sums_10 rfl (lv_at hl 1 rfl) ?_
    refine lv_iload_n hx hb dX11_sums_11 rfl (lv_at hl 3 rfl) ?_
    refine x_rdV (av := [.int (t), .int (c)]) (rest := []) cx hk hw (rfl) cv_RX11_113_10 (m_isCol S m hm hS t c) hl.1 rfl rfl (Nat.le_of_ble_eq_true rfl) ⟨by decide, by decide⟩ ⟨Nat.zero_le _, Nat.zero_le _⟩ dX11_sums_12 ?_
    refine x_if_eq (tgt := 48) cx dX11_sums_15 (by decide) (fun h15_2 => ?_) (fun h15_2 => ?_)
    · skip
      refine lv_iconst (v := (-1)) hx hb dX11_sums_48 rfl ?_
      exact y_iret cx hW hr hlk ⟨by decide, by decide⟩ dX11_sums_49 (by rw [← hpo]; first | (rw [show P_sums S t s c = (-1, S) from by unfold P_sums; rw [if_neg (fun z => z.1 (by assumption))]; done]; exact ⟨rfl, rfl, m, hM, rfl⟩) | (rw [show P_sums S t s c = (-1, S) from by unfold P_sums; rw [if_neg (fun z => by have q := (by assumption : m_isC S t c = false); rw [m_isC, z.2.1, z.2.2.1] at q; exact absurd q (by decide))]; done]; exact ⟨rfl, rfl, m, hM, rfl⟩) | (rw [show P_sums S t s c = (-1, S) from by unfold P_sums; rw [if_neg (fun z => by have q := z.2.2.2.1; rw [ht3, nI_clamp (by omega)] at q; exact Bool.noConfusion ((by assumption : x_in (2 ^ (sT S t1).1 1) s = false).symm.trans q))]; done]; exact ⟨rfl, rfl, m, hM, rfl⟩) | (rw [show P_sums S t s c = (-1, S) from by unfold P_sums; rw [if_neg (fun z => by have q := z.2.2.2.2; rw [hs3, nI_clamp (by omega)] at q; have q2 := (by assumption : (decide (1 ≤ pop s_1) && decide (pop s_1 ≤ 2)) = false); rw [decide_eq_true q.1, decide_eq_true q.2] at q2; exact absurd q2 (by decide))]; done]; exact ⟨rfl, rfl, m, hM, rfl⟩))
    · skip
      have hca := (by assumption : m_isC S t c = true)
      have hti : m_isT S t = true := by rw [m_isC, Bool.and_eq_true] at hca; exact hca.1
      obtain ⟨t1, ht1, ht2, ht3⟩ := m_isT_ex (by assumption)
      rw [ht3] at hl
      have hT := (s1 t1 ht1).1 ht2
      obtain ⟨k1, k2, k3, k4, k5, k6, k7, k8, k9, k0⟩ := id hT
      have hp16 := pow_col k2
      have hp1 := Nat.two_pow_pos ((sT S t1).1 1)
      have hta : t_has (sT S t1) c = true := by rw [m_isC, ht3, nI_clamp (by omega), Bool.and_eq_true] at hca; exact hca.2
      obtain ⟨c1, hc1, hc3⟩ := t_has_ex (T := sT S t1) k2 hta
      rw [hc3] at hl
      refine lv_iload_n hx hb dX11_sums_18 rfl (lv_at hl 2 rfl) ?_
      refine lv_iconst (v := nI 0) hx hb dX11_sums_19 rfl ?_
      refine lv_iconst (v := nI 1) hx hb dX11_sums_20 rfl ?_
      refine lv_aload_n hx hb dX11_sums_21 rfl (lv_at hl 0 rfl) ?_
      refine x_get cx hk hw (rfl) f_RX11_7_10 rfl dX11_sums_22 ?_
      refine lv_iload_n hx hb dX11_sums_25 rfl (lv_at hl 1 rfl) ?_
      refine x_ialdE (x := nI ((sT S t1).1 1)) cx hk hw (show mco G lo (nS S) (mS S m) 1 = some (.inl (G.2 0, 4, .inl ((mS S m) 1))) from rfl) (by omega) (by decide) (rfl) dX11_sums_26 ?_
      refine x_ishlB cx (by omega) dX11_sums_27 ?_
      refine lv_iconst (v := nI 1) hx hb dX11_sums_28 rfl ?_
      refine x_isubN cx (by omega) dX11_sums_29 ?_
      refine x_rdS (av := [.int (s), .int (nI 0), .int (nI ((2 ^ ((sT S t1).1 1)) - 1))]) (rest := []) cx hk hw cs_RX11_89 (m_lies s (nI 0) (nI ((2 ^ ((sT S t1).1 1)) - 1))) hl.1 rfl rfl (Nat.le_of_ble_eq_true rfl) ⟨by decide, by decide⟩ ⟨Nat.zero_le _, Nat.zero_le _⟩ dX11_sums_30 ?_
      rw [s_btw_pos (by omega) (by omega)]
      refine x_if_eq (tgt := 48) cx dX11_sums_33 (by decide) (fun h33_3 => ?_) (fun h33_3 => ?_)
      · skip
        refine lv_iconst (v := (-1)) hx hb dX11_sums_48 rfl ?_
        exact y_iret cx hW hr hlk ⟨by decide, by decide⟩ dX11_sums_49 (by rw [← hpo]; first | (rw [show P_sums S t s c = (-1, S) from by unfold P_sums; rw [if_neg (fun z => z.1 (by assumption))]; done]; exact ⟨rfl, rfl, m, hM, rfl⟩) | (rw [show P_sums S t s c = (-1, S) from by unfold P_sums; rw [if_neg (fun z => by have q := (by assumption : m_isC S t c = false); rw [m_isC, z.2.1, z.2.2.1] at q; exact absurd q (by decide))]; done]; exact ⟨rfl, rfl, m, hM, rfl⟩) | (rw [show P_sums S t s c = (-1, S) from by unfold P_sums; rw [if_neg (fun z => by have q := z.2.2.2.1; rw [ht3, nI_clamp (by omega)] at q; exact Bool.noConfusion ((by assumption : x_in (2 ^ (sT S t1).1 1) s = false).symm.trans q))]; done]; exact ⟨rfl, rfl, m, hM, rfl⟩) | (rw [show P_sums S t s c = (-1, S) from by unfold P_sums; rw [if_neg (fun z => by have q := z.2.2.2.2; rw [hs3, nI_clamp (by omega)] at q; have q2 := (by assumption : (decide (1 ≤ pop s_1) && decide (pop s_1 ≤ 2)) = false); rw [decide_eq_true q.1, decide_eq_true q.2] at q2; exact absurd q2 (by decide))]; done]; exact ⟨rfl, rfl, m, hM, rfl⟩))
      · skip
        obtain ⟨s_1, hs1, hs3⟩ := x_in_ex (n := 2 ^ (sT S t1).1 1) (q := s) (by omega) (by assumption)
        have hpl := pop_le s_1
        rw [hs3] at hl
        refine lv_iload_n hx hb dX11_sums_36 rfl (lv_at hl 2 rfl) ?_
        refine x_rdS (av := [.int (nI s_1)]) (rest := []) cx hk hw cs_RX11_134 (m_size s_1 (by omega)) hl.1 rfl rfl (Nat.le_of_ble_eq_true rfl) ⟨by decide, by decide⟩ ⟨Nat.zero_le _, Nat.zero_le _⟩ dX11_sums_37 ?_
        refine lv_iconst (v := nI 1) hx hb dX11_sums_40 rfl ?_
        refine lv_iconst (v := nI 2) hx hb dX11_sums_41 rfl ?_
        refine x_rdS (av := [.int (nI (pop s_1)), .int (nI 1), .int (nI 2)]) (rest := []) cx hk hw cs_RX11_89 (m_lies (nI (pop s_1)) (nI 1) (nI 2)) hl.1 rfl rfl (Nat.le_of_ble_eq_true rfl) ⟨by decide, by decide⟩ ⟨Nat.zero_le _, Nat.zero_le _⟩ dX11_sums_42 ?_
        rw [s_btw_nI (by omega) (by decide) (by decide)]
        refine x_if_ne (tgt := 50) cx dX11_sums_45 (by decide) (fun h45_4 => ?_) (fun h45_4 => ?_)
        · skip
          refine lv_aload_n hx hb dX11_sums_50 rfl (lv_at hl 0 rfl) ?_
          refine lv_iload_n hx hb dX11_sums_51 rfl (lv_at hl 1 rfl) ?_
          refine lv_iconst (v := nI 3) hx hb dX11_sums_52 rfl ?_
          refine lv_iconst (v := (-1)) hx hb dX11_sums_53 rfl ?_
          refine lv_iconst (v := (-1)) hx hb dX11_sums_54 rfl ?_
          refine lv_iconst (v := (-1)) hx hb dX11_sums_55 rfl ?_
          refine y_wrV (av := [.int (nI t1), .int (nI 3), .int ((-1)), .int ((-1)), .int ((-1))]) (rest := []) cx hk hW hA (rfl) cv_RX11_130_10 (w_aid S m hS hM hZ t1 3 (-1) (-1) (-1) (by omega) (by omega)) hl.1 rfl rfl (Nat.le_of_ble_eq_true rfl) ⟨by decide, by decide⟩ ⟨by decide, by decide⟩ dX11_sums_56 (fun v_ lo_ co_ H locs hq_ hW => ?_)
          obtain ⟨hv_, hlo_, hco_⟩ := hq_
          have hlo2_ := hlo_.symm
          subst hv_ hlo2_ hco_
          have hw := hW.1
          refine lv_istore (lv' := [(4, .int (nI (sn S 1))), (0, .ref (lo (0))), (1, .int (nI t1)), (2, .int (nI s_1)), (3, .int (nI c1))]) hx hb dX11_sums_59 hl (by decide) rfl (fun ls hl => ?_)
          refine lv_aload_n hx hb dX11_sums_61 rfl (lv_at hl 1 rfl) ?_
          refine x_get cx hk hw (rfl) f_RX11_65_10 rfl dX11_sums_62 ?_
          refine lv_iload hx hb dX11_sums_65 (lv_at hl 0 rfl) ?_
          refine lv_iconst (v := nI 0) hx hb dX11_sums_67 rfl ?_
          refine y_ist 22 12 (by decide) cx hk hW (by omega) dX11_sums_68 (fun H locs hW => ?_)
          have hw := hW.1
          refine lv_aload_n hx hb dX11_sums_69 rfl (lv_at hl 1 rfl) ?_
          refine x_get cx hk hw (rfl) f_RX11_71_10 rfl dX11_sums_70 ?_
          refine lv_iload hx hb dX11_sums_73 (lv_at hl 0 rfl) ?_
          refine lv_iload_n hx hb dX11_sums_75 rfl (lv_at hl 3 rfl) ?_
          refine y_ist 24 12 (by decide) cx hk hW (by omega) dX11_sums_76 (fun H locs hW => ?_)
          have hw := hW.1
          refine lv_aload_n hx hb dX11_sums_77 rfl (lv_at hl 1 rfl) ?_
          refine x_get cx hk hw (rfl) f_RX11_74_10 rfl dX11_sums_78 ?_
          refine lv_iload hx hb dX11_sums_81 (lv_at hl 0 rfl) ?_
          refine lv_iload_n hx hb dX11_sums_83 rfl (lv_at hl 4 rfl) ?_
          refine y_ist 25 12 (by decide) cx hk hW (by omega) dX11_sums_84 (fun H locs hW => ?_)
          have hw := hW.1
          refine lv_iload hx hb dX11_sums_85 (lv_at hl 0 rfl) ?_
          exact y_iret cx hW hr hlk ⟨by decide, by decide⟩ dX11_sums_87 (by rw [← hpo]; rw [show P_sums S t s c = (nI (sn S 1), addA S (t1, newA 3 0 s_1 0 c1 0 0 (-1) (-1) (-1))) from by unfold P_sums; rw [if_pos ⟨by assumption, hti, by rw [ht3, nI_clamp (by omega)]; exact hta, by rw [ht3, nI_clamp (by omega)]; assumption, by rw [hs3, nI_clamp (by omega)]; have q2 := (by assumption : (decide (1 ≤ pop s_1) && decide (pop s_1 ≤ 2)) = true); rw [Bool.and_eq_true] at q2; exact ⟨of_decide_eq_true q2.1, of_decide_eq_true q2.2⟩⟩, ht3, hc3, hs3, nI_clamp (by omega), nI_clamp (by omega), nI_clamp (by omega)]]; exact ⟨rfl, rfl, _, mok_sums hS hM, wsums rfl⟩)
        · skip
          refine lv_iconst (v := (-1)) hx hb dX11_sums_48 rfl ?_
          exact y_iret cx hW hr hlk ⟨by decide, by decide⟩ dX11_sums_49 (by rw [← hpo]; first | (rw [show P_sums S t s c = (-1, S) from by unfold P_sums; rw [if_neg (fun z => z.1 (by assumption))]; done]; exact ⟨rfl, rfl, m, hM, rfl⟩) | (rw [show P_sums S t s c = (-1, S) from by unfold P_sums; rw [if_neg (fun z => by have q := (by assumption : m_isC S t c = false); rw [m_isC, z.2.1, z.2.2.1] at q; exact absurd q (by decide))]; done]; exact ⟨rfl, rfl, m, hM, rfl⟩) | (rw [show P_sums S t s c = (-1, S) from by unfold P_sums; rw [if_neg (fun z => by have q := z.2.2.2.1; rw [ht3, nI_clamp (by omega)] at q; exact Bool.noConfusion ((by assumption : x_in (2 ^ (sT S t1).1 1) s = false).symm.trans q))]; done]; exact ⟨rfl, rfl, m, hM, rfl⟩) | (rw [show P_sums S t s c = (-1, S) from by unfold P_sums; rw [if_neg (fun z => by have q := z.2.2.2.2; rw [hs3, nI_clamp (by omega)] at q; have q2 := (by assumption : (decide (1 ≤ pop s_1) && decide (pop s_1 ≤ 2)) = false); rw [decide_eq_true q.1, decide_eq_true q.2] at q2; exact absurd q2 (by decide))]; done]; exact ⟨rfl, rfl, m, hM, rfl⟩))
