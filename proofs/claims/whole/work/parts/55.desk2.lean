set_option maxHeartbeats 4000000 in
set_option maxRecDepth 100000 in
theorem d_canOrder {l : Launch} {G : x_G} {lo : x_L} {co : x_C} (b : Nat) (T : Tb) (ht : isTb G lo co b T) (a1 a2 a3 : Int32) : x_Rd l G lo co yX10_canOrderBy cX10_canOrderBy 4 (some .boolean) 3 [.ref (lo (b)), .int (a1), .int (a2), .int (a3)] (some (.int (bI (s_turn T a1 a2 a3)))) := by
  refine x_enter RX10 rfl (by decide) (Nat.le_of_ble_eq_true rfl) ?_
  intro pp ee ss mm bb mt cd ls cx hk hw hr hlk hl
  have hl : lv_has ls 4 [(0, .ref (lo (b))), (1, .int (a1)), (2, .int (a2)), (3, .int (a3))] := hl
  generalize hav : ([.ref (lo (b)), .int (a1), .int (a2), .int (a3)] : List Value).toArray = av at cx ⊢
  generalize hvv : (some (.int (bI (s_turn T a1 a2 a3))) : Option Value) = vv
  have hx := cx.1
  have hb := cx.2.1
  have hown := cx.2.2.2.1
  have hts := cx.2.2.2.2
  refine lv_aload_n hx hb dX10_canOrderBy_0 rfl (lv_at hl 0 rfl) ?_
  refine lv_iload_n hx hb dX10_canOrderBy_1 rfl (lv_at hl 1 rfl) ?_
  refine x_rdV (av := [.int (a1)]) (rest := []) cx hk hw (ht.1) cv_RX10_103_8 (c_t_has b T ht a1) hl.1 rfl rfl (Nat.le_of_ble_eq_true rfl) ⟨by decide, by decide⟩ ⟨Nat.zero_le _, Nat.zero_le _⟩ dX10_canOrderBy_2 ?_
  refine x_if_eq (tgt := 24) cx dX10_canOrderBy_5 (by decide) (fun h5_1 => ?_) (fun h5_1 => ?_)
  · skip
    refine lv_iconst (v := nI 0) hx hb dX10_canOrderBy_24 rfl ?_
    exact x_zretF (b := s_turn T a1 a2 a3) cx hr hlk dX10_canOrderBy_25 (by first | (simp [s_turn, *]; done) | (simp_all [s_turn]; done)) hvv
  · skip
    refine lv_aload_n hx hb dX10_canOrderBy_8 rfl (lv_at hl 0 rfl) ?_
    refine lv_iload_n hx hb dX10_canOrderBy_9 rfl (lv_at hl 2 rfl) ?_
    refine x_rdV (av := [.int (a2)]) (rest := []) cx hk hw (ht.1) cv_RX10_83_8 (c_t_hon b T ht a2) hl.1 rfl rfl (Nat.le_of_ble_eq_true rfl) ⟨by decide, by decide⟩ ⟨Nat.zero_le _, Nat.zero_le _⟩ dX10_canOrderBy_10 ?_
    refine x_if_eq (tgt := 24) cx dX10_canOrderBy_13 (by decide) (fun h13_2 => ?_) (fun h13_2 => ?_)
    · skip
      refine lv_iconst (v := nI 0) hx hb dX10_canOrderBy_24 rfl ?_
      exact x_zretF (b := s_turn T a1 a2 a3) cx hr hlk dX10_canOrderBy_25 (by first | (simp [s_turn, *]; done) | (simp_all [s_turn]; done)) hvv
    · skip
      refine lv_aload_n hx hb dX10_canOrderBy_16 rfl (lv_at hl 0 rfl) ?_
      refine lv_iload_n hx hb dX10_canOrderBy_17 rfl (lv_at hl 3 rfl) ?_
      refine x_rdV (av := [.int (a3)]) (rest := []) cx hk hw (ht.1) cv_RX10_83_8 (c_t_hon b T ht a3) hl.1 rfl rfl (Nat.le_of_ble_eq_true rfl) ⟨by decide, by decide⟩ ⟨Nat.zero_le _, Nat.zero_le _⟩ dX10_canOrderBy_18 ?_
      refine x_if_ne (tgt := 26) cx dX10_canOrderBy_21 (by decide) (fun h21_3 => ?_) (fun h21_3 => ?_)
      · skip
        refine lv_iload_n hx hb dX10_canOrderBy_26 rfl (lv_at hl 2 rfl) ?_
        refine lv_iconst (v := (-1)) hx hb dX10_canOrderBy_27 rfl ?_
        refine lv_icmp_ne (tgt := 42) hx hb dX10_canOrderBy_28 (by decide) (fun h28_4 => ?_) (fun h28_4 => ?_)
        · skip
          refine lv_iload_n hx hb dX10_canOrderBy_42 rfl (lv_at hl 1 rfl) ?_
          refine lv_iload_n hx hb dX10_canOrderBy_43 rfl (lv_at hl 2 rfl) ?_
          refine lv_icmp_eq (tgt := 61) hx hb dX10_canOrderBy_44 (by decide) (fun h44_5 => ?_) (fun h44_5 => ?_)
          · skip
            refine lv_iconst (v := nI 0) hx hb dX10_canOrderBy_61 rfl ?_
            exact x_zretF (b := s_turn T a1 a2 a3) cx hr hlk dX10_canOrderBy_62 (by first | (simp [s_turn, *]; done) | (simp_all [s_turn]; done)) hvv
          · skip
            refine lv_iload_n hx hb dX10_canOrderBy_47 rfl (lv_at hl 1 rfl) ?_
            refine lv_iload_n hx hb dX10_canOrderBy_48 rfl (lv_at hl 3 rfl) ?_
            refine lv_icmp_eq (tgt := 61) hx hb dX10_canOrderBy_49 (by decide) (fun h49_6 => ?_) (fun h49_6 => ?_)
            · skip
              refine lv_iconst (v := nI 0) hx hb dX10_canOrderBy_61 rfl ?_
              exact x_zretF (b := s_turn T a1 a2 a3) cx hr hlk dX10_canOrderBy_62 (by first | (simp [s_turn, *]; done) | (simp_all [s_turn]; done)) hvv
            · skip
              refine lv_iload_n hx hb dX10_canOrderBy_52 rfl (lv_at hl 2 rfl) ?_
              refine lv_iload_n hx hb dX10_canOrderBy_53 rfl (lv_at hl 3 rfl) ?_
              refine lv_icmp_eq (tgt := 61) hx hb dX10_canOrderBy_54 (by decide) (fun h54_7 => ?_) (fun h54_7 => ?_)
              · skip
                refine lv_iconst (v := nI 0) hx hb dX10_canOrderBy_61 rfl ?_
                exact x_zretF (b := s_turn T a1 a2 a3) cx hr hlk dX10_canOrderBy_62 (by first | (simp [s_turn, *]; done) | (simp_all [s_turn]; done)) hvv
              · skip
                refine lv_iconst (v := nI 1) hx hb dX10_canOrderBy_57 rfl ?_
                refine lv_goto (tgt := 62) hx hb dX10_canOrderBy_58 (by decide) ?_
                exact x_zretT (b := s_turn T a1 a2 a3) cx hr hlk dX10_canOrderBy_62 (by first | (simp [s_turn, *]; done) | (simp_all [s_turn]; done)) hvv
        · skip
          refine lv_iload_n hx hb dX10_canOrderBy_31 rfl (lv_at hl 3 rfl) ?_
          refine lv_iconst (v := (-1)) hx hb dX10_canOrderBy_32 rfl ?_
          refine lv_icmp_ne (tgt := 40) hx hb dX10_canOrderBy_33 (by decide) (fun h33_8 => ?_) (fun h33_8 => ?_)
          · skip
            refine lv_iconst (v := nI 0) hx hb dX10_canOrderBy_40 rfl ?_
            exact x_zretF (b := s_turn T a1 a2 a3) cx hr hlk dX10_canOrderBy_41 (by first | (simp [s_turn, *]; done) | (simp_all [s_turn]; done)) hvv
          · skip
            refine lv_iconst (v := nI 1) hx hb dX10_canOrderBy_36 rfl ?_
            refine lv_goto (tgt := 41) hx hb dX10_canOrderBy_37 (by decide) ?_
            exact x_zretT (b := s_turn T a1 a2 a3) cx hr hlk dX10_canOrderBy_41 (by first | (simp [s_turn, *]; done) | (simp_all [s_turn]; done)) hvv
      · skip
        refine lv_iconst (v := nI 0) hx hb dX10_canOrderBy_24 rfl ?_
        exact x_zretF (b := s_turn T a1 a2 a3) cx hr hlk dX10_canOrderBy_25 (by first | (simp [s_turn, *]; done) | (simp_all [s_turn]; done)) hvv
set_option maxHeartbeats 4000000 in
set_option maxRecDepth 100000 in
theorem d_isSet {l : Launch} {G : x_G} {lo : x_L} {co : x_C} (dd : Nat) (S : St) (X : Sc) (hd : isDk G lo co dd S X) (hj : x_J lo co) (hS : Sok S) (s : Int32) : x_Rd l G lo co yX10_isSet cX10_isSet 3 (some .boolean) 5 [.ref (lo (0)), .int (s)] (some (.int (bI (m_isS S s)))) := by
  refine x_enter RX10 rfl (by decide) (Nat.le_of_ble_eq_true rfl) ?_
  intro pp ee ss mm bb mt cd ls cx hk hw hr hlk hl
  have hl : lv_has ls 3 [(0, .ref (lo (0))), (1, .int (s))] := hl
  generalize hav : ([.ref (lo (0)), .int (s)] : List Value).toArray = av at cx ⊢
  generalize hvv : (some (.int (bI (m_isS S s))) : Option Value) = vv
  have hx := cx.1
  have hb := cx.2.1
  have hown := cx.2.2.2.1
  have hts := cx.2.2.2.2
  obtain ⟨s1, s2, s3, s4, s5, s6⟩ := id hS
  obtain ⟨ft, hf1, hft⟩ := hd.2.1
  obtain ⟨mcq, evq, hq0⟩ := hd.L2.obj
  obtain ⟨mca, eva, ha0⟩ := hd.L4.obj
  have hb12 := Sok.b12 hS
  have hush := d_ush (n := sn S 1) (s := s) (by omega)
  refine lv_iload_n hx hb dX10_isSet_0 rfl (lv_at hl 1 rfl) ?_
  refine lv_aload_n hx hb dX10_isSet_1 rfl (lv_at hl 0 rfl) ?_
  refine x_get (v := .ref (lo (4))) cx hk hw (hd.1) f_RX10_22_9 rfl dX10_isSet_2 ?_
  refine x_rdV (av := []) (rest := [.int (s)]) cx hk hw (ha0) cv_RX10_76_0 (l_size 4 mca eva (sn S 1) ha0) hl.1 rfl rfl (Nat.le_of_ble_eq_true rfl) ⟨by decide, by decide⟩ ⟨Nat.zero_le _, Nat.zero_le _⟩ dX10_isSet_5 ?_
  refine lv_iushr hx hb dX10_isSet_8 rfl ?_
  refine lv_if_eq (tgt := 14) hx hb dX10_isSet_9 (by decide) (fun h9_1 => ?_) (fun h9_1 => ?_)
  · skip
    obtain ⟨n, hn1, hn⟩ := x_in_ex (n := 2 ^ sn S 1) (by omega) (hush.mp (by assumption))
    rw [hn] at hl
    refine lv_iconst (v := nI 0) hx hb dX10_isSet_14 rfl ?_
    refine lv_istore_n (lv' := [(2, .int (nI 0)), (0, .ref (lo (0))), (1, .int (nI n))]) hx hb dX10_isSet_15 rfl hl (by decide) rfl (fun ls hl => ?_)
    have L16_2 : ∀ (n_ : Nat) (k : Nat), (k ≤ sn S 1) → (∀ a, a < k → n.testBit a = true → d_rivs S a &&& n = 0) → sn S 1 - k < n_ → ∀ (ls : Array Slot), lv_has ls 3 [(2, .int (nI k)), (0, .ref (lo (0))), (1, .int (nI n))] → x_w l 5 pp ee ss mm av bb mt cd vv 16 ls [] := by
      intro n_
      induction n_ with
      | zero => intro k hv hall hm_ ls hl; exact absurd hm_ (Nat.not_lt_zero _)
      | succ n_ ih16_2 =>
        intro k hv hall hm_ ls hl
        refine lv_iload_n hx hb dX10_isSet_16 rfl (lv_at hl 0 rfl) ?_
        refine lv_aload_n hx hb dX10_isSet_17 rfl (lv_at hl 1 rfl) ?_
        refine x_get (v := .ref (lo (4))) cx hk hw (hd.1) f_RX10_22_9 rfl dX10_isSet_18 ?_
        refine x_rdV (av := []) (rest := [.int (nI k)]) cx hk hw (ha0) cv_RX10_76_0 (l_size 4 mca eva (sn S 1) ha0) hl.1 rfl rfl (Nat.le_of_ble_eq_true rfl) ⟨by decide, by decide⟩ ⟨Nat.zero_le _, Nat.zero_le _⟩ dX10_isSet_21 ?_
        refine x_icmp_ge (tgt := 56) cx dX10_isSet_24 (by decide) (by omega) (fun h24_3 => ?_) (fun h24_3 => ?_)
        · skip
          refine lv_iconst (v := nI 1) hx hb dX10_isSet_56 rfl ?_
          exact x_zretT (b := m_isS S s) cx hr hlk dX10_isSet_57 (by rw [hn, m_isS_nI hS (by omega), decide_eq_true hn1, Bool.true_and]; exact m_set_riv.mpr (fun a ha => hall a (by omega))) hvv
        · skip
          refine lv_iload_n hx hb dX10_isSet_27 rfl (lv_at hl 0 rfl) ?_
          refine lv_iload_n hx hb dX10_isSet_28 rfl (lv_at hl 2 rfl) ?_
          refine x_rdS (av := [.int (nI k), .int (nI n)]) (rest := []) cx hk hw cs_RX10_224 (c_isIn k n (by omega) (by omega)) hl.1 rfl rfl (Nat.le_of_ble_eq_true rfl) ⟨by decide, by decide⟩ ⟨Nat.zero_le _, Nat.zero_le _⟩ dX10_isSet_29 ?_
          refine x_if_eq (tgt := 50) cx dX10_isSet_32 (by decide) (fun h32_4 => ?_) (fun h32_4 => ?_)
          · skip
            refine lv_iinc (v := nI (k + 1)) (lv' := [(2, .int (nI (k + 1))), (0, .ref (lo (0))), (1, .int (nI n))]) hx hb dX10_isSet_50 hl (k := 0) rfl (nI_add _ 1) (by decide) rfl (fun ls hl => ?_)
            refine lv_goto (tgt := 16) hx hb dX10_isSet_53 (by decide) ?_
            exact ih16_2 (k + 1) (by omega) (by intro a ha hb_; rcases Nat.lt_succ_iff_lt_or_eq.mp ha with w | w; exact hall a w hb_; subst w; first | assumption | (rw [hb_] at *; contradiction)) (by omega) _ (lv_sub hl [0, 1, 2] rfl)
          · skip
            refine lv_aload_n hx hb dX10_isSet_35 rfl (lv_at hl 1 rfl) ?_
            refine x_get (v := .ref (lo (4))) cx hk hw (hd.1) f_RX10_22_9 rfl dX10_isSet_36 ?_
            refine lv_iload_n hx hb dX10_isSet_39 rfl (lv_at hl 0 rfl) ?_
            refine x_rdS (av := [.ref (lo (4)), .int (nI k)]) (rest := []) cx hk hw cs_RX10_164 (d_rivalsOf dd S X hd hj hS k (by omega)) hl.1 rfl rfl (Nat.le_of_ble_eq_true rfl) ⟨by decide, by decide⟩ ⟨Nat.zero_le _, Nat.zero_le _⟩ dX10_isSet_40 ?_
            have hrl := d_rivs_lt S k
            refine lv_iload_n hx hb dX10_isSet_43 rfl (lv_at hl 2 rfl) ?_
            refine x_iandB cx dX10_isSet_44 ?_
            have hal : d_rivs S k &&& n ≤ n := Nat.and_le_right
            refine x_ifN_eq (tgt := 50) cx dX10_isSet_45 (by decide) (by omega) (fun h45_5 => ?_) (fun h45_5 => ?_)
            · skip
              refine lv_iinc (v := nI (k + 1)) (lv' := [(2, .int (nI (k + 1))), (0, .ref (lo (0))), (1, .int (nI n))]) hx hb dX10_isSet_50 hl (k := 0) rfl (nI_add _ 1) (by decide) rfl (fun ls hl => ?_)
              refine lv_goto (tgt := 16) hx hb dX10_isSet_53 (by decide) ?_
              exact ih16_2 (k + 1) (by omega) (by intro a ha hb_; rcases Nat.lt_succ_iff_lt_or_eq.mp ha with w | w; exact hall a w hb_; subst w; first | assumption | (rw [hb_] at *; contradiction)) (by omega) _ (lv_sub hl [0, 1, 2] rfl)
            · skip
              refine lv_iconst (v := nI 0) hx hb dX10_isSet_48 rfl ?_
              exact x_zretF (b := m_isS S s) cx hr hlk dX10_isSet_49 (by rw [hn, m_isS_nI hS (by omega)]; cases e_ : m_set S n with | false => simp | true => exact absurd (m_set_riv.mp e_ k (by omega) (by assumption)) (by assumption)) hvv
    exact L16_2 (_ + 1) 0 (by omega) (by exact fun a h => absurd h (Nat.not_lt_zero a)) (Nat.lt_succ_self _) _ (lv_sub hl [0, 1, 2] rfl)
  · skip
    refine lv_iconst (v := nI 0) hx hb dX10_isSet_12 rfl ?_
    exact x_zretF (b := m_isS S s) cx hr hlk dX10_isSet_13 (by rw [m_isS]; cases e_ : x_in (2 ^ sn S 1) s with | false => rfl | true => exact absurd (hush.mpr e_) (by assumption)) hvv
set_option maxHeartbeats 4000000 in
set_option maxRecDepth 100000 in
theorem d_told {l : Launch} {G : x_G} {lo : x_L} {co : x_C} (dd : Nat) (S : St) (X : Sc) (hd : isDk G lo co dd S X) (hj : x_J lo co) (hS : Sok S) : x_Rd l G lo co yX10_tablesTold cX10_tablesTold 6 (some .int) 2 [.ref (lo (0))] (some (.int (nI (cntN 4 (fun t => decide (0 < (sT S t).1 1)))))) := by
  refine x_enter RX10 rfl (by decide) (Nat.le_of_ble_eq_true rfl) ?_
  intro pp ee ss mm bb mt cd ls cx hk hw hr hlk hl
  have hl : lv_has ls 6 [(0, .ref (lo (0)))] := hl
  generalize hav : ([.ref (lo (0))] : List Value).toArray = av at cx ⊢
  generalize hvv : (some (.int (nI (cntN 4 (fun t => decide (0 < (sT S t).1 1))))) : Option Value) = vv
  have hx := cx.1
  have hb := cx.2.1
  have hown := cx.2.2.2.1
  have hts := cx.2.2.2.2
  obtain ⟨s1, s2, s3, s4, s5, s6⟩ := id hS
  obtain ⟨ft, hf1, hft⟩ := hd.2.1
  obtain ⟨mcq, evq, hq0⟩ := hd.L2.obj
  obtain ⟨mca, eva, ha0⟩ := hd.L4.obj
  refine lv_iconst (v := nI 0) hx hb dX10_tablesTold_0 rfl ?_
  refine lv_istore_n (lv' := [(1, .int (nI 0)), (0, .ref (lo (0)))]) hx hb dX10_tablesTold_1 rfl hl (by decide) rfl (fun ls hl => ?_)
  refine lv_aload_n hx hb dX10_tablesTold_2 rfl (lv_at hl 1 rfl) ?_
  refine x_get (v := .ref (lo (1))) cx hk hw (hd.1) f_RX10_11_9 rfl dX10_tablesTold_3 ?_
  refine lv_astore_n (lv' := [(2, .ref (lo (1))), (1, .int (nI 0)), (0, .ref (lo (0)))]) hx hb dX10_tablesTold_6 rfl hl (by decide) rfl (fun ls hl => ?_)
  refine lv_aload_n hx hb dX10_tablesTold_7 rfl (lv_at hl 0 rfl) ?_
  refine x_alenT cx hk hw (hf1) dX10_tablesTold_8 ?_
  refine lv_istore_n (lv' := [(3, .int (nI 4)), (2, .ref (lo (1))), (1, .int (nI 0)), (0, .ref (lo (0)))]) hx hb dX10_tablesTold_9 rfl hl (by decide) rfl (fun ls hl => ?_)
  refine lv_iconst (v := nI 0) hx hb dX10_tablesTold_10 rfl ?_
  refine lv_istore (lv' := [(4, .int (nI 0)), (3, .int (nI 4)), (2, .ref (lo (1))), (1, .int (nI 0)), (0, .ref (lo (0)))]) hx hb dX10_tablesTold_11 hl (by decide) rfl (fun ls hl => ?_)
  have L13_1 : ∀ (n_ : Nat) (f : Nat) (k : Nat), (k ≤ 4) → (f = cntN k (fun t => decide (0 < (sT S t).1 1))) → 4 - k < n_ → ∀ (ls : Array Slot), lv_has ls 6 [(4, .int (nI k)), (3, .int (nI 4)), (2, .ref (lo (1))), (1, .int (nI f)), (0, .ref (lo (0)))] → x_w l 2 pp ee ss mm av bb mt cd vv 13 ls [] := by
    intro n_
    induction n_ with
    | zero => intro f k hv hf hm_ ls hl; exact absurd hm_ (Nat.not_lt_zero _)
    | succ n_ ih13_1 =>
      intro f k hv hf hm_ ls hl
      refine lv_iload hx hb dX10_tablesTold_13 (lv_at hl 0 rfl) ?_
      refine lv_iload_n hx hb dX10_tablesTold_15 rfl (lv_at hl 1 rfl) ?_
      refine x_icmp_ge (tgt := 44) cx dX10_tablesTold_16 (by decide) (by omega) (fun h16_2 => ?_) (fun h16_2 => ?_)
      · skip
        refine lv_iload_n hx hb dX10_tablesTold_44 rfl (lv_at hl 3 rfl) ?_
        exact x_iret cx hr hlk dX10_tablesTold_45 ((congrArg (fun z => some (Value.int (nI z))) (show f = cntN 4 (fun t => decide (0 < (sT S t).1 1)) from by rw [hf, show k = 4 by omega])).trans hvv)
      · skip
        refine lv_aload_n hx hb dX10_tablesTold_19 rfl (lv_at hl 2 rfl) ?_
        refine lv_iload hx hb dX10_tablesTold_20 (lv_at hl 0 rfl) ?_
        refine x_aaldTN cx hk hw (hf1) (by omega) (by first | decide | omega) (congrArg va_rf (hft k (by omega))) dX10_tablesTold_22 ?_
        by_cases hz : 0 < (sT S k).1 1
        · rw [if_pos hz]
          show x_w l 2 pp ee ss mm av bb mt cd vv 23 ls [.ref (lo (tT k))]
          refine lv_astore (lv' := [(5, .ref (lo (tT k))), (4, .int (nI k)), (3, .int (nI 4)), (2, .ref (lo (1))), (1, .int (nI f)), (0, .ref (lo (0)))]) hx hb dX10_tablesTold_23 hl (by decide) rfl (fun ls hl => ?_)
          refine lv_iload_n hx hb dX10_tablesTold_25 rfl (lv_at hl 4 rfl) ?_
          refine lv_aload hx hb dX10_tablesTold_26 (lv_at hl 0 rfl) ?_
          refine lv_ifnonnull (tgt := 35) hx hb dX10_tablesTold_28 (by decide) ?_
          refine lv_iconst (v := nI 1) hx hb dX10_tablesTold_35 rfl ?_
          refine x_iaddN cx dX10_tablesTold_36 ?_
          refine lv_istore_n (lv' := [(1, .int (nI (f + 1))), (5, .ref (lo (tT k))), (4, .int (nI k)), (3, .int (nI 4)), (2, .ref (lo (1))), (0, .ref (lo (0)))]) hx hb dX10_tablesTold_37 rfl hl (by decide) rfl (fun ls hl => ?_)
          refine lv_iinc (v := nI (k + 1)) (lv' := [(4, .int (nI (k + 1))), (1, .int (nI (f + 1))), (5, .ref (lo (tT k))), (3, .int (nI 4)), (2, .ref (lo (1))), (0, .ref (lo (0)))]) hx hb dX10_tablesTold_38 hl (k := 2) rfl (nI_add _ 1) (by decide) rfl (fun ls hl => ?_)
          refine lv_goto (tgt := 13) hx hb dX10_tablesTold_41 (by decide) ?_
          exact ih13_1 (f + 1) (k + 1) (by omega) (by rw [cntN, ← hf]; simp [hz]) (by omega) _ (lv_sub hl [0, 3, 4, 1, 5] rfl)
        · rw [if_neg hz]
          show x_w l 2 pp ee ss mm av bb mt cd vv 23 ls [.null]
          refine lv_astoreN (lv' := [(5, .null), (4, .int (nI k)), (3, .int (nI 4)), (2, .ref (lo (1))), (1, .int (nI f)), (0, .ref (lo (0)))]) hx hb dX10_tablesTold_23 hl (by decide) rfl (fun ls hl => ?_)
          refine lv_iload_n hx hb dX10_tablesTold_25 rfl (lv_at hl 4 rfl) ?_
          refine lv_aloadN hx hb dX10_tablesTold_26 (lv_at hl 0 rfl) ?_
          refine lv_ifnonnullN hx hb dX10_tablesTold_28 ?_
          refine lv_iconst (v := nI 0) hx hb dX10_tablesTold_31 rfl ?_
          refine lv_goto (tgt := 36) hx hb dX10_tablesTold_32 (by decide) ?_
          refine x_iaddN cx dX10_tablesTold_36 ?_
          refine lv_istore_n (lv' := [(1, .int (nI (f + 0))), (5, .null), (4, .int (nI k)), (3, .int (nI 4)), (2, .ref (lo (1))), (0, .ref (lo (0)))]) hx hb dX10_tablesTold_37 rfl hl (by decide) rfl (fun ls hl => ?_)
          refine lv_iinc (v := nI (k + 1)) (lv' := [(4, .int (nI (k + 1))), (1, .int (nI (f + 0))), (5, .null), (3, .int (nI 4)), (2, .ref (lo (1))), (0, .ref (lo (0)))]) hx hb dX10_tablesTold_38 hl (k := 2) rfl (nI_add _ 1) (by decide) rfl (fun ls hl => ?_)
          refine lv_goto (tgt := 13) hx hb dX10_tablesTold_41 (by decide) ?_
          exact ih13_1 (f + 0) (k + 1) (by omega) (by rw [cntN, ← hf]; simp [hz]) (by omega) _ (lv_sub hl [0, 3, 4, 1, 5] rfl)
  exact L13_1 (_ + 1) 0 0 (by omega) (by rfl) (Nat.lt_succ_self _) _ (lv_sub hl [0, 1, 2, 3, 4] rfl)
set_option maxHeartbeats 4000000 in
set_option maxRecDepth 100000 in
theorem d_rowsAll {l : Launch} {G : x_G} {lo : x_L} {co : x_C} (dd : Nat) (S : St) (X : Sc) (hd : isDk G lo co dd S X) (hj : x_J lo co) (hS : Sok S) : x_Rd l G lo co yX10_rowsInAll cX10_rowsInAll 6 (some .int) 2 [.ref (lo (0))] (some (.int (nI (sumN 4 (fun t => (sT S t).1 3))))) := by
  refine x_enter RX10 rfl (by decide) (Nat.le_of_ble_eq_true rfl) ?_
  intro pp ee ss mm bb mt cd ls cx hk hw hr hlk hl
  have hl : lv_has ls 6 [(0, .ref (lo (0)))] := hl
  generalize hav : ([.ref (lo (0))] : List Value).toArray = av at cx ⊢
  generalize hvv : (some (.int (nI (sumN 4 (fun t => (sT S t).1 3)))) : Option Value) = vv
  have hx := cx.1
  have hb := cx.2.1
  have hown := cx.2.2.2.1
  have hts := cx.2.2.2.2
  obtain ⟨s1, s2, s3, s4, s5, s6⟩ := id hS
  obtain ⟨ft, hf1, hft⟩ := hd.2.1
  obtain ⟨mcq, evq, hq0⟩ := hd.L2.obj
  obtain ⟨mca, eva, ha0⟩ := hd.L4.obj
  have hr60 : ∀ t, t < 4 → (sT S t).1 3 ≤ 60 := fun t ht => (Nat.eq_zero_or_pos ((sT S t).1 1)).elim (fun z => by have := (s1 t ht).2 z; omega) (fun z => ((s1 t ht).1 z).2.2.2.2.1)
  refine lv_iconst (v := nI 0) hx hb dX10_rowsInAll_0 rfl ?_
  refine lv_istore_n (lv' := [(1, .int (nI 0)), (0, .ref (lo (0)))]) hx hb dX10_rowsInAll_1 rfl hl (by decide) rfl (fun ls hl => ?_)
  refine lv_aload_n hx hb dX10_rowsInAll_2 rfl (lv_at hl 1 rfl) ?_
  refine x_get (v := .ref (lo (1))) cx hk hw (hd.1) f_RX10_11_9 rfl dX10_rowsInAll_3 ?_
  refine lv_astore_n (lv' := [(2, .ref (lo (1))), (1, .int (nI 0)), (0, .ref (lo (0)))]) hx hb dX10_rowsInAll_6 rfl hl (by decide) rfl (fun ls hl => ?_)
  refine lv_aload_n hx hb dX10_rowsInAll_7 rfl (lv_at hl 0 rfl) ?_
  refine x_alenT cx hk hw (hf1) dX10_rowsInAll_8 ?_
  refine lv_istore_n (lv' := [(3, .int (nI 4)), (2, .ref (lo (1))), (1, .int (nI 0)), (0, .ref (lo (0)))]) hx hb dX10_rowsInAll_9 rfl hl (by decide) rfl (fun ls hl => ?_)
  refine lv_iconst (v := nI 0) hx hb dX10_rowsInAll_10 rfl ?_
  refine lv_istore (lv' := [(4, .int (nI 0)), (3, .int (nI 4)), (2, .ref (lo (1))), (1, .int (nI 0)), (0, .ref (lo (0)))]) hx hb dX10_rowsInAll_11 hl (by decide) rfl (fun ls hl => ?_)
  have L13_1 : ∀ (n_ : Nat) (f : Nat) (k : Nat), (k ≤ 4) → (f = sumN k (fun t => (sT S t).1 3)) → 4 - k < n_ → ∀ (ls : Array Slot), lv_has ls 6 [(4, .int (nI k)), (3, .int (nI 4)), (2, .ref (lo (1))), (1, .int (nI f)), (0, .ref (lo (0)))] → x_w l 2 pp ee ss mm av bb mt cd vv 13 ls [] := by
    intro n_
    induction n_ with
    | zero => intro f k hv hf hm_ ls hl; exact absurd hm_ (Nat.not_lt_zero _)
    | succ n_ ih13_1 =>
      intro f k hv hf hm_ ls hl
      refine lv_iload hx hb dX10_rowsInAll_13 (lv_at hl 0 rfl) ?_
      refine lv_iload_n hx hb dX10_rowsInAll_15 rfl (lv_at hl 1 rfl) ?_
      refine x_icmp_ge (tgt := 48) cx dX10_rowsInAll_16 (by decide) (by omega) (fun h16_2 => ?_) (fun h16_2 => ?_)
      · skip
        refine lv_iload_n hx hb dX10_rowsInAll_48 rfl (lv_at hl 3 rfl) ?_
        exact x_iret cx hr hlk dX10_rowsInAll_49 ((congrArg (fun z => some (Value.int (nI z))) (show f = sumN 4 (fun t => (sT S t).1 3) from by rw [hf, show k = 4 by omega])).trans hvv)
      · skip
        refine lv_aload_n hx hb dX10_rowsInAll_19 rfl (lv_at hl 2 rfl) ?_
        refine lv_iload hx hb dX10_rowsInAll_20 (lv_at hl 0 rfl) ?_
        refine x_aaldTN cx hk hw (hf1) (by omega) (by first | decide | omega) (congrArg va_rf (hft k (by omega))) dX10_rowsInAll_22 ?_
        by_cases hz : 0 < (sT S k).1 1
        · rw [if_pos hz]
          show x_w l 2 pp ee ss mm av bb mt cd vv 23 ls [.ref (lo (tT k))]
          have ht1_k : k < 4 := (by omega)
          have ht2_k := hz
          have hTt_k := (s1 _ ht1_k).1 ht2_k
          have htt_k := hd.T ht1_k ht2_k
          refine lv_astore (lv' := [(5, .ref (lo (tT k))), (4, .int (nI k)), (3, .int (nI 4)), (2, .ref (lo (1))), (1, .int (nI f)), (0, .ref (lo (0)))]) hx hb dX10_rowsInAll_23 hl (by decide) rfl (fun ls hl => ?_)
          refine lv_iload_n hx hb dX10_rowsInAll_25 rfl (lv_at hl 4 rfl) ?_
          refine lv_aload hx hb dX10_rowsInAll_26 (lv_at hl 0 rfl) ?_
          refine lv_ifnonnull (tgt := 35) hx hb dX10_rowsInAll_28 (by decide) ?_
          refine lv_aload hx hb dX10_rowsInAll_35 (lv_at hl 0 rfl) ?_
          refine x_get (v := .int (nI ((sT S k).1 3))) cx hk hw (htt_k.1) f_RX10_43_8 rfl dX10_rowsInAll_37 ?_
          refine x_iaddN cx dX10_rowsInAll_40 ?_
          refine lv_istore_n (lv' := [(1, .int (nI (f + ((sT S k).1 3)))), (5, .ref (lo (tT k))), (4, .int (nI k)), (3, .int (nI 4)), (2, .ref (lo (1))), (0, .ref (lo (0)))]) hx hb dX10_rowsInAll_41 rfl hl (by decide) rfl (fun ls hl => ?_)
          refine lv_iinc (v := nI (k + 1)) (lv' := [(4, .int (nI (k + 1))), (1, .int (nI (f + ((sT S k).1 3)))), (5, .ref (lo (tT k))), (3, .int (nI 4)), (2, .ref (lo (1))), (0, .ref (lo (0)))]) hx hb dX10_rowsInAll_42 hl (k := 2) rfl (nI_add _ 1) (by decide) rfl (fun ls hl => ?_)
          refine lv_goto (tgt := 13) hx hb dX10_rowsInAll_45 (by decide) ?_
          exact ih13_1 (f + ((sT S k).1 3)) (k + 1) (by omega) (by rw [sumN, ← hf]; first | done | rfl | (have := (s1 k (by omega)).2 (by omega); omega)) (by omega) _ (lv_sub hl [0, 3, 4, 1, 5] rfl)
        · rw [if_neg hz]
          show x_w l 2 pp ee ss mm av bb mt cd vv 23 ls [.null]
          refine lv_astoreN (lv' := [(5, .null), (4, .int (nI k)), (3, .int (nI 4)), (2, .ref (lo (1))), (1, .int (nI f)), (0, .ref (lo (0)))]) hx hb dX10_rowsInAll_23 hl (by decide) rfl (fun ls hl => ?_)
          refine lv_iload_n hx hb dX10_rowsInAll_25 rfl (lv_at hl 4 rfl) ?_
          refine lv_aloadN hx hb dX10_rowsInAll_26 (lv_at hl 0 rfl) ?_
          refine lv_ifnonnullN hx hb dX10_rowsInAll_28 ?_
          refine lv_iconst (v := nI 0) hx hb dX10_rowsInAll_31 rfl ?_
          refine lv_goto (tgt := 40) hx hb dX10_rowsInAll_32 (by decide) ?_
          refine x_iaddN cx dX10_rowsInAll_40 ?_
          refine lv_istore_n (lv' := [(1, .int (nI (f + 0))), (5, .null), (4, .int (nI k)), (3, .int (nI 4)), (2, .ref (lo (1))), (0, .ref (lo (0)))]) hx hb dX10_rowsInAll_41 rfl hl (by decide) rfl (fun ls hl => ?_)
          refine lv_iinc (v := nI (k + 1)) (lv' := [(4, .int (nI (k + 1))), (1, .int (nI (f + 0))), (5, .null), (3, .int (nI 4)), (2, .ref (lo (1))), (0, .ref (lo (0)))]) hx hb dX10_rowsInAll_42 hl (k := 2) rfl (nI_add _ 1) (by decide) rfl (fun ls hl => ?_)
          refine lv_goto (tgt := 13) hx hb dX10_rowsInAll_45 (by decide) ?_
          exact ih13_1 (f + 0) (k + 1) (by omega) (by rw [sumN, ← hf]; first | done | rfl | (have := (s1 k (by omega)).2 (by omega); omega)) (by omega) _ (lv_sub hl [0, 3, 4, 1, 5] rfl)
  exact L13_1 (_ + 1) 0 0 (by omega) (by rfl) (Nat.lt_succ_self _) _ (lv_sub hl [0, 1, 2, 3, 4] rfl)
set_option maxHeartbeats 4000000 in
set_option maxRecDepth 100000 in
theorem d_count {l : Launch} {G : x_G} {lo : x_L} {co : x_C} (dd : Nat) (S : St) (X : Sc) (hd : isDk G lo co dd S X) (hj : x_J lo co) (hS : Sok S) (w : Int32) : x_Rd l G lo co yX10_count cX10_count 2 (some .int) 3 [.ref (lo (0)), .int (w)] (some (.int (P_count S w))) := by
  refine x_enter RX10 rfl (by decide) (Nat.le_of_ble_eq_true rfl) ?_
  intro pp ee ss mm bb mt cd ls cx hk hw hr hlk hl
  have hl : lv_has ls 2 [(0, .ref (lo (0))), (1, .int (w))] := hl
  generalize hav : ([.ref (lo (0)), .int (w)] : List Value).toArray = av at cx ⊢
  generalize hvv : (some (.int (P_count S w)) : Option Value) = vv
  have hx := cx.1
  have hb := cx.2.1
  have hown := cx.2.2.2.1
  have hts := cx.2.2.2.2
  obtain ⟨s1, s2, s3, s4, s5, s6⟩ := id hS
  obtain ⟨ft, hf1, hft⟩ := hd.2.1
  obtain ⟨mcq, evq, hq0⟩ := hd.L2.obj
  obtain ⟨mca, eva, ha0⟩ := hd.L4.obj
  refine lv_iload_n hx hb dX10_count_0 rfl (lv_at hl 1 rfl) ?_
  by_cases hs1_0 : w = 0
  · skip
    refine x_tin (v := 0) (tgt := 32) (off := 31) cx dX10_count_1 hs1_0 (by decide) (by decide) (by decide) (by decide) ?_
    refine lv_aload_n hx hb dX10_count_32 rfl (lv_at hl 0 rfl) ?_
    refine x_rdV (av := []) (rest := []) cx hk hw (hd.1) cv_RX10_233_9 (d_told dd S X hd hj hS) hl.1 rfl rfl (Nat.le_of_ble_eq_true rfl) ⟨by decide, by decide⟩ ⟨Nat.zero_le _, Nat.zero_le _⟩ dX10_count_33 ?_
    exact x_iret cx hr hlk dX10_count_36 ((congrArg (fun z => some (Value.int z)) (show nI (cntN 4 (fun t => decide (0 < (sT S t).1 1))) = P_count S w from by rw [P_count, if_pos (by assumption)])).trans hvv)
  by_cases hs1_1 : w = 1
  · skip
    refine x_tin (v := 1) (tgt := 37) (off := 36) cx dX10_count_1 hs1_1 (by decide) (by decide) (by decide) (by decide) ?_
    refine lv_aload_n hx hb dX10_count_37 rfl (lv_at hl 0 rfl) ?_
    refine x_get (v := .ref (lo (2))) cx hk hw (hd.1) f_RX10_18_9 rfl dX10_count_38 ?_
    refine x_rdV (av := []) (rest := []) cx hk hw (hq0) cv_RX10_76_0 (l_size 2 mcq evq (sn S 0) hq0) hl.1 rfl rfl (Nat.le_of_ble_eq_true rfl) ⟨by decide, by decide⟩ ⟨Nat.zero_le _, Nat.zero_le _⟩ dX10_count_41 ?_
    exact x_iret cx hr hlk dX10_count_44 ((congrArg (fun z => some (Value.int z)) (show nI (sn S 0) = P_count S w from by rw [P_count, if_neg (by assumption), if_pos (by assumption)])).trans hvv)
  by_cases hs1_2 : w = 2
  · skip
    refine x_tin (v := 2) (tgt := 45) (off := 44) cx dX10_count_1 hs1_2 (by decide) (by decide) (by decide) (by decide) ?_
    refine lv_aload_n hx hb dX10_count_45 rfl (lv_at hl 0 rfl) ?_
    refine x_get (v := .ref (lo (4))) cx hk hw (hd.1) f_RX10_22_9 rfl dX10_count_46 ?_
    refine x_rdV (av := []) (rest := []) cx hk hw (ha0) cv_RX10_76_0 (l_size 4 mca eva (sn S 1) ha0) hl.1 rfl rfl (Nat.le_of_ble_eq_true rfl) ⟨by decide, by decide⟩ ⟨Nat.zero_le _, Nat.zero_le _⟩ dX10_count_49 ?_
    exact x_iret cx hr hlk dX10_count_52 ((congrArg (fun z => some (Value.int z)) (show nI (sn S 1) = P_count S w from by rw [P_count, if_neg (by assumption), if_neg (by assumption), if_pos (by assumption)])).trans hvv)
  by_cases hs1_3 : w = 3
  · skip
    refine x_tin (v := 3) (tgt := 53) (off := 52) cx dX10_count_1 hs1_3 (by decide) (by decide) (by decide) (by decide) ?_
    refine lv_aload_n hx hb dX10_count_53 rfl (lv_at hl 0 rfl) ?_
    refine x_rdV (av := []) (rest := []) cx hk hw (hd.1) cv_RX10_236_9 (d_rowsAll dd S X hd hj hS) hl.1 rfl rfl (Nat.le_of_ble_eq_true rfl) ⟨by decide, by decide⟩ ⟨Nat.zero_le _, Nat.zero_le _⟩ dX10_count_54 ?_
    exact x_iret cx hr hlk dX10_count_57 ((congrArg (fun z => some (Value.int z)) (show nI (sumN 4 (fun t => (sT S t).1 3)) = P_count S w from by rw [P_count, if_neg (by assumption), if_neg (by assumption), if_neg (by assumption), if_pos (by assumption)])).trans hvv)
  refine x_tout (tgt := 58) (lo := 0) (hi := 3) cx dX10_count_1 (by decide) (fun z h1 h2 => by rcases (show z = 0 ∨ z = 1 ∨ z = 2 ∨ z = 3 by omega) with rfl | rfl | rfl | rfl <;> (first | exact hs1_0 | exact hs1_1 | exact hs1_2 | exact hs1_3)) ?_
  refine lv_iconst (v := (-1)) hx hb dX10_count_58 rfl ?_
  exact x_iret cx hr hlk dX10_count_59 ((congrArg (fun z => some (Value.int z)) (show (-1) = P_count S w from by rw [P_count, if_neg (by assumption), if_neg (by assumption), if_neg (by assumption), if_neg (by assumption)])).trans hvv)
set_option maxHeartbeats 4000000 in
set_option maxRecDepth 100000 in
theorem d_built {l : Launch} {G : x_G} {lo : x_L} {co : x_C} (dd : Nat) (S : St) (X : Sc) (hd : isDk G lo co dd S X) (hj : x_J lo co) (hS : Sok S) : x_Rd l G lo co yX10_built cX10_built 3 (some .int) 4 [.ref (lo (0))] (some (.int (nI (sn S 2)))) := by
  refine x_enter RX10 rfl (by decide) (Nat.le_of_ble_eq_true rfl) ?_
  intro pp ee ss mm bb mt cd ls cx hk hw hr hlk hl
  have hl : lv_has ls 3 [(0, .ref (lo (0)))] := hl
  generalize hav : ([.ref (lo (0))] : List Value).toArray = av at cx ⊢
  generalize hvv : (some (.int (nI (sn S 2))) : Option Value) = vv
  have hx := cx.1
  have hb := cx.2.1
  have hown := cx.2.2.2.1
  have hts := cx.2.2.2.2
  obtain ⟨s1, s2, s3, s4, s5, s6⟩ := id hS
  obtain ⟨ft, hf1, hft⟩ := hd.2.1
  obtain ⟨mcq, evq, hq0⟩ := hd.L2.obj
  obtain ⟨mca, eva, ha0⟩ := hd.L4.obj
  have hb12 := Sok.b12 hS
  refine lv_iconst (v := nI 0) hx hb dX10_built_0 rfl ?_
  refine lv_istore_n (lv' := [(1, .int (nI 0)), (0, .ref (lo (0)))]) hx hb dX10_built_1 rfl hl (by decide) rfl (fun ls hl => ?_)
  refine lv_iconst (v := nI 0) hx hb dX10_built_2 rfl ?_
  refine lv_istore_n (lv' := [(2, .int (nI 0)), (1, .int (nI 0)), (0, .ref (lo (0)))]) hx hb dX10_built_3 rfl hl (by decide) rfl (fun ls hl => ?_)
  have L4_1 : ∀ (n_ : Nat) (f : Nat) (k : Nat), (k ≤ sn S 1) → (f = d_blt S k) → sn S 1 - k < n_ → ∀ (ls : Array Slot), lv_has ls 3 [(2, .int (nI k)), (1, .int (nI f)), (0, .ref (lo (0)))] → x_w l 4 pp ee ss mm av bb mt cd vv 4 ls [] := by
    intro n_
    induction n_ with
    | zero => intro f k hv hf hm_ ls hl; exact absurd hm_ (Nat.not_lt_zero _)
    | succ n_ ih4_1 =>
      intro f k hv hf hm_ ls hl
      refine lv_iload_n hx hb dX10_built_4 rfl (lv_at hl 0 rfl) ?_
      refine lv_aload_n hx hb dX10_built_5 rfl (lv_at hl 2 rfl) ?_
      refine x_get (v := .ref (lo (4))) cx hk hw (hd.1) f_RX10_22_9 rfl dX10_built_6 ?_
      refine x_rdV (av := []) (rest := [.int (nI k)]) cx hk hw (ha0) cv_RX10_76_0 (l_size 4 mca eva (sn S 1) ha0) hl.1 rfl rfl (Nat.le_of_ble_eq_true rfl) ⟨by decide, by decide⟩ ⟨Nat.zero_le _, Nat.zero_le _⟩ dX10_built_9 ?_
      refine x_icmp_ge (tgt := 49) cx dX10_built_12 (by decide) (by omega) (fun h12_2 => ?_) (fun h12_2 => ?_)
      · skip
        refine lv_iload_n hx hb dX10_built_49 rfl (lv_at hl 1 rfl) ?_
        exact x_iret cx hr hlk dX10_built_50 ((congrArg (fun z => some (Value.int (nI z))) (show f = sn S 2 from by rw [hf, show k = sn S 1 by omega, d_blt_eq hS])).trans hvv)
      · skip
        refine lv_iload_n hx hb dX10_built_15 rfl (lv_at hl 1 rfl) ?_
        refine lv_aload_n hx hb dX10_built_16 rfl (lv_at hl 2 rfl) ?_
        refine x_get (v := .ref (lo (4))) cx hk hw (hd.1) f_RX10_22_9 rfl dX10_built_17 ?_
        refine lv_iload_n hx hb dX10_built_20 rfl (lv_at hl 0 rfl) ?_
        refine x_rdV (av := [.int (nI k)]) (rest := [.int (nI f)]) cx hk hw ha0 cv_RX10_202_0 (l_get dd 4 5 (sn S 1) _ hd.L4 k (by omega) (by omega)) hl.1 rfl rfl (Nat.le_of_ble_eq_true rfl) ⟨by decide, by decide⟩ ⟨Nat.zero_le _, Nat.zero_le _⟩ dX10_built_21 ?_
        obtain ⟨u1_21_3, u2_21_3, hAa_21_3⟩ := s6 k (by omega)
        have hTa_21_3 := (s1 _ u1_21_3).1 u2_21_3
        have hta_21_3 := hd.T u1_21_3 u2_21_3
        have had_21_3 := hd.A (a := k) (by omega)
        have hBa_21_3 := aok_bA (S := S) hAa_21_3
        have hA4_21_3 := hAa_21_3.1
        refine ac_RX10_159 cx hk hw had_21_3 dX10_built_24 ?_
        refine ag_RX10_158 cx hk hw had_21_3 dX10_built_27 ?_
        rw [b6_bA]
        have J41_4 : ∀ (y4_s0 : Nat) (ey4_s0 : y4_s0 = if ((sn S 2).testBit k) = true then (2 ^ k) else 0) (ls : Array Slot), lv_has ls 3 [(2, .int (nI k)), (1, .int (nI f)), (0, .ref (lo (0)))] → x_w l 4 pp ee ss mm av bb mt cd vv 41 ls [.int (nI y4_s0), .int (nI f)] := by
          intro y4_s0 ey4_s0 ls hl
          have dy4_s0 : (((sn S 2).testBit k) = true ∧ (y4_s0 = (2 ^ k))) ∨ (¬ (((sn S 2).testBit k) = true) ∧ (y4_s0 = 0)) := by rw [ey4_s0]; repeat' (first | (exact rfl) | (split <;> first | (refine Or.inl ⟨by assumption, ?_⟩) | (refine Or.inr ⟨by assumption, ?_⟩)))
          refine x_iorB cx dX10_built_41 ?_
          refine lv_istore_n (lv' := [(1, .int (nI (f ||| y4_s0))), (2, .int (nI k)), (0, .ref (lo (0)))]) hx hb dX10_built_42 rfl hl (by decide) rfl (fun ls hl => ?_)
          refine lv_iinc (v := nI (k + 1)) (lv' := [(2, .int (nI (k + 1))), (1, .int (nI (f ||| y4_s0))), (0, .ref (lo (0)))]) hx hb dX10_built_43 hl (k := 1) rfl (nI_add _ 1) (by decide) rfl (fun ls hl => ?_)
          refine lv_goto (tgt := 4) hx hb dX10_built_46 (by decide) ?_
          exact ih4_1 (f ||| y4_s0) (k + 1) (by omega) (by rw [d_blt, ← hf]; congr 1) (by omega) _ (lv_sub hl [0, 1, 2] rfl)
        refine x_if_eq (tgt := 40) cx dX10_built_30 (by decide) (fun h30_5 => ?_) (fun h30_5 => ?_)
        · skip
          refine lv_iconst (v := nI 0) hx hb dX10_built_40 rfl ?_
          exact J41_4 0 (by rw [if_neg (fun q => Bool.noConfusion (h30_5.symm.trans q))]) _ (lv_sub hl [0, 1, 2] rfl)
        · skip
          refine lv_iload_n hx hb dX10_built_33 rfl (lv_at hl 0 rfl) ?_
          refine x_rdS (av := [.int (nI k)]) (rest := [.int (nI f)]) cx hk hw cs_RX10_120 (c_bitN k (by omega)) hl.1 rfl rfl (Nat.le_of_ble_eq_true rfl) ⟨by decide, by decide⟩ ⟨Nat.zero_le _, Nat.zero_le _⟩ dX10_built_34 ?_
          have hkp : 2 ^ k < 2 ^ sn S 1 := Nat.pow_lt_pow_right (by decide) (by omega)
          refine lv_goto (tgt := 41) hx hb dX10_built_37 (by decide) ?_
          exact J41_4 (2 ^ k) (by rw [if_pos h30_5]) _ (lv_sub hl [0, 1, 2] rfl)
  exact L4_1 (_ + 1) 0 0 (by omega) (by rfl) (Nat.lt_succ_self _) _ (lv_sub hl [0, 1, 2] rfl)
set_option maxHeartbeats 4000000 in
set_option maxRecDepth 100000 in
theorem d_counts {l : Launch} {G : x_G} {lo : x_L} {co : x_C} (dd : Nat) (S : St) (X : Sc) (hd : isDk G lo co dd S X) (hj : x_J lo co) (hS : Sok S) (t c w : Int32) : x_Rd l G lo co yX10_counts cX10_counts 5 (some .int) 3 [.ref (lo (0)), .int (t), .int (c), .int (w)] (some (.int (P_counts S t c w))) := by
  refine x_enter RX10 rfl (by decide) (Nat.le_of_ble_eq_true rfl) ?_
  intro pp ee ss mm bb mt cd ls cx hk hw hr hlk hl
  have hl : lv_has ls 5 [(0, .ref (lo (0))), (1, .int (t)), (2, .int (c)), (3, .int (w))] := hl
  generalize hav : ([.ref (lo (0)), .int (t), .int (c), .int (w)] : List Value).toArray = av at cx ⊢
  generalize hvv : (some (.int (P_counts S t c w)) : Option Value) = vv
  have hx := cx.1
  have hb := cx.2.1
  have hown := cx.2.2.2.1
  have hts := cx.2.2.2.2
  obtain ⟨s1, s2, s3, s4, s5, s6⟩ := id hS
  obtain ⟨ft, hf1, hft⟩ := hd.2.1
  obtain ⟨mcq, evq, hq0⟩ := hd.L2.obj
  obtain ⟨mca, eva, ha0⟩ := hd.L4.obj
  refine lv_aload_n hx hb dX10_counts_0 rfl (lv_at hl 0 rfl) ?_
  refine lv_iload_n hx hb dX10_counts_1 rfl (lv_at hl 1 rfl) ?_
  refine x_rdV (av := [.int (t)]) (rest := []) cx hk hw (hd.1) cv_RX10_39_9 (d_tableAt dd S X hd hj hS t) hl.1 rfl rfl (Nat.le_of_ble_eq_true rfl) ⟨by decide, by decide⟩ ⟨Nat.zero_le _, Nat.zero_le _⟩ dX10_counts_2 ?_
  by_cases hc_t : m_isT S t = true
  · skip
    obtain ⟨t1_t, ht1_t, ht2_t, ht3_t⟩ := m_isT_ex hc_t
    have hTt_t := (s1 _ ht1_t).1 ht2_t
    have htt_t := hd.T ht1_t ht2_t
    rw [d_tab_1 hc_t ht3_t ht1_t]
    rw [ht3_t] at hl
    refine lv_astore (lv' := [(4, .ref (lo (tT t1_t))), (0, .ref (lo (0))), (1, .int (nI t1_t)), (2, .int (c)), (3, .int (w))]) hx hb dX10_counts_5 hl (by decide) rfl (fun ls hl => ?_)
    refine lv_aload hx hb dX10_counts_7 (lv_at hl 0 rfl) ?_
    refine lv_ifnonnull (tgt := 14) hx hb dX10_counts_9 (by decide) ?_
    refine lv_iload_n hx hb dX10_counts_14 rfl (lv_at hl 4 rfl) ?_
    by_cases hs15_0 : w = 0
    · skip
      refine x_lin (tgt := 48) (off := 33) cx dX10_counts_15 hs15_0 (by decide) (by decide) (by decide) ?_
      refine lv_aload hx hb dX10_counts_48 (lv_at hl 0 rfl) ?_
      refine x_get (v := .int (nI ((sT S t1_t).1 5))) cx hk hw (htt_t.1) f_RX10_62_8 rfl dX10_counts_50 ?_
      exact x_iret cx hr hlk dX10_counts_53 ((congrArg (fun z => some (Value.int z)) (show nI ((sT S t1_t).1 5) = P_counts S t c w from by rw [P_counts, if_pos (by assumption), ht3_t, nI_clamp (by omega)]; first | (rw [if_pos (by assumption)]; done) | (rw [if_neg (by assumption), if_pos (by assumption)]; done) | (rw [if_neg (by assumption), if_neg (by assumption), if_pos (by assumption)]; done) | (rw [if_neg (by assumption), if_neg (by assumption), if_neg (by assumption)]; done))).trans hvv)
    by_cases hs15_1 : w = 1
    · skip
      refine x_lin (tgt := 54) (off := 39) cx dX10_counts_15 hs15_1 (by decide) (by decide) (by decide) ?_
      refine lv_aload hx hb dX10_counts_54 (lv_at hl 0 rfl) ?_
      refine x_rdV (av := []) (rest := []) cx hk hw (htt_t.1) cv_RX10_65_8 (c_t_cpages (tT t1_t) (sT S t1_t) htt_t hTt_t) hl.1 rfl rfl (Nat.le_of_ble_eq_true rfl) ⟨by decide, by decide⟩ ⟨Nat.zero_le _, Nat.zero_le _⟩ dX10_counts_56 ?_
      exact x_iret cx hr hlk dX10_counts_59 ((congrArg (fun z => some (Value.int z)) (show nI (s_up ((sT S t1_t).1 5) ((sT S t1_t).1 2)) = P_counts S t c w from by rw [P_counts, if_pos (by assumption), ht3_t, nI_clamp (by omega)]; first | (rw [if_pos (by assumption)]; done) | (rw [if_neg (by assumption), if_pos (by assumption)]; done) | (rw [if_neg (by assumption), if_neg (by assumption), if_pos (by assumption)]; done) | (rw [if_neg (by assumption), if_neg (by assumption), if_neg (by assumption)]; done))).trans hvv)
    by_cases hs15_5 : w = 5
    · skip
      refine x_lin (tgt := 60) (off := 45) cx dX10_counts_15 hs15_5 (by decide) (by decide) (by decide) ?_
      refine lv_aload hx hb dX10_counts_60 (lv_at hl 0 rfl) ?_
      refine x_get (v := .int (nI ((sT S t1_t).1 3))) cx hk hw (htt_t.1) f_RX10_43_8 rfl dX10_counts_62 ?_
      exact x_iret cx hr hlk dX10_counts_65 ((congrArg (fun z => some (Value.int z)) (show nI ((sT S t1_t).1 3) = P_counts S t c w from by rw [P_counts, if_pos (by assumption), ht3_t, nI_clamp (by omega)]; first | (rw [if_pos (by assumption)]; done) | (rw [if_neg (by assumption), if_pos (by assumption)]; done) | (rw [if_neg (by assumption), if_neg (by assumption), if_pos (by assumption)]; done) | (rw [if_neg (by assumption), if_neg (by assumption), if_neg (by assumption)]; done))).trans hvv)
    refine x_lout (tgt := 66) cx dX10_counts_15 (by decide) (by decide) (by simp [Op.lookupswitch.offset, ne_toInt (z := 0) 0 rfl hs15_0, ne_toInt (z := 1) 1 rfl hs15_1, ne_toInt (z := 5) 5 rfl hs15_5]) ?_
    refine lv_aload hx hb dX10_counts_66 (lv_at hl 0 rfl) ?_
    refine lv_iload_n hx hb dX10_counts_68 rfl (lv_at hl 3 rfl) ?_
    refine lv_iload_n hx hb dX10_counts_69 rfl (lv_at hl 4 rfl) ?_
    refine x_rdV (av := [.int (c), .int (w)]) (rest := []) cx hk hw (htt_t.1) cv_RX10_69_8 (c_t_cc (tT t1_t) (sT S t1_t) htt_t hTt_t c w) hl.1 rfl rfl (Nat.le_of_ble_eq_true rfl) ⟨by decide, by decide⟩ ⟨Nat.zero_le _, Nat.zero_le _⟩ dX10_counts_70 ?_
    exact x_iret cx hr hlk dX10_counts_73 ((congrArg (fun z => some (Value.int z)) (show t_cc (sT S t1_t) c w = P_counts S t c w from by rw [P_counts, if_pos (by assumption), ht3_t, nI_clamp (by omega)]; first | (rw [if_pos (by assumption)]; done) | (rw [if_neg (by assumption), if_pos (by assumption)]; done) | (rw [if_neg (by assumption), if_neg (by assumption), if_pos (by assumption)]; done) | (rw [if_neg (by assumption), if_neg (by assumption), if_neg (by assumption)]; done))).trans hvv)
  · skip
    rw [d_tab_0 hc_t]
    refine lv_astoreN (lv' := [(4, .null), (0, .ref (lo (0))), (1, .int (t)), (2, .int (c)), (3, .int (w))]) hx hb dX10_counts_5 hl (by decide) rfl (fun ls hl => ?_)
    refine lv_aloadN hx hb dX10_counts_7 (lv_at hl 0 rfl) ?_
    refine lv_ifnonnullN hx hb dX10_counts_9 ?_
    refine lv_iconst (v := (-1)) hx hb dX10_counts_12 rfl ?_
    exact x_iret cx hr hlk dX10_counts_13 ((congrArg (fun z => some (Value.int z)) (show (-1) = P_counts S t c w from by simp [P_counts, *])).trans hvv)
set_option maxHeartbeats 4000000 in
set_option maxRecDepth 100000 in
theorem d_cost {l : Launch} {G : x_G} {lo : x_L} {co : x_C} (dd : Nat) (S : St) (X : Sc) (hd : isDk G lo co dd S X) (hj : x_J lo co) (hS : Sok S) (q a : Int32) : x_Rd l G lo co yX10_cost cX10_cost 5 (some .int) 7 [.ref (lo (0)), .int (q), .int (a)] (some (.int (P_cost S q a))) := by
  refine x_enter RX10 rfl (by decide) (Nat.le_of_ble_eq_true rfl) ?_
  intro pp ee ss mm bb mt cd ls cx hk hw hr hlk hl
  have hl : lv_has ls 5 [(0, .ref (lo (0))), (1, .int (q)), (2, .int (a))] := hl
  generalize hav : ([.ref (lo (0)), .int (q), .int (a)] : List Value).toArray = av at cx ⊢
  generalize hvv : (some (.int (P_cost S q a)) : Option Value) = vv
  have hx := cx.1
  have hb := cx.2.1
  have hown := cx.2.2.2.1
  have hts := cx.2.2.2.2
  obtain ⟨s1, s2, s3, s4, s5, s6⟩ := id hS
  obtain ⟨ft, hf1, hft⟩ := hd.2.1
  obtain ⟨mcq, evq, hq0⟩ := hd.L2.obj
  obtain ⟨mca, eva, ha0⟩ := hd.L4.obj
  refine lv_aload_n hx hb dX10_cost_0 rfl (lv_at hl 0 rfl) ?_
  refine lv_iload_n hx hb dX10_cost_1 rfl (lv_at hl 1 rfl) ?_
  refine x_rdV (av := [.int (q)]) (rest := []) cx hk hw (hd.1) cv_RX10_95_9 (d_questionAt dd S X hd hj hS q) hl.1 rfl rfl (Nat.le_of_ble_eq_true rfl) ⟨by decide, by decide⟩ ⟨Nat.zero_le _, Nat.zero_le _⟩ dX10_cost_2 ?_
  by_cases hc_q : x_in (sn S 0) q = true
  · skip
    obtain ⟨q1_q, hq1_q, hq3_q⟩ := x_in_ex (n := sn S 0) (by omega) hc_q
    obtain ⟨v1_q, v2_q, hQq_q⟩ := s5 q1_q hq1_q
    have hTq_q := (s1 _ v1_q).1 v2_q
    have htq_q := hd.T v1_q v2_q
    have hqq_q := hd.Q (q := q1_q) hq1_q
    rw [d_qn_1 hc_q hq3_q (by omega)]
    rw [hq3_q] at hl
    refine lv_astore_n (lv' := [(3, .ref (lo (tQ q1_q))), (0, .ref (lo (0))), (1, .int (nI q1_q)), (2, .int (a))]) hx hb dX10_cost_5 rfl hl (by decide) rfl (fun ls hl => ?_)
    refine lv_aload_n hx hb dX10_cost_6 rfl (lv_at hl 0 rfl) ?_
    refine lv_ifnonnull (tgt := 12) hx hb dX10_cost_7 (by decide) ?_
    refine lv_iload_n hx hb dX10_cost_12 rfl (lv_at hl 3 rfl) ?_
    refine lv_iconst (v := (-1)) hx hb dX10_cost_13 rfl ?_
    refine lv_icmp_ne (tgt := 25) hx hb dX10_cost_14 (by decide) (fun h14_1 => ?_) (fun h14_1 => ?_)
    · skip
      refine lv_aload_n hx hb dX10_cost_25 rfl (lv_at hl 1 rfl) ?_
      refine lv_iload_n hx hb dX10_cost_26 rfl (lv_at hl 3 rfl) ?_
      refine x_rdV (av := [.int (a)]) (rest := []) cx hk hw (hd.1) cv_RX10_154_9 (d_aidAt dd S X hd hj hS a) hl.1 rfl rfl (Nat.le_of_ble_eq_true rfl) ⟨by decide, by decide⟩ ⟨Nat.zero_le _, Nat.zero_le _⟩ dX10_cost_27 ?_
      by_cases hc_a : x_in (sn S 1) a = true
      · skip
        obtain ⟨a1_a, ha1_a, ha3_a⟩ := x_in_ex (n := sn S 1) (by omega) hc_a
        obtain ⟨u1_a, u2_a, hAa_a⟩ := s6 a1_a ha1_a
        have hTa_a := (s1 _ u1_a).1 u2_a
        have hta_a := hd.T u1_a u2_a
        have had_a := hd.A (a := a1_a) ha1_a
        have hBa_a := aok_bA (S := S) hAa_a
        have hA4_a := hAa_a.1
        rw [d_ad_1 hc_a ha3_a (by omega)]
        rw [ha3_a] at hl
        refine lv_astore (lv' := [(4, .ref (lo (tA a1_a))), (3, .ref (lo (tQ q1_q))), (0, .ref (lo (0))), (1, .int (nI q1_q)), (2, .int (nI a1_a))]) hx hb dX10_cost_30 hl (by decide) rfl (fun ls hl => ?_)
        refine lv_aload hx hb dX10_cost_32 (lv_at hl 0 rfl) ?_
        refine lv_ifnull hx hb dX10_cost_34 ?_
        refine lv_aload hx hb dX10_cost_37 (lv_at hl 0 rfl) ?_
        refine ag_RX10_176 cx hk hw had_a dX10_cost_39 ?_
        refine lv_aload_n hx hb dX10_cost_42 rfl (lv_at hl 1 rfl) ?_
        refine x_get (v := .ref (lo (tT (qt S q1_q)))) cx hk hw (hqq_q.1) f_RX10_99_5 rfl dX10_cost_43 ?_
        refine lv_acmp_ne (rx := some (lo (tT (ao S a1_a)))) (ry := some (lo (tT (qt S q1_q)))) (tgt := 58) hx hb dX10_cost_46 (by decide) (fun h46_2 => ?_) (fun h46_2 => ?_)
        · skip
          refine lv_iconst (v := (-1)) hx hb dX10_cost_58 rfl ?_
          exact x_iret cx hr hlk dX10_cost_59 ((congrArg (fun z => some (Value.int z)) (show (-1) = P_cost S q a from by rw [P_cost, if_pos hc_q, if_neg (by first | assumption | (rw [ha3_a]; assumption))]; first | (rw [if_neg (fun z => hc_a z.1)]; done) | (rw [if_neg (fun z => by have z2 := z.2; rw [hq3_q, ha3_a, nI_clamp (by omega), nI_clamp (by omega), m_helps, Bool.and_eq_true] at z2; first | exact absurd ((tT_inj hd hj (s6 a1_a (by omega)).1 (s6 a1_a (by omega)).2.1 (s5 q1_q (by omega)).1 (s5 q1_q (by omega)).2.1).mpr (of_decide_eq_true z2.1)) (by assumption) | exact absurd z2.2 (by simp [*]))]))).trans hvv)
        · skip
          have hsm_m : ao S a1_a = qt S q1_q := (tT_inj hd hj (s6 a1_a (by omega)).1 (s6 a1_a (by omega)).2.1 (s5 q1_q (by omega)).1 (s5 q1_q (by omega)).2.1).mp (by assumption)
          have hqs_m : isQn G lo co (tQ q1_q) (tT (ao S a1_a)) (qQ S q1_q) := by rw [hsm_m]; exact hqq_q
          have hQs_m : Qok (sT S (ao S a1_a)) (qQ S q1_q) := by rw [hsm_m]; exact hQq_q
          refine lv_aload hx hb dX10_cost_49 (lv_at hl 0 rfl) ?_
          refine lv_aload_n hx hb dX10_cost_51 rfl (lv_at hl 1 rfl) ?_
          refine av_RX10_191 cx hk hw had_a hta_a hTa_a hBa_a hqs_m hQs_m hl.1 (Nat.le_of_ble_eq_true rfl) ⟨by decide, by decide⟩ ⟨Nat.zero_le _, Nat.zero_le _⟩ dX10_cost_52 ?_
          rw [helps_bA]
          refine x_if_ne (tgt := 60) cx dX10_cost_55 (by decide) (fun h55_3 => ?_) (fun h55_3 => ?_)
          · skip
            refine lv_aload hx hb dX10_cost_60 (lv_at hl 0 rfl) ?_
            refine lv_aload_n hx hb dX10_cost_62 rfl (lv_at hl 1 rfl) ?_
            refine av_RX10_195 cx hk hw had_a hta_a hTa_a hBa_a hqs_m hQs_m hl.1 (Nat.le_of_ble_eq_true rfl) ⟨by decide, by decide⟩ ⟨Nat.zero_le _, Nat.zero_le _⟩ dX10_cost_63 ?_
            rw [show a_cost (sT S (ao S a1_a)) (qQ S q1_q) (bA S a1_a) = m_cost S q1_q a1_a from cost_bA S a1_a _ _]
            exact x_iret cx hr hlk dX10_cost_66 ((congrArg (fun z => some (Value.int z)) (show nI (m_cost S q1_q a1_a) = P_cost S q a from by rw [P_cost, if_pos hc_q, if_neg (by first | assumption | (rw [ha3_a]; assumption)), if_pos ⟨hc_a, by rw [hq3_q, ha3_a, nI_clamp (by omega), nI_clamp (by omega), m_helps, decide_eq_true hsm_m, Bool.true_and]; assumption⟩, hq3_q, ha3_a, nI_clamp (by omega), nI_clamp (by omega)])).trans hvv)
          · skip
            refine lv_iconst (v := (-1)) hx hb dX10_cost_58 rfl ?_
            exact x_iret cx hr hlk dX10_cost_59 ((congrArg (fun z => some (Value.int z)) (show (-1) = P_cost S q a from by rw [P_cost, if_pos hc_q, if_neg (by first | assumption | (rw [ha3_a]; assumption))]; first | (rw [if_neg (fun z => hc_a z.1)]; done) | (rw [if_neg (fun z => by have z2 := z.2; rw [hq3_q, ha3_a, nI_clamp (by omega), nI_clamp (by omega), m_helps, Bool.and_eq_true] at z2; first | exact absurd ((tT_inj hd hj (s6 a1_a (by omega)).1 (s6 a1_a (by omega)).2.1 (s5 q1_q (by omega)).1 (s5 q1_q (by omega)).2.1).mpr (of_decide_eq_true z2.1)) (by assumption) | exact absurd z2.2 (by simp [*]))]))).trans hvv)
      · skip
        rw [d_ad_0 hc_a]
        refine lv_astoreN (lv' := [(4, .null), (3, .ref (lo (tQ q1_q))), (0, .ref (lo (0))), (1, .int (nI q1_q)), (2, .int (a))]) hx hb dX10_cost_30 hl (by decide) rfl (fun ls hl => ?_)
        refine lv_aloadN hx hb dX10_cost_32 (lv_at hl 0 rfl) ?_
        refine lv_ifnullN (tgt := 58) hx hb dX10_cost_34 (by decide) ?_
        refine lv_iconst (v := (-1)) hx hb dX10_cost_58 rfl ?_
        exact x_iret cx hr hlk dX10_cost_59 ((congrArg (fun z => some (Value.int z)) (show (-1) = P_cost S q a from by rw [P_cost, if_pos hc_q, if_neg (by first | assumption | (rw [ha3_a]; assumption))]; first | (rw [if_neg (fun z => hc_a z.1)]; done) | (rw [if_neg (fun z => by have z2 := z.2; rw [hq3_q, ha3_a, nI_clamp (by omega), nI_clamp (by omega), m_helps, Bool.and_eq_true] at z2; first | exact absurd ((tT_inj hd hj (s6 a1_a (by omega)).1 (s6 a1_a (by omega)).2.1 (s5 q1_q (by omega)).1 (s5 q1_q (by omega)).2.1).mpr (of_decide_eq_true z2.1)) (by assumption) | exact absurd z2.2 (by simp [*]))]))).trans hvv)
    · skip
      refine lv_aload_n hx hb dX10_cost_17 rfl (lv_at hl 0 rfl) ?_
      refine x_get (v := .ref (lo (tT (qt S q1_q)))) cx hk hw (hqq_q.1) f_RX10_99_5 rfl dX10_cost_18 ?_
      refine x_rdV (av := []) (rest := []) cx hk hw (htq_q.1) cv_RX10_65_8 (c_t_cpages (tT (qt S q1_q)) (sT S (qt S q1_q)) htq_q hTq_q) hl.1 rfl rfl (Nat.le_of_ble_eq_true rfl) ⟨by decide, by decide⟩ ⟨Nat.zero_le _, Nat.zero_le _⟩ dX10_cost_21 ?_
      exact x_iret cx hr hlk dX10_cost_24 ((congrArg (fun z => some (Value.int z)) (show nI (s_up ((sT S (qt S q1_q)).1 5) ((sT S (qt S q1_q)).1 2)) = P_cost S q a from by rw [P_cost, if_pos hc_q, if_pos (by assumption), hq3_q, nI_clamp (by omega)]; rfl)).trans hvv)
  · skip
    rw [d_qn_0 hc_q]
    refine lv_astore_nN (lv' := [(3, .null), (0, .ref (lo (0))), (1, .int (q)), (2, .int (a))]) hx hb dX10_cost_5 rfl hl (by decide) rfl (fun ls hl => ?_)
    refine lv_aload_nN hx hb dX10_cost_6 rfl (lv_at hl 0 rfl) ?_
    refine lv_ifnonnullN hx hb dX10_cost_7 ?_
    refine lv_iconst (v := (-1)) hx hb dX10_cost_10 rfl ?_
    exact x_iret cx hr hlk dX10_cost_11 ((congrArg (fun z => some (Value.int z)) (show (-1) = P_cost S q a from by simp [P_cost, *])).trans hvv)
