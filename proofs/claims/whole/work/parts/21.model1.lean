set_option maxHeartbeats 4000000 in
set_option maxRecDepth 100000 in
theorem m_lies {l : Launch} {G : x_G} {lo : x_L} {co : x_C} (n a b : Int32) : x_Rd l G lo co yX11_lies cX11_lies 3 (some .boolean) 1 [.int (n), .int (a), .int (b)] (some (.int (bI (s_btw n a b)))) := by
  refine x_enter RX11 rfl (by decide) (Nat.le_of_ble_eq_true rfl) ?_
  intro pp ee ss mm bb mt cd ls cx hk hw hr hlk hl
  have hl : lv_has ls 3 [(0, .int (n)), (1, .int (a)), (2, .int (b))] := hl
  generalize hav : ([.int (n), .int (a), .int (b)] : List Value).toArray = av at cx ⊢
  generalize hvv : (some (.int (bI (s_btw n a b))) : Option Value) = vv
  have hx := cx.1
  have hb := cx.2.1
  have hown := cx.2.2.2.1
  have hts := cx.2.2.2.2
  refine lv_iload_n hx hb dX11_lies_0 rfl (lv_at hl 0 rfl) ?_
  refine lv_iload_n hx hb dX11_lies_1 rfl (lv_at hl 1 rfl) ?_
  refine lv_icmp_lt (tgt := 14) hx hb dX11_lies_2 (by decide) (fun h2_1 => ?_) (fun h2_1 => ?_)
  · skip
    refine lv_iconst (v := nI 0) hx hb dX11_lies_14 rfl ?_
    exact x_zretF (b := s_btw n a b) cx hr hlk dX11_lies_15 (by first | rfl | (simp [s_btw, *]; done) | (simp_all [s_btw]; done) | (simp [s_btw, *]; omega) | grind [s_btw]) hvv
  · skip
    refine lv_iload_n hx hb dX11_lies_5 rfl (lv_at hl 0 rfl) ?_
    refine lv_iload_n hx hb dX11_lies_6 rfl (lv_at hl 2 rfl) ?_
    refine lv_icmp_gt (tgt := 14) hx hb dX11_lies_7 (by decide) (fun h7_2 => ?_) (fun h7_2 => ?_)
    · skip
      refine lv_iconst (v := nI 0) hx hb dX11_lies_14 rfl ?_
      exact x_zretF (b := s_btw n a b) cx hr hlk dX11_lies_15 (by first | rfl | (simp [s_btw, *]; done) | (simp_all [s_btw]; done) | (simp [s_btw, *]; omega) | grind [s_btw]) hvv
    · skip
      refine lv_iconst (v := nI 1) hx hb dX11_lies_10 rfl ?_
      refine lv_goto (tgt := 15) hx hb dX11_lies_11 (by decide) ?_
      exact x_zretT (b := s_btw n a b) cx hr hlk dX11_lies_15 (by first | rfl | (simp [s_btw, *]; done) | (simp_all [s_btw]; done) | (simp [s_btw, *]; omega) | grind [s_btw]) hvv
set_option maxHeartbeats 4000000 in
set_option maxRecDepth 100000 in
theorem m_up {l : Launch} {G : x_G} {lo : x_L} {co : x_C} (n d : Nat) (hn : n < 2 ^ 30) (hd : d < 2 ^ 30) (hd0 : 0 < d) : x_Rd l G lo co yX11_up cX11_up 2 (some .int) 1 [.int (nI n), .int (nI d)] (some (.int (nI (s_up n d)))) := by
  refine x_enter RX11 rfl (by decide) (Nat.le_of_ble_eq_true rfl) ?_
  intro pp ee ss mm bb mt cd ls cx hk hw hr hlk hl
  have hl : lv_has ls 2 [(0, .int (nI n)), (1, .int (nI d))] := hl
  generalize hav : ([.int (nI n), .int (nI d)] : List Value).toArray = av at cx ⊢
  generalize hvv : (some (.int (nI (s_up n d))) : Option Value) = vv
  have hx := cx.1
  have hb := cx.2.1
  have hown := cx.2.2.2.1
  have hts := cx.2.2.2.2
  refine lv_iload_n hx hb dX11_up_0 rfl (lv_at hl 0 rfl) ?_
  refine lv_iload_n hx hb dX11_up_1 rfl (lv_at hl 1 rfl) ?_
  refine x_iaddN cx dX11_up_2 ?_
  refine lv_iconst (v := nI 1) hx hb dX11_up_3 rfl ?_
  refine x_isubN cx (by omega) dX11_up_4 ?_
  refine lv_iload_n hx hb dX11_up_5 rfl (lv_at hl 1 rfl) ?_
  refine x_idivN cx (by omega) dX11_up_6 ?_
  exact x_iret cx hr hlk dX11_up_7 ((congrArg (fun z => some (Value.int (nI z))) (show ((n + d) - 1) / d = s_up n d from by rfl)).trans hvv)
set_option maxHeartbeats 4000000 in
set_option maxRecDepth 100000 in
theorem m_isIn {l : Launch} {G : x_G} {lo : x_L} {co : x_C} (b n : Nat) (hn : n < 32) (hb_ : b < 2 ^ 31) : x_Rd l G lo co yX11_isIn cX11_isIn 2 (some .boolean) 1 [.int (nI b), .int (nI n)] (some (.int (bI (b.testBit n)))) := by
  refine x_enter RX11 rfl (by decide) (Nat.le_of_ble_eq_true rfl) ?_
  intro pp ee ss mm bb mt cd ls cx hk hw hr hlk hl
  have hl : lv_has ls 2 [(0, .int (nI b)), (1, .int (nI n))] := hl
  generalize hav : ([.int (nI b), .int (nI n)] : List Value).toArray = av at cx ⊢
  generalize hvv : (some (.int (bI (b.testBit n))) : Option Value) = vv
  have hx := cx.1
  have hb := cx.2.1
  have hown := cx.2.2.2.1
  have hts := cx.2.2.2.2
  refine lv_iload_n hx hb dX11_isIn_0 rfl (lv_at hl 0 rfl) ?_
  refine lv_iload_n hx hb dX11_isIn_1 rfl (lv_at hl 1 rfl) ?_
  refine lv_ishr hx hb dX11_isIn_2 ?_
  refine lv_iconst (v := nI 1) hx hb dX11_isIn_3 rfl ?_
  refine lv_iand hx hb dX11_isIn_4 ?_
  refine lv_iconst (v := nI 1) hx hb dX11_isIn_5 rfl ?_
  refine lv_icmp_ne (tgt := 13) hx hb dX11_isIn_6 (by decide) (fun h6_1 => ?_) (fun h6_1 => ?_)
  · skip
    refine lv_iconst (v := nI 0) hx hb dX11_isIn_13 rfl ?_
    exact x_zretF (b := b.testBit n) cx hr hlk dX11_isIn_14 (by first | exact (nI_shb hn hb_).mp (by assumption) | (rw [← Bool.not_eq_true, ← nI_shb hn hb_]; assumption)) hvv
  · skip
    refine lv_iconst (v := nI 1) hx hb dX11_isIn_9 rfl ?_
    refine lv_goto (tgt := 14) hx hb dX11_isIn_10 (by decide) ?_
    exact x_zretT (b := b.testBit n) cx hr hlk dX11_isIn_14 (by first | exact (nI_shb hn hb_).mp (by assumption) | (rw [← Bool.not_eq_true, ← nI_shb hn hb_]; assumption)) hvv
set_option maxHeartbeats 4000000 in
set_option maxRecDepth 100000 in
theorem m_size {l : Launch} {G : x_G} {lo : x_L} {co : x_C} (b : Nat) (hb_ : b < 2 ^ 31) : x_Rd l G lo co yX11_size cX11_size 3 (some .int) 2 [.int (nI b)] (some (.int (nI (pop b)))) := by
  refine x_enter RX11 rfl (by decide) (Nat.le_of_ble_eq_true rfl) ?_
  intro pp ee ss mm bb mt cd ls cx hk hw hr hlk hl
  have hl : lv_has ls 3 [(0, .int (nI b))] := hl
  generalize hav : ([.int (nI b)] : List Value).toArray = av at cx ⊢
  generalize hvv : (some (.int (nI (pop b))) : Option Value) = vv
  have hx := cx.1
  have hb := cx.2.1
  have hown := cx.2.2.2.1
  have hts := cx.2.2.2.2
  refine lv_iconst (v := nI 0) hx hb dX11_size_0 rfl ?_
  refine lv_istore_n (lv' := [(1, .int (nI 0)), (0, .int (nI b))]) hx hb dX11_size_1 rfl hl (by decide) rfl (fun ls hl => ?_)
  refine lv_iconst (v := nI 0) hx hb dX11_size_2 rfl ?_
  refine lv_istore_n (lv' := [(2, .int (nI 0)), (1, .int (nI 0)), (0, .int (nI b))]) hx hb dX11_size_3 rfl hl (by decide) rfl (fun ls hl => ?_)
  have L4_1 : ∀ (n_ : Nat) (f : Nat) (k : Nat), (k ≤ 12) → (f = cntN k (fun k => b.testBit k)) → 12 - k < n_ → ∀ (ls : Array Slot), lv_has ls 3 [(2, .int (nI k)), (1, .int (nI f)), (0, .int (nI b))] → x_w l 2 pp ee ss mm av bb mt cd vv 4 ls [] := by
    intro n_
    induction n_ with
    | zero => intro f k hv hf hm_ ls hl; exact absurd hm_ (Nat.not_lt_zero _)
    | succ n_ ih4_1 =>
      intro f k hv hf hm_ ls hl
      refine lv_iload_n hx hb dX11_size_4 rfl (lv_at hl 0 rfl) ?_
      refine lv_bipush (v := nI 12) hx hb dX11_size_5 rfl ?_
      refine x_icmp_ge (tgt := 32) cx dX11_size_7 (by decide) (by omega) (fun h7_2 => ?_) (fun h7_2 => ?_)
      · skip
        refine lv_iload_n hx hb dX11_size_32 rfl (lv_at hl 1 rfl) ?_
        exact x_iret cx hr hlk dX11_size_33 ((congrArg (fun z => some (Value.int (nI z))) (show f = pop b from by rw [pop, hf, show 12 = k by omega])).trans hvv)
      · skip
        refine lv_iload_n hx hb dX11_size_10 rfl (lv_at hl 1 rfl) ?_
        refine lv_iload_n hx hb dX11_size_11 rfl (lv_at hl 2 rfl) ?_
        refine lv_iload_n hx hb dX11_size_12 rfl (lv_at hl 0 rfl) ?_
        refine x_rdS (av := [.int (nI b), .int (nI k)]) (rest := [.int (nI f)]) cx hk hw cs_RX11_97 (m_isIn b k (by omega) (by omega)) hl.1 rfl rfl (Nat.le_of_ble_eq_true rfl) ⟨by decide, by decide⟩ ⟨Nat.zero_le _, Nat.zero_le _⟩ dX11_size_13 ?_
        have J24_3 : ∀ (y3_s0 : Nat) (ey3_s0 : y3_s0 = if (b.testBit k) = true then 1 else 0) (ls : Array Slot), lv_has ls 3 [(2, .int (nI k)), (1, .int (nI f)), (0, .int (nI b))] → x_w l 2 pp ee ss mm av bb mt cd vv 24 ls [.int (nI y3_s0), .int (nI f)] := by
          intro y3_s0 ey3_s0 ls hl
          have dy3_s0 : ((b.testBit k) = true ∧ (y3_s0 = 1)) ∨ (¬ ((b.testBit k) = true) ∧ (y3_s0 = 0)) := by rw [ey3_s0]; repeat' (first | (exact rfl) | (split <;> first | (refine Or.inl ⟨by assumption, ?_⟩) | (refine Or.inr ⟨by assumption, ?_⟩)))
          refine x_iaddN cx dX11_size_24 ?_
          refine lv_istore_n (lv' := [(1, .int (nI (f + y3_s0))), (2, .int (nI k)), (0, .int (nI b))]) hx hb dX11_size_25 rfl hl (by decide) rfl (fun ls hl => ?_)
          refine lv_iinc (v := nI (k + 1)) (lv' := [(2, .int (nI (k + 1))), (1, .int (nI (f + y3_s0))), (0, .int (nI b))]) hx hb dX11_size_26 hl (k := 1) rfl (nI_add _ 1) (by decide) rfl (fun ls hl => ?_)
          refine lv_goto (tgt := 4) hx hb dX11_size_29 (by decide) ?_
          exact ih4_1 (f + y3_s0) (k + 1) (by omega) (by rw [cntN, ← hf]; simp only [*]) (by omega) _ (lv_sub hl [0, 1, 2] rfl)
        refine x_if_eq (tgt := 23) cx dX11_size_16 (by decide) (fun h16_4 => ?_) (fun h16_4 => ?_)
        · skip
          refine lv_iconst (v := nI 0) hx hb dX11_size_23 rfl ?_
          exact J24_3 0 (by rw [if_neg (fun q => Bool.noConfusion (h16_4.symm.trans q))]) _ (lv_sub hl [0, 1, 2] rfl)
        · skip
          refine lv_iconst (v := nI 1) hx hb dX11_size_19 rfl ?_
          refine lv_goto (tgt := 24) hx hb dX11_size_20 (by decide) ?_
          exact J24_3 1 (by rw [if_pos h16_4]) _ (lv_sub hl [0, 1, 2] rfl)
  exact L4_1 (_ + 1) 0 0 (by omega) (by rfl) (Nat.lt_succ_self _) _ (lv_sub hl [0, 1, 2] rfl)
set_option maxHeartbeats 4000000 in
set_option maxRecDepth 100000 in
theorem m_isTab {l : Launch} {G : x_G} {lo : x_L} {co : x_C} (S : St) (m : Nat → Nat → Int32) (hm : isM G lo co S m) (hS : Sok S) (t : Int32) : x_Rd l G lo co yX11_isTable cX11_isTable 2 (some .boolean) 2 [.ref (lo (0)), .int (t)] (some (.int (bI (m_isT S t)))) := by
  refine x_enter RX11 rfl (by decide) (Nat.le_of_ble_eq_true rfl) ?_
  intro pp ee ss mm bb mt cd ls cx hk hw hr hlk hl
  have hl : lv_has ls 2 [(0, .ref (lo (0))), (1, .int (t))] := hl
  generalize hav : ([.ref (lo (0)), .int (t)] : List Value).toArray = av at cx ⊢
  generalize hvv : (some (.int (bI (m_isT S t))) : Option Value) = vv
  have hx := cx.1
  have hb := cx.2.1
  have hown := cx.2.2.2.1
  have hts := cx.2.2.2.2
  obtain ⟨s1, s2, s3, s4, s5, s6⟩ := id hS
  have hbt : s_btw t (nI 0) (nI 3) = x_in 4 t := s_btw_pos (n := 4) (by decide) (by decide)
  refine lv_iload_n hx hb dX11_isTable_0 rfl (lv_at hl 1 rfl) ?_
  refine lv_iconst (v := nI 0) hx hb dX11_isTable_1 rfl ?_
  refine lv_iconst (v := nI 3) hx hb dX11_isTable_2 rfl ?_
  refine x_rdS (av := [.int (t), .int (nI 0), .int (nI 3)]) (rest := []) cx hk hw cs_RX11_89 (m_lies t (nI 0) (nI 3)) hl.1 rfl rfl (Nat.le_of_ble_eq_true rfl) ⟨by decide, by decide⟩ ⟨Nat.zero_le _, Nat.zero_le _⟩ dX11_isTable_3 ?_
  refine x_if_eq (tgt := 22) cx dX11_isTable_6 (by decide) (fun h6_1 => ?_) (fun h6_1 => ?_)
  · skip
    refine lv_iconst (v := nI 0) hx hb dX11_isTable_22 rfl ?_
    exact x_zretF (b := m_isT S t) cx hr hlk dX11_isTable_23 (by first | (rw [ht3, m_isT_nI (by omega)]; simp; omega) | (rw [m_isT, ← hbt]; simp_all)) hvv
  · skip
    obtain ⟨t1, ht1, ht3⟩ := x_in_ex (by decide) (hbt.symm.trans (by assumption))
    rw [ht3] at hl
    refine lv_aload_n hx hb dX11_isTable_9 rfl (lv_at hl 0 rfl) ?_
    refine x_get cx hk hw (hm.1) f_RX11_7_10 rfl dX11_isTable_10 ?_
    refine lv_iload_n hx hb dX11_isTable_13 rfl (lv_at hl 1 rfl) ?_
    refine x_ialdN cx hk hw (hm.2 1 _ rfl) (by omega) (by decide) dX11_isTable_14 ?_
    have hc4 : (sT S t1).1 1 ≤ 4 := (Nat.eq_zero_or_pos ((sT S t1).1 1)).elim (fun z => by omega) (fun z => ((s1 t1 ht1).1 z).2.1)
    refine x_ifN_le (tgt := 22) cx dX11_isTable_15 (by decide) (by omega) (fun h15_2 => ?_) (fun h15_2 => ?_)
    · skip
      refine lv_iconst (v := nI 0) hx hb dX11_isTable_22 rfl ?_
      exact x_zretF (b := m_isT S t) cx hr hlk dX11_isTable_23 (by first | (rw [ht3, m_isT_nI (by omega)]; simp; omega) | (rw [m_isT, ← hbt]; simp_all)) hvv
    · skip
      refine lv_iconst (v := nI 1) hx hb dX11_isTable_18 rfl ?_
      refine lv_goto (tgt := 23) hx hb dX11_isTable_19 (by decide) ?_
      exact x_zretT (b := m_isT S t) cx hr hlk dX11_isTable_23 (by first | (rw [ht3, m_isT_nI (by omega)]; simp; omega) | (rw [m_isT, ← hbt]; simp_all)) hvv
set_option maxHeartbeats 4000000 in
set_option maxRecDepth 100000 in
theorem m_isCol {l : Launch} {G : x_G} {lo : x_L} {co : x_C} (S : St) (m : Nat → Nat → Int32) (hm : isM G lo co S m) (hS : Sok S) (t c : Int32) : x_Rd l G lo co yX11_isColumn cX11_isColumn 3 (some .boolean) 3 [.ref (lo (0)), .int (t), .int (c)] (some (.int (bI (m_isC S t c)))) := by
  refine x_enter RX11 rfl (by decide) (Nat.le_of_ble_eq_true rfl) ?_
  intro pp ee ss mm bb mt cd ls cx hk hw hr hlk hl
  have hl : lv_has ls 3 [(0, .ref (lo (0))), (1, .int (t)), (2, .int (c))] := hl
  generalize hav : ([.ref (lo (0)), .int (t), .int (c)] : List Value).toArray = av at cx ⊢
  generalize hvv : (some (.int (bI (m_isC S t c))) : Option Value) = vv
  have hx := cx.1
  have hb := cx.2.1
  have hown := cx.2.2.2.1
  have hts := cx.2.2.2.2
  obtain ⟨s1, s2, s3, s4, s5, s6⟩ := id hS
  refine lv_aload_n hx hb dX11_isColumn_0 rfl (lv_at hl 0 rfl) ?_
  refine lv_iload_n hx hb dX11_isColumn_1 rfl (lv_at hl 1 rfl) ?_
  refine x_rdV (av := [.int (t)]) (rest := []) cx hk hw (hm.1) cv_RX11_93_10 (m_isTab S m hm hS t) hl.1 rfl rfl (Nat.le_of_ble_eq_true rfl) ⟨by decide, by decide⟩ ⟨Nat.zero_le _, Nat.zero_le _⟩ dX11_isColumn_2 ?_
  refine x_if_eq (tgt := 28) cx dX11_isColumn_5 (by decide) (fun h5_1 => ?_) (fun h5_1 => ?_)
  · skip
    refine lv_iconst (v := nI 0) hx hb dX11_isColumn_28 rfl ?_
    exact x_zretF (b := m_isC S t c) cx hr hlk dX11_isColumn_29 (by first | (rw [m_isC, (by assumption : m_isT S t = true), ht3, nI_clamp (by omega), t_has_xin, Bool.true_and]; assumption) | (rw [m_isC]; simp_all; done)) hvv
  · skip
    obtain ⟨t1, ht1, ht2, ht3⟩ := m_isT_ex (by assumption)
    rw [ht3] at hl
    have hc4 := ((s1 t1 ht1).1 ht2).2.1
    refine lv_iload_n hx hb dX11_isColumn_8 rfl (lv_at hl 2 rfl) ?_
    refine lv_iconst (v := nI 0) hx hb dX11_isColumn_9 rfl ?_
    refine lv_aload_n hx hb dX11_isColumn_10 rfl (lv_at hl 0 rfl) ?_
    refine x_get cx hk hw (hm.1) f_RX11_7_10 rfl dX11_isColumn_11 ?_
    refine lv_iload_n hx hb dX11_isColumn_14 rfl (lv_at hl 1 rfl) ?_
    refine x_ialdN cx hk hw (hm.2 1 _ rfl) (by omega) (by decide) dX11_isColumn_15 ?_
    refine lv_iconst (v := nI 1) hx hb dX11_isColumn_16 rfl ?_
    refine x_isubN cx (by omega) dX11_isColumn_17 ?_
    refine x_rdS (av := [.int (c), .int (nI 0), .int (nI (((sT S t1).1 1) - 1))]) (rest := []) cx hk hw cs_RX11_89 (m_lies c (nI 0) (nI (((sT S t1).1 1) - 1))) hl.1 rfl rfl (Nat.le_of_ble_eq_true rfl) ⟨by decide, by decide⟩ ⟨Nat.zero_le _, Nat.zero_le _⟩ dX11_isColumn_18 ?_
    rw [s_btw_pos (by omega) (by omega)]
    refine x_if_eq (tgt := 28) cx dX11_isColumn_21 (by decide) (fun h21_2 => ?_) (fun h21_2 => ?_)
    · skip
      refine lv_iconst (v := nI 0) hx hb dX11_isColumn_28 rfl ?_
      exact x_zretF (b := m_isC S t c) cx hr hlk dX11_isColumn_29 (by first | (rw [m_isC, (by assumption : m_isT S t = true), ht3, nI_clamp (by omega), t_has_xin, Bool.true_and]; assumption) | (rw [m_isC]; simp_all; done)) hvv
    · skip
      refine lv_iconst (v := nI 1) hx hb dX11_isColumn_24 rfl ?_
      refine lv_goto (tgt := 29) hx hb dX11_isColumn_25 (by decide) ?_
      exact x_zretT (b := m_isC S t c) cx hr hlk dX11_isColumn_29 (by first | (rw [m_isC, (by assumption : m_isT S t = true), ht3, nI_clamp (by omega), t_has_xin, Bool.true_and]; assumption) | (rw [m_isC]; simp_all; done)) hvv
set_option maxHeartbeats 4000000 in
set_option maxRecDepth 100000 in
theorem m_isQ {l : Launch} {G : x_G} {lo : x_L} {co : x_C} (S : St) (m : Nat → Nat → Int32) (hm : isM G lo co S m) (hS : Sok S) (q : Int32) : x_Rd l G lo co yX11_isQuestion cX11_isQuestion 2 (some .boolean) 2 [.ref (lo (0)), .int (q)] (some (.int (bI (x_in (sn S 0) q)))) := by
  refine x_enter RX11 rfl (by decide) (Nat.le_of_ble_eq_true rfl) ?_
  intro pp ee ss mm bb mt cd ls cx hk hw hr hlk hl
  have hl : lv_has ls 2 [(0, .ref (lo (0))), (1, .int (q))] := hl
  generalize hav : ([.ref (lo (0)), .int (q)] : List Value).toArray = av at cx ⊢
  generalize hvv : (some (.int (bI (x_in (sn S 0) q))) : Option Value) = vv
  have hx := cx.1
  have hb := cx.2.1
  have hown := cx.2.2.2.1
  have hts := cx.2.2.2.2
  obtain ⟨s1, s2, s3, s4, s5, s6⟩ := id hS
  refine lv_iload_n hx hb dX11_isQuestion_0 rfl (lv_at hl 1 rfl) ?_
  refine lv_iconst (v := nI 0) hx hb dX11_isQuestion_1 rfl ?_
  refine lv_aload_n hx hb dX11_isQuestion_2 rfl (lv_at hl 0 rfl) ?_
  refine x_get cx hk hw (hm.1) f_RX11_116_10 rfl dX11_isQuestion_3 ?_
  refine lv_iconst (v := nI 1) hx hb dX11_isQuestion_6 rfl ?_
  refine lv_isub hx hb dX11_isQuestion_7 ?_
  refine x_rdS (av := [.int (q), .int (nI 0), .int ((nI (sn S 0)) - (nI 1))]) (rest := []) cx hk hw cs_RX11_89 (m_lies q (nI 0) ((nI (sn S 0)) - (nI 1))) hl.1 rfl rfl (Nat.le_of_ble_eq_true rfl) ⟨by decide, by decide⟩ ⟨Nat.zero_le _, Nat.zero_le _⟩ dX11_isQuestion_8 ?_
  exact x_zretB (b := x_in (sn S 0) q) cx hr hlk dX11_isQuestion_11 (by exact s_btw_sub (by omega)) hvv
set_option maxHeartbeats 4000000 in
set_option maxRecDepth 100000 in
theorem m_isA {l : Launch} {G : x_G} {lo : x_L} {co : x_C} (S : St) (m : Nat → Nat → Int32) (hm : isM G lo co S m) (hS : Sok S) (a : Int32) : x_Rd l G lo co yX11_isAid cX11_isAid 2 (some .boolean) 2 [.ref (lo (0)), .int (a)] (some (.int (bI (x_in (sn S 1) a)))) := by
  refine x_enter RX11 rfl (by decide) (Nat.le_of_ble_eq_true rfl) ?_
  intro pp ee ss mm bb mt cd ls cx hk hw hr hlk hl
  have hl : lv_has ls 2 [(0, .ref (lo (0))), (1, .int (a))] := hl
  generalize hav : ([.ref (lo (0)), .int (a)] : List Value).toArray = av at cx ⊢
  generalize hvv : (some (.int (bI (x_in (sn S 1) a))) : Option Value) = vv
  have hx := cx.1
  have hb := cx.2.1
  have hown := cx.2.2.2.1
  have hts := cx.2.2.2.2
  obtain ⟨s1, s2, s3, s4, s5, s6⟩ := id hS
  refine lv_iload_n hx hb dX11_isAid_0 rfl (lv_at hl 1 rfl) ?_
  refine lv_iconst (v := nI 0) hx hb dX11_isAid_1 rfl ?_
  refine lv_aload_n hx hb dX11_isAid_2 rfl (lv_at hl 0 rfl) ?_
  refine x_get cx hk hw (hm.1) f_RX11_123_10 rfl dX11_isAid_3 ?_
  refine lv_iconst (v := nI 1) hx hb dX11_isAid_6 rfl ?_
  refine lv_isub hx hb dX11_isAid_7 ?_
  refine x_rdS (av := [.int (a), .int (nI 0), .int ((nI (sn S 1)) - (nI 1))]) (rest := []) cx hk hw cs_RX11_89 (m_lies a (nI 0) ((nI (sn S 1)) - (nI 1))) hl.1 rfl rfl (Nat.le_of_ble_eq_true rfl) ⟨by decide, by decide⟩ ⟨Nat.zero_le _, Nat.zero_le _⟩ dX11_isAid_8 ?_
  exact x_zretB (b := x_in (sn S 1) a) cx hr hlk dX11_isAid_11 (by exact s_btw_sub (by omega)) hvv
set_option maxHeartbeats 4000000 in
set_option maxRecDepth 100000 in
theorem m_at {l : Launch} {G : x_G} {lo : x_L} {co : x_C} (S : St) (m : Nat → Nat → Int32) (hm : isM G lo co S m) (hS : Sok S) (t r c : Nat) (ht_ : t < 4) (ht2 : 0 < (sT S t).1 1) (hr_ : r < (sT S t).1 3) (hc_ : c < (sT S t).1 1) : x_Rd l G lo co yX11_at cX11_at 4 (some .int) 1 [.ref (lo (0)), .int (nI t), .int (nI r), .int (nI c)] (some (.int (nI (t_v (sT S t) r c)))) := by
  refine x_enter RX11 rfl (by decide) (Nat.le_of_ble_eq_true rfl) ?_
  intro pp ee ss mm bb mt cd ls cx hk hw hr hlk hl
  have hl : lv_has ls 4 [(0, .ref (lo (0))), (1, .int (nI t)), (2, .int (nI r)), (3, .int (nI c))] := hl
  generalize hav : ([.ref (lo (0)), .int (nI t), .int (nI r), .int (nI c)] : List Value).toArray = av at cx ⊢
  generalize hvv : (some (.int (nI (t_v (sT S t) r c))) : Option Value) = vv
  have hx := cx.1
  have hb := cx.2.1
  have hown := cx.2.2.2.1
  have hts := cx.2.2.2.2
  obtain ⟨s1, s2, s3, s4, s5, s6⟩ := id hS
  have hT := (s1 t ht_).1 ht2
  obtain ⟨k1, k2, k3, k4, k5, k6, k7, k8, k9, k0⟩ := id hT
  refine lv_aload_n hx hb dX11_at_0 rfl (lv_at hl 0 rfl) ?_
  refine x_get cx hk hw (hm.1) f_RX11_19_10 rfl dX11_at_1 ?_
  refine lv_sipush (v := nI 240) hx hb dX11_at_4 rfl ?_
  refine lv_iload_n hx hb dX11_at_7 rfl (lv_at hl 1 rfl) ?_
  refine x_imulN cx dX11_at_8 ?_
  refine lv_iconst (v := nI 4) hx hb dX11_at_9 rfl ?_
  refine lv_iload_n hx hb dX11_at_10 rfl (lv_at hl 2 rfl) ?_
  refine x_imulN cx dX11_at_11 ?_
  refine x_iaddN cx dX11_at_12 ?_
  refine lv_iload_n hx hb dX11_at_13 rfl (lv_at hl 3 rfl) ?_
  refine x_iaddN cx dX11_at_14 ?_
  refine x_ialdN cx hk hw (hm.2 4 _ rfl) (by omega) (by decide) dX11_at_15 ?_
  exact x_iret cx hr hlk dX11_at_16 ((congrArg (fun z => some (Value.int (nI z))) (show (sT S ((((240 * t) + (4 * r)) + c) / 240)).2 0 ((((240 * t) + (4 * r)) + c) % 240) = t_v (sT S t) r c from by rw [t_v, if_pos ⟨hr_, hc_⟩, show (240 * t) + (4 * r) + c = 240 * t + (r * 4 + c) by omega, (dm240 (t := t) (c := r * 4 + c) (by omega)).1, (dm240 (t := t) (c := r * 4 + c) (by omega)).2])).trans hvv)
set_option maxHeartbeats 4000000 in
set_option maxRecDepth 100000 in
theorem m_pages {l : Launch} {G : x_G} {lo : x_L} {co : x_C} (S : St) (m : Nat → Nat → Int32) (hm : isM G lo co S m) (hS : Sok S) (t : Nat) (ht_ : t < 4) (ht2 : 0 < (sT S t).1 1) : x_Rd l G lo co yX11_pages cX11_pages 2 (some .int) 2 [.ref (lo (0)), .int (nI t)] (some (.int (nI (s_up ((sT S t).1 5) ((sT S t).1 2))))) := by
  refine x_enter RX11 rfl (by decide) (Nat.le_of_ble_eq_true rfl) ?_
  intro pp ee ss mm bb mt cd ls cx hk hw hr hlk hl
  have hl : lv_has ls 2 [(0, .ref (lo (0))), (1, .int (nI t))] := hl
  generalize hav : ([.ref (lo (0)), .int (nI t)] : List Value).toArray = av at cx ⊢
  generalize hvv : (some (.int (nI (s_up ((sT S t).1 5) ((sT S t).1 2)))) : Option Value) = vv
  have hx := cx.1
  have hb := cx.2.1
  have hown := cx.2.2.2.1
  have hts := cx.2.2.2.2
  obtain ⟨s1, s2, s3, s4, s5, s6⟩ := id hS
  have hT := (s1 t ht_).1 ht2
  obtain ⟨k1, k2, k3, k4, k5, k6, k7, k8, k9, k0⟩ := id hT
  refine lv_aload_n hx hb dX11_pages_0 rfl (lv_at hl 0 rfl) ?_
  refine x_get cx hk hw (hm.1) f_RX11_22_10 rfl dX11_pages_1 ?_
  refine lv_iload_n hx hb dX11_pages_4 rfl (lv_at hl 1 rfl) ?_
  refine x_ialdN cx hk hw (hm.2 5 _ rfl) (by omega) (by decide) dX11_pages_5 ?_
  refine lv_aload_n hx hb dX11_pages_6 rfl (lv_at hl 0 rfl) ?_
  refine x_get cx hk hw (hm.1) f_RX11_13_10 rfl dX11_pages_7 ?_
  refine lv_iload_n hx hb dX11_pages_10 rfl (lv_at hl 1 rfl) ?_
  refine x_ialdN cx hk hw (hm.2 2 _ rfl) (by omega) (by decide) dX11_pages_11 ?_
  refine x_rdS (av := [.int (nI ((sT S t).1 5)), .int (nI ((sT S t).1 2))]) (rest := []) cx hk hw cs_RX11_105 (m_up ((sT S t).1 5) ((sT S t).1 2) (by omega) (by omega) (by omega)) hl.1 rfl rfl (Nat.le_of_ble_eq_true rfl) ⟨by decide, by decide⟩ ⟨Nat.zero_le _, Nat.zero_le _⟩ dX11_pages_12 ?_
  exact x_iret cx hr hlk dX11_pages_15 ((congrArg (fun z => some (Value.int (nI z))) (show s_up ((sT S t).1 5) ((sT S t).1 2) = s_up ((sT S t).1 5) ((sT S t).1 2) from by rfl)).trans hvv)
set_option maxHeartbeats 4000000 in
set_option maxRecDepth 100000 in
theorem m_passes {l : Launch} {G : x_G} {lo : x_L} {co : x_C} (S : St) (m : Nat → Nat → Int32) (hm : isM G lo co S m) (hS : Sok S) (x t c f u : Nat) (ht_ : t < 4) (ht2 : 0 < (sT S t).1 1) (hx_ : x ≤ (sT S t).1 5) (hc_ : c < (sT S t).1 1) (hf_ : f ≤ 999) (hu_ : u ≤ 999) : x_Rd l G lo co yX11_passes cX11_passes 9 (some .int) 2 [.ref (lo (0)), .int (nI x), .int (nI t), .int (nI c), .int (nI f), .int (nI u)] (some (.int (nI (t_pass (sT S t) x c f u)))) := by
  refine x_enter RX11 rfl (by decide) (Nat.le_of_ble_eq_true rfl) ?_
  intro pp ee ss mm bb mt cd ls cx hk hw hr hlk hl
  have hl : lv_has ls 9 [(0, .ref (lo (0))), (1, .int (nI x)), (2, .int (nI t)), (3, .int (nI c)), (4, .int (nI f)), (5, .int (nI u))] := hl
  generalize hav : ([.ref (lo (0)), .int (nI x), .int (nI t), .int (nI c), .int (nI f), .int (nI u)] : List Value).toArray = av at cx ⊢
  generalize hvv : (some (.int (nI (t_pass (sT S t) x c f u))) : Option Value) = vv
  have hx := cx.1
  have hb := cx.2.1
  have hown := cx.2.2.2.1
  have hts := cx.2.2.2.2
  obtain ⟨s1, s2, s3, s4, s5, s6⟩ := id hS
  have hT := (s1 t ht_).1 ht2
  obtain ⟨k1, k2, k3, k4, k5, k6, k7, k8, k9, k0⟩ := id hT
  obtain ⟨g1, g2, g3, g4⟩ := k9 c hc_
  refine lv_iconst (v := nI 4) hx hb dX11_passes_0 rfl ?_
  refine lv_iload_n hx hb dX11_passes_1 rfl (lv_at hl 2 rfl) ?_
  refine x_imulN cx dX11_passes_2 ?_
  refine lv_iload_n hx hb dX11_passes_3 rfl (lv_at hl 3 rfl) ?_
  refine x_iaddN cx dX11_passes_4 ?_
  refine lv_istore (lv' := [(6, .int (nI ((4 * t) + c))), (0, .ref (lo (0))), (1, .int (nI x)), (2, .int (nI t)), (3, .int (nI c)), (4, .int (nI f)), (5, .int (nI u))]) hx hb dX11_passes_5 hl (by decide) rfl (fun ls hl => ?_)
  refine lv_iload hx hb dX11_passes_7 (lv_at hl 5 rfl) ?_
  refine lv_aload_n hx hb dX11_passes_9 rfl (lv_at hl 1 rfl) ?_
  refine x_get cx hk hw (hm.1) f_RX11_28_10 rfl dX11_passes_10 ?_
  refine lv_iload hx hb dX11_passes_13 (lv_at hl 0 rfl) ?_
  refine x_ialdE (x := nI ((sT S t).2 2 c)) cx hk hw (hm.2 7 _ rfl) (by omega) (by decide) (by rw [(dm4 (t := t) (c := c) (by omega)).1, (dm4 (t := t) (c := c) (by omega)).2]) dX11_passes_15 ?_
  have J31_1 : ∀ (y1_s0 : Nat) (ey1_s0 : y1_s0 = if f ≤ ((sT S t).2 2 c) then ((sT S t).2 2 c) else f) (ls : Array Slot), lv_has ls 9 [(6, .int (nI ((4 * t) + c))), (0, .ref (lo (0))), (1, .int (nI x)), (2, .int (nI t)), (3, .int (nI c)), (4, .int (nI f)), (5, .int (nI u))] → x_w l 2 pp ee ss mm av bb mt cd vv 31 ls [.int (nI y1_s0)] := by
    intro y1_s0 ey1_s0 ls hl
    have dy1_s0 : (f ≤ ((sT S t).2 2 c) ∧ (y1_s0 = ((sT S t).2 2 c))) ∨ (¬ (f ≤ ((sT S t).2 2 c)) ∧ (y1_s0 = f)) := by rw [ey1_s0]; repeat' (first | (exact rfl) | (split <;> first | (refine Or.inl ⟨by assumption, ?_⟩) | (refine Or.inr ⟨by assumption, ?_⟩)))
    refine lv_istore (lv' := [(7, .int (nI y1_s0)), (6, .int (nI ((4 * t) + c))), (0, .ref (lo (0))), (1, .int (nI x)), (2, .int (nI t)), (3, .int (nI c)), (4, .int (nI f)), (5, .int (nI u))]) hx hb dX11_passes_31 hl (by decide) rfl (fun ls hl => ?_)
    refine lv_iload hx hb dX11_passes_33 (lv_at hl 7 rfl) ?_
    refine lv_aload_n hx hb dX11_passes_35 rfl (lv_at hl 2 rfl) ?_
    refine x_get cx hk hw (hm.1) f_RX11_31_10 rfl dX11_passes_36 ?_
    refine lv_iload hx hb dX11_passes_39 (lv_at hl 1 rfl) ?_
    refine x_ialdE (x := nI ((sT S t).2 3 c)) cx hk hw (hm.2 8 _ rfl) (by omega) (by decide) (by rw [(dm4 (t := t) (c := c) (by omega)).1, (dm4 (t := t) (c := c) (by omega)).2]) dX11_passes_41 ?_
    have J57_2 : ∀ (y2_s0 : Nat) (ey2_s0 : y2_s0 = if ((sT S t).2 3 c) ≤ u then ((sT S t).2 3 c) else u) (ls : Array Slot), lv_has ls 9 [(7, .int (nI y1_s0)), (6, .int (nI ((4 * t) + c))), (0, .ref (lo (0))), (1, .int (nI x)), (2, .int (nI t)), (3, .int (nI c)), (4, .int (nI f)), (5, .int (nI u))] → x_w l 2 pp ee ss mm av bb mt cd vv 57 ls [.int (nI y2_s0)] := by
      intro y2_s0 ey2_s0 ls hl
      have dy2_s0 : (((sT S t).2 3 c) ≤ u ∧ (y2_s0 = ((sT S t).2 3 c))) ∨ (¬ (((sT S t).2 3 c) ≤ u) ∧ (y2_s0 = u)) := by rw [ey2_s0]; repeat' (first | (exact rfl) | (split <;> first | (refine Or.inl ⟨by assumption, ?_⟩) | (refine Or.inr ⟨by assumption, ?_⟩)))
      refine lv_istore (lv' := [(8, .int (nI y2_s0)), (7, .int (nI y1_s0)), (6, .int (nI ((4 * t) + c))), (0, .ref (lo (0))), (1, .int (nI x)), (2, .int (nI t)), (3, .int (nI c)), (4, .int (nI f)), (5, .int (nI u))]) hx hb dX11_passes_57 hl (by decide) rfl (fun ls hl => ?_)
      refine lv_iload_n hx hb dX11_passes_59 rfl (lv_at hl 4 rfl) ?_
      refine x_ifN_eq (tgt := 70) cx dX11_passes_60 (by decide) (by omega) (fun h60_3 => ?_) (fun h60_3 => ?_)
      · skip
        refine lv_iconst (v := nI 0) hx hb dX11_passes_70 rfl ?_
        exact x_iret cx hr hlk dX11_passes_71 ((congrArg (fun z => some (Value.int (nI z))) (show 0 = t_pass (sT S t) x c f u from by rw [t_pass, if_pos (by omega)])).trans hvv)
      · skip
        have g5 := g2 (by omega)
        refine lv_iload hx hb dX11_passes_63 (lv_at hl 1 rfl) ?_
        refine lv_iload hx hb dX11_passes_65 (lv_at hl 0 rfl) ?_
        refine x_icmp_le (tgt := 72) cx dX11_passes_67 (by decide) (by omega) (fun h67_4 => ?_) (fun h67_4 => ?_)
        · skip
          refine lv_iload hx hb dX11_passes_72 (lv_at hl 7 rfl) ?_
          refine lv_iload hx hb dX11_passes_74 (lv_at hl 8 rfl) ?_
          refine x_icmp_ne (tgt := 93) cx dX11_passes_76 (by decide) (by omega) (fun h76_5 => ?_) (fun h76_5 => ?_)
          · skip
            refine lv_iload_n hx hb dX11_passes_93 rfl (lv_at hl 4 rfl) ?_
            refine lv_iload hx hb dX11_passes_94 (lv_at hl 0 rfl) ?_
            refine lv_iload hx hb dX11_passes_96 (lv_at hl 1 rfl) ?_
            refine x_isubN cx (by omega) dX11_passes_98 ?_
            refine lv_iconst (v := nI 1) hx hb dX11_passes_99 rfl ?_
            refine x_iaddN cx dX11_passes_100 ?_
            have hmw : x * ((y2_s0 - y1_s0) + 1) ≤ 60 * 1000 := Nat.mul_le_mul (by omega) (by omega)
            refine x_imulN cx dX11_passes_101 ?_
            refine lv_aload_n hx hb dX11_passes_102 rfl (lv_at hl 3 rfl) ?_
            refine x_get cx hk hw (hm.1) f_RX11_31_10 rfl dX11_passes_103 ?_
            refine lv_iload hx hb dX11_passes_106 (lv_at hl 2 rfl) ?_
            refine x_ialdE (x := nI ((sT S t).2 3 c)) cx hk hw (hm.2 8 _ rfl) (by omega) (by decide) (by rw [(dm4 (t := t) (c := c) (by omega)).1, (dm4 (t := t) (c := c) (by omega)).2]) dX11_passes_108 ?_
            refine lv_aload_n hx hb dX11_passes_109 rfl (lv_at hl 3 rfl) ?_
            refine x_get cx hk hw (hm.1) f_RX11_28_10 rfl dX11_passes_110 ?_
            refine lv_iload hx hb dX11_passes_113 (lv_at hl 2 rfl) ?_
            refine x_ialdE (x := nI ((sT S t).2 2 c)) cx hk hw (hm.2 7 _ rfl) (by omega) (by decide) (by rw [(dm4 (t := t) (c := c) (by omega)).1, (dm4 (t := t) (c := c) (by omega)).2]) dX11_passes_115 ?_
            refine x_isubN cx (by omega) dX11_passes_116 ?_
            refine lv_iconst (v := nI 1) hx hb dX11_passes_117 rfl ?_
            refine x_iaddN cx dX11_passes_118 ?_
            refine x_rdS (av := [.int (nI (x * ((y2_s0 - y1_s0) + 1))), .int (nI ((((sT S t).2 3 c) - ((sT S t).2 2 c)) + 1))]) (rest := []) cx hk hw cs_RX11_105 (m_up (x * ((y2_s0 - y1_s0) + 1)) ((((sT S t).2 3 c) - ((sT S t).2 2 c)) + 1) (by omega) (by omega) (by omega)) hl.1 rfl rfl (Nat.le_of_ble_eq_true rfl) ⟨by decide, by decide⟩ ⟨Nat.zero_le _, Nat.zero_le _⟩ dX11_passes_119 ?_
            exact x_iret cx hr hlk dX11_passes_122 ((congrArg (fun z => some (Value.int (nI z))) (show s_up (x * ((y2_s0 - y1_s0) + 1)) ((((sT S t).2 3 c) - ((sT S t).2 2 c)) + 1) = t_pass (sT S t) x c f u from by first | (rw [t_pass, if_neg (by omega), if_pos (by omega)]) | (rw [t_pass, if_neg (by omega), if_neg (by omega)]; congr 2; omega))).trans hvv)
          · skip
            refine lv_iload_n hx hb dX11_passes_79 rfl (lv_at hl 4 rfl) ?_
            refine lv_aload_n hx hb dX11_passes_80 rfl (lv_at hl 3 rfl) ?_
            refine x_get cx hk hw (hm.1) f_RX11_25_10 rfl dX11_passes_81 ?_
            refine lv_iload hx hb dX11_passes_84 (lv_at hl 2 rfl) ?_
            refine x_ialdE (x := nI ((sT S t).2 1 c)) cx hk hw (hm.2 6 _ rfl) (by omega) (by decide) (by rw [(dm4 (t := t) (c := c) (by omega)).1, (dm4 (t := t) (c := c) (by omega)).2]) dX11_passes_86 ?_
            refine x_rdS (av := [.int (nI x), .int (nI ((sT S t).2 1 c))]) (rest := []) cx hk hw cs_RX11_105 (m_up x ((sT S t).2 1 c) (by omega) (by omega) (by omega)) hl.1 rfl rfl (Nat.le_of_ble_eq_true rfl) ⟨by decide, by decide⟩ ⟨Nat.zero_le _, Nat.zero_le _⟩ dX11_passes_87 ?_
            refine lv_goto (tgt := 122) hx hb dX11_passes_90 (by decide) ?_
            exact x_iret cx hr hlk dX11_passes_122 ((congrArg (fun z => some (Value.int (nI z))) (show s_up x ((sT S t).2 1 c) = t_pass (sT S t) x c f u from by first | (rw [t_pass, if_neg (by omega), if_pos (by omega)]) | (rw [t_pass, if_neg (by omega), if_neg (by omega)]; congr 2; omega))).trans hvv)
        · skip
          refine lv_iconst (v := nI 0) hx hb dX11_passes_70 rfl ?_
          exact x_iret cx hr hlk dX11_passes_71 ((congrArg (fun z => some (Value.int (nI z))) (show 0 = t_pass (sT S t) x c f u from by rw [t_pass, if_pos (by omega)])).trans hvv)
    refine x_icmp_ge (tgt := 50) cx dX11_passes_42 (by decide) (by omega) (fun h42_6 => ?_) (fun h42_6 => ?_)
    · skip
      refine lv_aload_n hx hb dX11_passes_50 rfl (lv_at hl 2 rfl) ?_
      refine x_get cx hk hw (hm.1) f_RX11_31_10 rfl dX11_passes_51 ?_
      refine lv_iload hx hb dX11_passes_54 (lv_at hl 1 rfl) ?_
      refine x_ialdE (x := nI ((sT S t).2 3 c)) cx hk hw (hm.2 8 _ rfl) (by omega) (by decide) (by rw [(dm4 (t := t) (c := c) (by omega)).1, (dm4 (t := t) (c := c) (by omega)).2]) dX11_passes_56 ?_
      exact J57_2 ((sT S t).2 3 c) (by rw [if_pos h42_6]) _ (lv_sub hl [0, 1, 2, 3, 4, 5, 6, 7] rfl)
    · skip
      refine lv_iload hx hb dX11_passes_45 (lv_at hl 7 rfl) ?_
      refine lv_goto (tgt := 57) hx hb dX11_passes_47 (by decide) ?_
      exact J57_2 u (by rw [if_neg h42_6]) _ (lv_sub hl [0, 1, 2, 3, 4, 5, 6, 7] rfl)
  refine x_icmp_le (tgt := 24) cx dX11_passes_16 (by decide) (by omega) (fun h16_7 => ?_) (fun h16_7 => ?_)
  · skip
    refine lv_aload_n hx hb dX11_passes_24 rfl (lv_at hl 1 rfl) ?_
    refine x_get cx hk hw (hm.1) f_RX11_28_10 rfl dX11_passes_25 ?_
    refine lv_iload hx hb dX11_passes_28 (lv_at hl 0 rfl) ?_
    refine x_ialdE (x := nI ((sT S t).2 2 c)) cx hk hw (hm.2 7 _ rfl) (by omega) (by decide) (by rw [(dm4 (t := t) (c := c) (by omega)).1, (dm4 (t := t) (c := c) (by omega)).2]) dX11_passes_30 ?_
    exact J31_1 ((sT S t).2 2 c) (by rw [if_pos h16_7]) _ (lv_sub hl [0, 1, 2, 3, 4, 5, 6] rfl)
  · skip
    refine lv_iload hx hb dX11_passes_19 (lv_at hl 5 rfl) ?_
    refine lv_goto (tgt := 31) hx hb dX11_passes_21 (by decide) ?_
    exact J31_1 f (by rw [if_neg h16_7]) _ (lv_sub hl [0, 1, 2, 3, 4, 5, 6] rfl)
set_option maxHeartbeats 4000000 in
set_option maxRecDepth 100000 in
theorem m_uses {l : Launch} {G : x_G} {lo : x_L} {co : x_C} (S : St) (m : Nat → Nat → Int32) (hm : isM G lo co S m) (hS : Sok S) (hM : Mok S m) (q a : Nat) (hq_ : q < sn S 0) (ha_ : a < sn S 1) (hsame : ao S a = qt S q) : x_Rd l G lo co yX11_uses cX11_uses 5 (some .int) 1 [.ref (lo (0)), .int (nI q), .int (nI a)] (some (.int (nI (a_uses (qQ S q) (aA S a))))) := by
  refine x_enter RX11 rfl (by decide) (Nat.le_of_ble_eq_true rfl) ?_
  intro pp ee ss mm bb mt cd ls cx hk hw hr hlk hl
  have hl : lv_has ls 5 [(0, .ref (lo (0))), (1, .int (nI q)), (2, .int (nI a))] := hl
  generalize hav : ([.ref (lo (0)), .int (nI q), .int (nI a)] : List Value).toArray = av at cx ⊢
  generalize hvv : (some (.int (nI (a_uses (qQ S q) (aA S a)))) : Option Value) = vv
  have hx := cx.1
  have hb := cx.2.1
  have hown := cx.2.2.2.1
  have hts := cx.2.2.2.2
  obtain ⟨s1, s2, s3, s4, s5, s6⟩ := id hS
  obtain ⟨u1, u2, hA⟩ := s6 a ha_
  have hT := (s1 _ u1).1 u2
  obtain ⟨k1, k2, k3, k4, k5, k6, k7, k8, k9, k0⟩ := id hT
  obtain ⟨m1, m2, m3, m4, m5, m6, m7, m8, m9, m10, m11⟩ := id hA
  obtain ⟨v1, v2, hQ⟩ := s5 q hq_
  have hTq := (s1 _ v1).1 v2
  rw [← hsame] at v1 v2 hQ hTq
  obtain ⟨j1, j2, j3, j4, j5, j6⟩ := id hQ
  have h16 := Qok.t16 hT hQ
  have hw16 := Qok.w16 hT hQ
  refine lv_iconst (v := nI 0) hx hb dX11_uses_0 rfl ?_
  refine lv_istore_n (lv' := [(3, .int (nI 0)), (0, .ref (lo (0))), (1, .int (nI q)), (2, .int (nI a))]) hx hb dX11_uses_1 rfl hl (by decide) rfl (fun ls hl => ?_)
  have L2_1 : ∀ (n_ : Nat) (k : Nat), (k ≤ (aA S a).1 1) → (∀ j, j < k → q_like (qQ S q) (a_by (aA S a) j) = true) → (aA S a).1 1 - k < n_ → ∀ (ls : Array Slot), lv_has ls 5 [(3, .int (nI k)), (0, .ref (lo (0))), (1, .int (nI q)), (2, .int (nI a))] → x_w l 1 pp ee ss mm av bb mt cd vv 2 ls [] := by
    intro n_
    induction n_ with
    | zero => intro k hv hall hm_ ls hl; exact absurd hm_ (Nat.not_lt_zero _)
    | succ n_ ih2_1 =>
      intro k hv hall hm_ ls hl
      refine lv_iload_n hx hb dX11_uses_2 rfl (lv_at hl 0 rfl) ?_
      refine lv_aload_n hx hb dX11_uses_3 rfl (lv_at hl 1 rfl) ?_
      refine x_get cx hk hw (hm.1) f_RX11_65_10 rfl dX11_uses_4 ?_
      refine lv_iload_n hx hb dX11_uses_7 rfl (lv_at hl 3 rfl) ?_
      refine x_ialdN cx hk hw (hm.2 22 _ rfl) (by omega) (by decide) dX11_uses_8 ?_
      refine x_icmp_ge (tgt := 65) cx dX11_uses_9 (by decide) (by omega) (fun h9_2 => ?_) (fun h9_2 => ?_)
      · skip
        refine lv_iload_n hx hb dX11_uses_65 rfl (lv_at hl 0 rfl) ?_
        exact x_iret cx hr hlk dX11_uses_66 ((congrArg (fun z => some (Value.int (nI z))) (show k = a_uses (qQ S q) (aA S a) from by exact (mu_none hv m2 hall (Or.inl (by omega))).symm)).trans hvv)
      · skip
        have hbk := m3 k (by omega)
        have ebk : a_by (aA S a) k = (aA S a).2 k + 1 := by rw [a_by, if_pos (by omega)]
        have q6 := j6 ((aA S a).2 k) (by omega)
        refine lv_iconst (v := nI 4) hx hb dX11_uses_12 rfl ?_
        refine lv_iload_n hx hb dX11_uses_13 rfl (lv_at hl 2 rfl) ?_
        refine x_imulN cx dX11_uses_14 ?_
        refine lv_aload_n hx hb dX11_uses_15 rfl (lv_at hl 1 rfl) ?_
        refine x_get cx hk hw (hm.1) f_RX11_68_10 rfl dX11_uses_16 ?_
        refine lv_iconst (v := nI 3) hx hb dX11_uses_19 rfl ?_
        refine lv_iload_n hx hb dX11_uses_20 rfl (lv_at hl 3 rfl) ?_
        refine x_imulN cx dX11_uses_21 ?_
        refine lv_iload_n hx hb dX11_uses_22 rfl (lv_at hl 0 rfl) ?_
        refine x_iaddN cx dX11_uses_23 ?_
        refine x_ialdE (x := nI ((aA S a).2 k)) cx hk hw (hm.2 23 _ rfl) (by omega) (by decide) ((hM a (by omega)).1 k (by omega)) dX11_uses_24 ?_
        refine x_iaddN cx dX11_uses_25 ?_
        refine lv_istore (lv' := [(4, .int (nI ((4 * q) + ((aA S a).2 k)))), (3, .int (nI k)), (0, .ref (lo (0))), (1, .int (nI q)), (2, .int (nI a))]) hx hb dX11_uses_26 hl (by decide) rfl (fun ls hl => ?_)
        refine lv_aload_n hx hb dX11_uses_28 rfl (lv_at hl 2 rfl) ?_
        refine x_get cx hk hw (hm.1) f_RX11_49_10 rfl dX11_uses_29 ?_
        refine lv_iload hx hb dX11_uses_32 (lv_at hl 0 rfl) ?_
        refine x_zaldE (x := bI (((qQ S q).1 2).testBit ((aA S a).2 k))) cx hk hw (hm.2 15 _ rfl) (by omega) (by decide) (by rw [(dm4 (t := q) (c := ((aA S a).2 k)) (by omega)).1, (dm4 (t := q) (c := ((aA S a).2 k)) (by omega)).2]) dX11_uses_34 ?_
        refine x_if_ne (tgt := 40) cx dX11_uses_35 (by decide) (fun h35_3 => ?_) (fun h35_3 => ?_)
        · skip
          refine lv_iinc (v := nI (k + 1)) (lv' := [(3, .int (nI (k + 1))), (4, .int (nI ((4 * q) + ((aA S a).2 k)))), (0, .ref (lo (0))), (1, .int (nI q)), (2, .int (nI a))]) hx hb dX11_uses_40 hl (k := 1) rfl (nI_add _ 1) (by decide) rfl (fun ls hl => ?_)
          refine lv_aload_n hx hb dX11_uses_43 rfl (lv_at hl 2 rfl) ?_
          refine x_get cx hk hw (hm.1) f_RX11_53_10 rfl dX11_uses_44 ?_
          refine lv_iload hx hb dX11_uses_47 (lv_at hl 1 rfl) ?_
          refine x_ialdE (x := nI ((qQ S q).2 0 ((aA S a).2 k))) cx hk hw (hm.2 16 _ rfl) (by omega) (by decide) (by rw [(dm4 (t := q) (c := ((aA S a).2 k)) (by omega)).1, (dm4 (t := q) (c := ((aA S a).2 k)) (by omega)).2]) dX11_uses_49 ?_
          refine lv_aload_n hx hb dX11_uses_50 rfl (lv_at hl 2 rfl) ?_
          refine x_get cx hk hw (hm.1) f_RX11_56_10 rfl dX11_uses_51 ?_
          refine lv_iload hx hb dX11_uses_54 (lv_at hl 1 rfl) ?_
          refine x_ialdE (x := nI ((qQ S q).2 1 ((aA S a).2 k))) cx hk hw (hm.2 17 _ rfl) (by omega) (by decide) (by rw [(dm4 (t := q) (c := ((aA S a).2 k)) (by omega)).1, (dm4 (t := q) (c := ((aA S a).2 k)) (by omega)).2]) dX11_uses_56 ?_
          refine x_icmp_eq (tgt := 62) cx dX11_uses_57 (by decide) (by omega) (fun h57_4 => ?_) (fun h57_4 => ?_)
          · skip
            refine lv_goto (tgt := 2) hx hb dX11_uses_62 (by decide) ?_
            exact ih2_1 (k + 1) (by omega) (by intro j hj; rcases Nat.lt_succ_iff_lt_or_eq.mp hj with w | w; exact hall j w; rw [w, ebk]; simp [q_like, q_t, *]) (by omega) _ (lv_sub hl [0, 2, 3, 4] rfl)
          · skip
            refine lv_iload_n hx hb dX11_uses_60 rfl (lv_at hl 0 rfl) ?_
            exact x_iret cx hr hlk dX11_uses_61 ((congrArg (fun z => some (Value.int (nI z))) (show k + 1 = a_uses (qQ S q) (aA S a) from by exact (mu_one m2 (by omega) hall (by rw [ebk]; simp [q_t, *]) (by rw [ebk]; simp [q_like, *])).symm)).trans hvv)
        · skip
          refine lv_iload_n hx hb dX11_uses_38 rfl (lv_at hl 1 rfl) ?_
          exact x_iret cx hr hlk dX11_uses_39 ((congrArg (fun z => some (Value.int (nI z))) (show k = a_uses (qQ S q) (aA S a) from by exact (mu_none hv m2 hall (Or.inr (by rw [ebk]; simp [q_t, *]))).symm)).trans hvv)
  exact L2_1 (_ + 1) 0 (by omega) (by exact fun j h => absurd h (Nat.not_lt_zero j)) (Nat.lt_succ_self _) _ (lv_sub hl [0, 1, 2, 3] rfl)
set_option maxHeartbeats 4000000 in
set_option maxRecDepth 100000 in
theorem m_own {l : Launch} {G : x_G} {lo : x_L} {co : x_C} (S : St) (m : Nat → Nat → Int32) (hm : isM G lo co S m) (hS : Sok S) (hM : Mok S m) (a : Nat) (ha_ : a < sn S 1) : x_Rd l G lo co yX11_own cX11_own 2 (some .int) 3 [.ref (lo (0)), .int (nI a)] (some (.int (nI (a_rows (sT S (ao S a)) (aA S a))))) := by
  refine x_enter RX11 rfl (by decide) (Nat.le_of_ble_eq_true rfl) ?_
  intro pp ee ss mm bb mt cd ls cx hk hw hr hlk hl
  have hl : lv_has ls 2 [(0, .ref (lo (0))), (1, .int (nI a))] := hl
  generalize hav : ([.ref (lo (0)), .int (nI a)] : List Value).toArray = av at cx ⊢
  generalize hvv : (some (.int (nI (a_rows (sT S (ao S a)) (aA S a)))) : Option Value) = vv
  have hx := cx.1
  have hb := cx.2.1
  have hown := cx.2.2.2.1
  have hts := cx.2.2.2.2
  obtain ⟨s1, s2, s3, s4, s5, s6⟩ := id hS
  obtain ⟨u1, u2, hA⟩ := s6 a ha_
  have hT := (s1 _ u1).1 u2
  obtain ⟨k1, k2, k3, k4, k5, k6, k7, k8, k9, k0⟩ := id hT
  obtain ⟨m1, m2, m3, m4, m5, m6, m7, m8, m9, m10, m11⟩ := id hA
  refine lv_aload_n hx hb dX11_own_0 rfl (lv_at hl 0 rfl) ?_
  refine x_get cx hk hw (hm.1) f_RX11_59_10 rfl dX11_own_1 ?_
  refine lv_iload_n hx hb dX11_own_4 rfl (lv_at hl 1 rfl) ?_
  refine x_ialdN cx hk hw (hm.2 20 _ rfl) (by omega) (by decide) dX11_own_5 ?_
  refine lv_iconst (v := nI 2) hx hb dX11_own_6 rfl ?_
  refine x_icmp_ne (tgt := 52) cx dX11_own_7 (by decide) (by omega) (fun h7_1 => ?_) (fun h7_1 => ?_)
  · skip
    refine lv_aload_n hx hb dX11_own_52 rfl (lv_at hl 0 rfl) ?_
    refine x_get cx hk hw (hm.1) f_RX11_22_10 rfl dX11_own_53 ?_
    refine lv_aload_n hx hb dX11_own_56 rfl (lv_at hl 0 rfl) ?_
    refine x_get cx hk hw (hm.1) f_RX11_62_10 rfl dX11_own_57 ?_
    refine lv_iload_n hx hb dX11_own_60 rfl (lv_at hl 1 rfl) ?_
    refine x_ialdN cx hk hw (hm.2 21 _ rfl) (by omega) (by decide) dX11_own_61 ?_
    refine x_ialdN cx hk hw (hm.2 5 _ rfl) (by omega) (by decide) dX11_own_62 ?_
    exact x_iret cx hr hlk dX11_own_63 ((congrArg (fun z => some (Value.int (nI z))) (show (sT S (ao S a)).1 5 = a_rows (sT S (ao S a)) (aA S a) from by simp [a_rows, *])).trans hvv)
  · skip
    have m6b := m6 (by omega)
    refine lv_aload_n hx hb dX11_own_10 rfl (lv_at hl 0 rfl) ?_
    refine lv_aload_n hx hb dX11_own_11 rfl (lv_at hl 0 rfl) ?_
    refine x_get cx hk hw (hm.1) f_RX11_22_10 rfl dX11_own_12 ?_
    refine lv_aload_n hx hb dX11_own_15 rfl (lv_at hl 0 rfl) ?_
    refine x_get cx hk hw (hm.1) f_RX11_62_10 rfl dX11_own_16 ?_
    refine lv_iload_n hx hb dX11_own_19 rfl (lv_at hl 1 rfl) ?_
    refine x_ialdN cx hk hw (hm.2 21 _ rfl) (by omega) (by decide) dX11_own_20 ?_
    refine x_ialdN cx hk hw (hm.2 5 _ rfl) (by omega) (by decide) dX11_own_21 ?_
    refine lv_aload_n hx hb dX11_own_22 rfl (lv_at hl 0 rfl) ?_
    refine x_get cx hk hw (hm.1) f_RX11_62_10 rfl dX11_own_23 ?_
    refine lv_iload_n hx hb dX11_own_26 rfl (lv_at hl 1 rfl) ?_
    refine x_ialdN cx hk hw (hm.2 21 _ rfl) (by omega) (by decide) dX11_own_27 ?_
    refine lv_aload_n hx hb dX11_own_28 rfl (lv_at hl 0 rfl) ?_
    refine x_get cx hk hw (hm.1) f_RX11_74_10 rfl dX11_own_29 ?_
    refine lv_iload_n hx hb dX11_own_32 rfl (lv_at hl 1 rfl) ?_
    refine x_ialdE (x := nI ((aA S a).1 3)) cx hk hw (hm.2 25 _ rfl) (by omega) (by decide) ((hM a (by omega)).2 (by omega)) dX11_own_33 ?_
    refine lv_aload_n hx hb dX11_own_34 rfl (lv_at hl 0 rfl) ?_
    refine x_get cx hk hw (hm.1) f_RX11_77_10 rfl dX11_own_35 ?_
    refine lv_iload_n hx hb dX11_own_38 rfl (lv_at hl 1 rfl) ?_
    refine x_ialdN cx hk hw (hm.2 26 _ rfl) (by omega) (by decide) dX11_own_39 ?_
    refine lv_aload_n hx hb dX11_own_40 rfl (lv_at hl 0 rfl) ?_
    refine x_get cx hk hw (hm.1) f_RX11_80_10 rfl dX11_own_41 ?_
    refine lv_iload_n hx hb dX11_own_44 rfl (lv_at hl 1 rfl) ?_
    refine x_ialdN cx hk hw (hm.2 27 _ rfl) (by omega) (by decide) dX11_own_45 ?_
    refine x_rdV (av := [.int (nI ((sT S (ao S a)).1 5)), .int (nI (ao S a)), .int (nI ((aA S a).1 3)), .int (nI ((aA S a).1 4)), .int (nI ((aA S a).1 5))]) (rest := []) cx hk hw (hm.1) cv_RX11_146_10 (m_passes S m hm hS ((sT S (ao S a)).1 5) (ao S a) ((aA S a).1 3) ((aA S a).1 4) ((aA S a).1 5) (by first | omega | assumption) (by first | omega | assumption) (by first | omega | assumption) (by first | omega | assumption) (by first | omega | assumption) (by first | omega | assumption)) hl.1 rfl rfl (Nat.le_of_ble_eq_true rfl) ⟨by decide, by decide⟩ ⟨Nat.zero_le _, Nat.zero_le _⟩ dX11_own_46 ?_
    refine lv_goto (tgt := 63) hx hb dX11_own_49 (by decide) ?_
    exact x_iret cx hr hlk dX11_own_63 ((congrArg (fun z => some (Value.int (nI z))) (show t_pass (sT S (ao S a)) ((sT S (ao S a)).1 5) ((aA S a).1 3) ((aA S a).1 4) ((aA S a).1 5) = a_rows (sT S (ao S a)) (aA S a) from by simp [a_rows, *])).trans hvv)
set_option maxHeartbeats 4000000 in
set_option maxRecDepth 100000 in
theorem m_matched {l : Launch} {G : x_G} {lo : x_L} {co : x_C} (S : St) (m : Nat → Nat → Int32) (hm : isM G lo co S m) (hS : Sok S) (hM : Mok S m) (q a : Nat) (hq_ : q < sn S 0) (ha_ : a < sn S 1) (hsame : ao S a = qt S q) : x_Rd l G lo co yX11_matched cX11_matched 7 (some .int) 4 [.ref (lo (0)), .int (nI q), .int (nI a)] (some (.int (nI (a_mat (sT S (ao S a)) (qQ S q) (aA S a))))) := by
  refine x_enter RX11 rfl (by decide) (Nat.le_of_ble_eq_true rfl) ?_
  intro pp ee ss mm bb mt cd ls cx hk hw hr hlk hl
  have hl : lv_has ls 7 [(0, .ref (lo (0))), (1, .int (nI q)), (2, .int (nI a))] := hl
  generalize hav : ([.ref (lo (0)), .int (nI q), .int (nI a)] : List Value).toArray = av at cx ⊢
  generalize hvv : (some (.int (nI (a_mat (sT S (ao S a)) (qQ S q) (aA S a)))) : Option Value) = vv
  have hx := cx.1
  have hb := cx.2.1
  have hown := cx.2.2.2.1
  have hts := cx.2.2.2.2
  obtain ⟨s1, s2, s3, s4, s5, s6⟩ := id hS
  obtain ⟨u1, u2, hA⟩ := s6 a ha_
  have hT := (s1 _ u1).1 u2
  obtain ⟨k1, k2, k3, k4, k5, k6, k7, k8, k9, k0⟩ := id hT
  obtain ⟨m1, m2, m3, m4, m5, m6, m7, m8, m9, m10, m11⟩ := id hA
  obtain ⟨v1, v2, hQ⟩ := s5 q hq_
  have hTq := (s1 _ v1).1 v2
  rw [← hsame] at v1 v2 hQ hTq
  obtain ⟨j1, j2, j3, j4, j5, j6⟩ := id hQ
  have h16 := Qok.t16 hT hQ
  have hw16 := Qok.w16 hT hQ
  have hu := a_uses_le (qQ S q) (aA S a)
  have hum := mu_many (Q := qQ S q) (A := aA S a) m2
  have hrw := a_rows_le hT hA
  refine lv_aload_n hx hb dX11_matched_0 rfl (lv_at hl 0 rfl) ?_
  refine lv_iload_n hx hb dX11_matched_1 rfl (lv_at hl 2 rfl) ?_
  refine x_rdV (av := [.int (nI a)]) (rest := []) cx hk hw (hm.1) cv_RX11_149_10 (m_own S m hm hS hM a (by omega)) hl.1 rfl rfl (Nat.le_of_ble_eq_true rfl) ⟨by decide, by decide⟩ ⟨Nat.zero_le _, Nat.zero_le _⟩ dX11_matched_2 ?_
  refine lv_istore_n (lv' := [(3, .int (nI (a_rows (sT S (ao S a)) (aA S a)))), (0, .ref (lo (0))), (1, .int (nI q)), (2, .int (nI a))]) hx hb dX11_matched_5 rfl hl (by decide) rfl (fun ls hl => ?_)
  refine lv_aload_n hx hb dX11_matched_6 rfl (lv_at hl 1 rfl) ?_
  refine lv_iload_n hx hb dX11_matched_7 rfl (lv_at hl 2 rfl) ?_
  refine lv_iload_n hx hb dX11_matched_8 rfl (lv_at hl 3 rfl) ?_
  refine x_rdV (av := [.int (nI q), .int (nI a)]) (rest := []) cx hk hw (hm.1) cv_RX11_152_10 (m_uses S m hm hS hM q a (by omega) (by omega) (by assumption)) hl.1 rfl rfl (Nat.le_of_ble_eq_true rfl) ⟨by decide, by decide⟩ ⟨Nat.zero_le _, Nat.zero_le _⟩ dX11_matched_9 ?_
  refine lv_istore (lv' := [(4, .int (nI (a_uses (qQ S q) (aA S a)))), (3, .int (nI (a_rows (sT S (ao S a)) (aA S a)))), (0, .ref (lo (0))), (1, .int (nI q)), (2, .int (nI a))]) hx hb dX11_matched_12 hl (by decide) rfl (fun ls hl => ?_)
  refine lv_iconst (v := nI 0) hx hb dX11_matched_14 rfl ?_
  refine lv_istore (lv' := [(5, .int (nI 0)), (4, .int (nI (a_uses (qQ S q) (aA S a)))), (3, .int (nI (a_rows (sT S (ao S a)) (aA S a)))), (0, .ref (lo (0))), (1, .int (nI q)), (2, .int (nI a))]) hx hb dX11_matched_15 hl (by decide) rfl (fun ls hl => ?_)
  have L17_1 : ∀ (n_ : Nat) (f : Nat) (k : Nat), (k ≤ a_uses (qQ S q) (aA S a)) → (f = a_fold (sT S (ao S a)) (qQ S q) (aA S a) (a_rows (sT S (ao S a)) (aA S a)) k) → a_uses (qQ S q) (aA S a) - k < n_ → ∀ (ls : Array Slot), lv_has ls 7 [(5, .int (nI k)), (4, .int (nI (a_uses (qQ S q) (aA S a)))), (3, .int (nI f)), (0, .ref (lo (0))), (1, .int (nI q)), (2, .int (nI a))] → x_w l 4 pp ee ss mm av bb mt cd vv 17 ls [] := by
    intro n_
    induction n_ with
    | zero => intro f k hv hf hm_ ls hl; exact absurd hm_ (Nat.not_lt_zero _)
    | succ n_ ih17_1 =>
      intro f k hv hf hm_ ls hl
      refine lv_iload hx hb dX11_matched_17 (lv_at hl 0 rfl) ?_
      refine lv_iload hx hb dX11_matched_19 (lv_at hl 1 rfl) ?_
      refine x_icmp_ge (tgt := 79) cx dX11_matched_21 (by decide) (by omega) (fun h21_2 => ?_) (fun h21_2 => ?_)
      · skip
        refine lv_iload_n hx hb dX11_matched_79 rfl (lv_at hl 2 rfl) ?_
        exact x_iret cx hr hlk dX11_matched_80 ((congrArg (fun z => some (Value.int (nI z))) (show f = a_mat (sT S (ao S a)) (qQ S q) (aA S a) from by rw [a_mat, hf, show a_uses (qQ S q) (aA S a) = k by omega])).trans hvv)
      · skip
        have hbk := m3 k (by omega)
        have ebk : a_by (aA S a) k = (aA S a).2 k + 1 := by rw [a_by, if_pos (by omega)]
        have q6 := j6 ((aA S a).2 k) (by omega)
        have hut := mu_t (Q := qQ S q) (A := aA S a) (k := k) (by omega)
        have fb : f ≤ (sT S (ao S a)).1 5 := by rw [hf]; exact Nat.le_trans (a_fold_le hT hQ _ _) hrw
        refine lv_aload_n hx hb dX11_matched_24 rfl (lv_at hl 3 rfl) ?_
        refine x_get cx hk hw (hm.1) f_RX11_68_10 rfl dX11_matched_25 ?_
        refine lv_iconst (v := nI 3) hx hb dX11_matched_28 rfl ?_
        refine lv_iload_n hx hb dX11_matched_29 rfl (lv_at hl 5 rfl) ?_
        refine x_imulN cx dX11_matched_30 ?_
        refine lv_iload hx hb dX11_matched_31 (lv_at hl 0 rfl) ?_
        refine x_iaddN cx dX11_matched_33 ?_
        refine x_ialdE (x := nI ((aA S a).2 k)) cx hk hw (hm.2 23 _ rfl) (by omega) (by decide) ((hM a (by omega)).1 k (by omega)) dX11_matched_34 ?_
        refine lv_istore (lv' := [(6, .int (nI ((aA S a).2 k))), (5, .int (nI k)), (4, .int (nI (a_uses (qQ S q) (aA S a)))), (3, .int (nI f)), (0, .ref (lo (0))), (1, .int (nI q)), (2, .int (nI a))]) hx hb dX11_matched_35 hl (by decide) rfl (fun ls hl => ?_)
        refine lv_aload_n hx hb dX11_matched_37 rfl (lv_at hl 4 rfl) ?_
        refine lv_iload_n hx hb dX11_matched_38 rfl (lv_at hl 3 rfl) ?_
        refine lv_aload_n hx hb dX11_matched_39 rfl (lv_at hl 4 rfl) ?_
        refine x_get cx hk hw (hm.1) f_RX11_62_10 rfl dX11_matched_40 ?_
        refine lv_iload_n hx hb dX11_matched_43 rfl (lv_at hl 6 rfl) ?_
        refine x_ialdN cx hk hw (hm.2 21 _ rfl) (by omega) (by decide) dX11_matched_44 ?_
        refine lv_iload hx hb dX11_matched_45 (lv_at hl 0 rfl) ?_
        refine lv_aload_n hx hb dX11_matched_47 rfl (lv_at hl 4 rfl) ?_
        refine x_get cx hk hw (hm.1) f_RX11_53_10 rfl dX11_matched_48 ?_
        refine lv_iconst (v := nI 4) hx hb dX11_matched_51 rfl ?_
        refine lv_iload_n hx hb dX11_matched_52 rfl (lv_at hl 5 rfl) ?_
        refine x_imulN cx dX11_matched_53 ?_
        refine lv_iload hx hb dX11_matched_54 (lv_at hl 0 rfl) ?_
        refine x_iaddN cx dX11_matched_56 ?_
        refine x_ialdE (x := nI ((qQ S q).2 0 ((aA S a).2 k))) cx hk hw (hm.2 16 _ rfl) (by omega) (by decide) (by rw [(dm4 (t := q) (c := ((aA S a).2 k)) (by omega)).1, (dm4 (t := q) (c := ((aA S a).2 k)) (by omega)).2]) dX11_matched_57 ?_
        refine lv_aload_n hx hb dX11_matched_58 rfl (lv_at hl 4 rfl) ?_
        refine x_get cx hk hw (hm.1) f_RX11_56_10 rfl dX11_matched_59 ?_
        refine lv_iconst (v := nI 4) hx hb dX11_matched_62 rfl ?_
        refine lv_iload_n hx hb dX11_matched_63 rfl (lv_at hl 5 rfl) ?_
        refine x_imulN cx dX11_matched_64 ?_
        refine lv_iload hx hb dX11_matched_65 (lv_at hl 0 rfl) ?_
        refine x_iaddN cx dX11_matched_67 ?_
        refine x_ialdE (x := nI ((qQ S q).2 1 ((aA S a).2 k))) cx hk hw (hm.2 17 _ rfl) (by omega) (by decide) (by rw [(dm4 (t := q) (c := ((aA S a).2 k)) (by omega)).1, (dm4 (t := q) (c := ((aA S a).2 k)) (by omega)).2]) dX11_matched_68 ?_
        refine x_rdV (av := [.int (nI f), .int (nI (ao S a)), .int (nI ((aA S a).2 k)), .int (nI ((qQ S q).2 0 ((aA S a).2 k))), .int (nI ((qQ S q).2 1 ((aA S a).2 k)))]) (rest := []) cx hk hw (hm.1) cv_RX11_146_10 (m_passes S m hm hS f (ao S a) ((aA S a).2 k) ((qQ S q).2 0 ((aA S a).2 k)) ((qQ S q).2 1 ((aA S a).2 k)) (by first | omega | assumption) (by first | omega | assumption) (by first | omega | assumption) (by first | omega | assumption) (by first | omega | assumption) (by first | omega | assumption)) hl.1 rfl rfl (Nat.le_of_ble_eq_true rfl) ⟨by decide, by decide⟩ ⟨Nat.zero_le _, Nat.zero_le _⟩ dX11_matched_69 ?_
        refine lv_istore_n (lv' := [(3, .int (nI (t_pass (sT S (ao S a)) f ((aA S a).2 k) ((qQ S q).2 0 ((aA S a).2 k)) ((qQ S q).2 1 ((aA S a).2 k))))), (6, .int (nI ((aA S a).2 k))), (5, .int (nI k)), (4, .int (nI (a_uses (qQ S q) (aA S a)))), (0, .ref (lo (0))), (1, .int (nI q)), (2, .int (nI a))]) hx hb dX11_matched_72 rfl hl (by decide) rfl (fun ls hl => ?_)
        refine lv_iinc (v := nI (k + 1)) (lv' := [(5, .int (nI (k + 1))), (3, .int (nI (t_pass (sT S (ao S a)) f ((aA S a).2 k) ((qQ S q).2 0 ((aA S a).2 k)) ((qQ S q).2 1 ((aA S a).2 k))))), (6, .int (nI ((aA S a).2 k))), (4, .int (nI (a_uses (qQ S q) (aA S a)))), (0, .ref (lo (0))), (1, .int (nI q)), (2, .int (nI a))]) hx hb dX11_matched_73 hl (k := 2) rfl (nI_add _ 1) (by decide) rfl (fun ls hl => ?_)
        refine lv_goto (tgt := 17) hx hb dX11_matched_76 (by decide) ?_
        exact ih17_1 (t_pass (sT S (ao S a)) f ((aA S a).2 k) ((qQ S q).2 0 ((aA S a).2 k)) ((qQ S q).2 1 ((aA S a).2 k))) (k + 1) (by omega) (by rw [a_fold, ← hf, q_pass, if_pos hut, ebk]; rfl) (by omega) _ (lv_sub hl [0, 3, 1, 4, 5, 6] rfl)
  exact L17_1 (_ + 1) (a_rows (sT S (ao S a)) (aA S a)) 0 (by omega) (by rfl) (Nat.lt_succ_self _) _ (lv_sub hl [0, 1, 2, 3, 4, 5] rfl)
set_option maxHeartbeats 4000000 in
set_option maxRecDepth 100000 in
theorem m_groups {l : Launch} {G : x_G} {lo : x_L} {co : x_C} (S : St) (m : Nat → Nat → Int32) (hm : isM G lo co S m) (hS : Sok S) (a : Nat) (ha_ : a < sn S 1) : x_Rd l G lo co yX11_groups cX11_groups 5 (some .int) 2 [.ref (lo (0)), .int (nI a)] (some (.int (nI (t_groups (sT S (ao S a)) ((aA S a).1 2))))) := by
  refine x_enter RX11 rfl (by decide) (Nat.le_of_ble_eq_true rfl) ?_
  intro pp ee ss mm bb mt cd ls cx hk hw hr hlk hl
  have hl : lv_has ls 5 [(0, .ref (lo (0))), (1, .int (nI a))] := hl
  generalize hav : ([.ref (lo (0)), .int (nI a)] : List Value).toArray = av at cx ⊢
  generalize hvv : (some (.int (nI (t_groups (sT S (ao S a)) ((aA S a).1 2)))) : Option Value) = vv
  have hx := cx.1
  have hb := cx.2.1
  have hown := cx.2.2.2.1
  have hts := cx.2.2.2.2
  obtain ⟨s1, s2, s3, s4, s5, s6⟩ := id hS
  obtain ⟨u1, u2, hA⟩ := s6 a ha_
  have hT := (s1 _ u1).1 u2
  obtain ⟨k1, k2, k3, k4, k5, k6, k7, k8, k9, k0⟩ := id hT
  obtain ⟨m1, m2, m3, m4, m5, m6, m7, m8, m9, m10, m11⟩ := id hA
  refine lv_aload_n hx hb dX11_groups_0 rfl (lv_at hl 0 rfl) ?_
  refine x_get cx hk hw (hm.1) f_RX11_62_10 rfl dX11_groups_1 ?_
  refine lv_iload_n hx hb dX11_groups_4 rfl (lv_at hl 1 rfl) ?_
  refine x_ialdN cx hk hw (hm.2 21 _ rfl) (by omega) (by decide) dX11_groups_5 ?_
  refine lv_istore_n (lv' := [(2, .int (nI (ao S a))), (0, .ref (lo (0))), (1, .int (nI a))]) hx hb dX11_groups_6 rfl hl (by decide) rfl (fun ls hl => ?_)
  refine lv_iconst (v := nI 1) hx hb dX11_groups_7 rfl ?_
  refine lv_istore_n (lv' := [(3, .int (nI 1)), (2, .int (nI (ao S a))), (0, .ref (lo (0))), (1, .int (nI a))]) hx hb dX11_groups_8 rfl hl (by decide) rfl (fun ls hl => ?_)
  refine lv_iconst (v := nI 0) hx hb dX11_groups_9 rfl ?_
  refine lv_istore (lv' := [(4, .int (nI 0)), (3, .int (nI 1)), (2, .int (nI (ao S a))), (0, .ref (lo (0))), (1, .int (nI a))]) hx hb dX11_groups_10 hl (by decide) rfl (fun ls hl => ?_)
  have L12_1 : ∀ (n_ : Nat) (f : Nat) (k : Nat), (k ≤ (sT S (ao S a)).1 1) → (f = t_grp (sT S (ao S a)) ((aA S a).1 2) k) → (sT S (ao S a)).1 1 - k < n_ → ∀ (ls : Array Slot), lv_has ls 5 [(4, .int (nI k)), (3, .int (nI f)), (2, .int (nI (ao S a))), (0, .ref (lo (0))), (1, .int (nI a))] → x_w l 2 pp ee ss mm av bb mt cd vv 12 ls [] := by
    intro n_
    induction n_ with
    | zero => intro f k hv hf hm_ ls hl; exact absurd hm_ (Nat.not_lt_zero _)
    | succ n_ ih12_1 =>
      intro f k hv hf hm_ ls hl
      refine lv_iload hx hb dX11_groups_12 (lv_at hl 0 rfl) ?_
      refine lv_aload_n hx hb dX11_groups_14 rfl (lv_at hl 3 rfl) ?_
      refine x_get cx hk hw (hm.1) f_RX11_7_10 rfl dX11_groups_15 ?_
      refine lv_iload_n hx hb dX11_groups_18 rfl (lv_at hl 2 rfl) ?_
      refine x_ialdN cx hk hw (hm.2 1 _ rfl) (by omega) (by decide) dX11_groups_19 ?_
      refine x_icmp_ge (tgt := 61) cx dX11_groups_20 (by decide) (by omega) (fun h20_2 => ?_) (fun h20_2 => ?_)
      · skip
        have hfb : f ≤ 60 ^ 4 := by rw [hf]; exact Nat.le_trans (t_grp_le hT _ k hv) (Nat.pow_le_pow_right (by decide) (by omega))
        have hfb2 : f < 2 ^ 31 := by omega
        refine lv_iload_n hx hb dX11_groups_61 rfl (lv_at hl 1 rfl) ?_
        refine lv_aload_n hx hb dX11_groups_62 rfl (lv_at hl 3 rfl) ?_
        refine x_get cx hk hw (hm.1) f_RX11_22_10 rfl dX11_groups_63 ?_
        refine lv_iload_n hx hb dX11_groups_66 rfl (lv_at hl 2 rfl) ?_
        refine x_ialdN cx hk hw (hm.2 5 _ rfl) (by omega) (by decide) dX11_groups_67 ?_
        refine x_icmp_ge (tgt := 75) cx dX11_groups_68 (by decide) (by omega) (fun h68_3 => ?_) (fun h68_3 => ?_)
        · skip
          refine lv_aload_n hx hb dX11_groups_75 rfl (lv_at hl 3 rfl) ?_
          refine x_get cx hk hw (hm.1) f_RX11_22_10 rfl dX11_groups_76 ?_
          refine lv_iload_n hx hb dX11_groups_79 rfl (lv_at hl 2 rfl) ?_
          refine x_ialdN cx hk hw (hm.2 5 _ rfl) (by omega) (by decide) dX11_groups_80 ?_
          exact x_iret cx hr hlk dX11_groups_81 ((congrArg (fun z => some (Value.int (nI z))) (show (sT S (ao S a)).1 5 = t_groups (sT S (ao S a)) ((aA S a).1 2) from by rw [t_groups, show (sT S (ao S a)).1 1 = k by omega, ← hf]; omega)).trans hvv)
        · skip
          refine lv_iload_n hx hb dX11_groups_71 rfl (lv_at hl 1 rfl) ?_
          refine lv_goto (tgt := 81) hx hb dX11_groups_72 (by decide) ?_
          exact x_iret cx hr hlk dX11_groups_81 ((congrArg (fun z => some (Value.int (nI z))) (show f = t_groups (sT S (ao S a)) ((aA S a).1 2) from by rw [t_groups, show (sT S (ao S a)).1 1 = k by omega, ← hf]; omega)).trans hvv)
      · skip
        refine lv_iload_n hx hb dX11_groups_23 rfl (lv_at hl 1 rfl) ?_
        refine lv_aload_n hx hb dX11_groups_24 rfl (lv_at hl 3 rfl) ?_
        refine x_get cx hk hw (hm.1) f_RX11_71_10 rfl dX11_groups_25 ?_
        refine lv_iload_n hx hb dX11_groups_28 rfl (lv_at hl 4 rfl) ?_
        refine x_ialdN cx hk hw (hm.2 24 _ rfl) (by omega) (by decide) dX11_groups_29 ?_
        refine lv_iload hx hb dX11_groups_30 (lv_at hl 0 rfl) ?_
        refine x_rdS (av := [.int (nI ((aA S a).1 2)), .int (nI k)]) (rest := [.int (nI f)]) cx hk hw cs_RX11_97 (m_isIn ((aA S a).1 2) k (by omega) (by omega)) hl.1 rfl rfl (Nat.le_of_ble_eq_true rfl) ⟨by decide, by decide⟩ ⟨Nat.zero_le _, Nat.zero_le _⟩ dX11_groups_32 ?_
        have J53_4 : ∀ (y4_s0 : Nat) (ey4_s0 : y4_s0 = if (((aA S a).1 2).testBit k) = true then ((sT S (ao S a)).2 1 k) else 1) (ls : Array Slot), lv_has ls 5 [(4, .int (nI k)), (3, .int (nI f)), (2, .int (nI (ao S a))), (0, .ref (lo (0))), (1, .int (nI a))] → x_w l 2 pp ee ss mm av bb mt cd vv 53 ls [.int (nI y4_s0), .int (nI f)] := by
          intro y4_s0 ey4_s0 ls hl
          have dy4_s0 : ((((aA S a).1 2).testBit k) = true ∧ (y4_s0 = ((sT S (ao S a)).2 1 k))) ∨ (¬ ((((aA S a).1 2).testBit k) = true) ∧ (y4_s0 = 1)) := by rw [ey4_s0]; repeat' (first | (exact rfl) | (split <;> first | (refine Or.inl ⟨by assumption, ?_⟩) | (refine Or.inr ⟨by assumption, ?_⟩)))
          refine x_imulN cx dX11_groups_53 ?_
          refine lv_istore_n (lv' := [(3, .int (nI (f * y4_s0))), (4, .int (nI k)), (2, .int (nI (ao S a))), (0, .ref (lo (0))), (1, .int (nI a))]) hx hb dX11_groups_54 rfl hl (by decide) rfl (fun ls hl => ?_)
          refine lv_iinc (v := nI (k + 1)) (lv' := [(4, .int (nI (k + 1))), (3, .int (nI (f * y4_s0))), (2, .int (nI (ao S a))), (0, .ref (lo (0))), (1, .int (nI a))]) hx hb dX11_groups_55 hl (k := 1) rfl (nI_add _ 1) (by decide) rfl (fun ls hl => ?_)
          refine lv_goto (tgt := 12) hx hb dX11_groups_58 (by decide) ?_
          exact ih12_1 (f * y4_s0) (k + 1) (by omega) (by rw [t_grp, ← hf]; simp only [*]) (by omega) _ (lv_sub hl [0, 1, 2, 3, 4] rfl)
        refine x_if_eq (tgt := 52) cx dX11_groups_35 (by decide) (fun h35_5 => ?_) (fun h35_5 => ?_)
        · skip
          refine lv_iconst (v := nI 1) hx hb dX11_groups_52 rfl ?_
          exact J53_4 1 (by rw [if_neg (fun q => Bool.noConfusion (h35_5.symm.trans q))]) _ (lv_sub hl [0, 1, 2, 3, 4] rfl)
        · skip
          refine lv_aload_n hx hb dX11_groups_38 rfl (lv_at hl 3 rfl) ?_
          refine x_get cx hk hw (hm.1) f_RX11_25_10 rfl dX11_groups_39 ?_
          refine lv_iconst (v := nI 4) hx hb dX11_groups_42 rfl ?_
          refine lv_iload_n hx hb dX11_groups_43 rfl (lv_at hl 2 rfl) ?_
          refine x_imulN cx dX11_groups_44 ?_
          refine lv_iload hx hb dX11_groups_45 (lv_at hl 0 rfl) ?_
          refine x_iaddN cx dX11_groups_47 ?_
          refine x_ialdE (x := nI ((sT S (ao S a)).2 1 k)) cx hk hw (hm.2 6 _ rfl) (by omega) (by decide) (by rw [(dm4 (t := (ao S a)) (c := k) (by omega)).1, (dm4 (t := (ao S a)) (c := k) (by omega)).2]) dX11_groups_48 ?_
          refine lv_goto (tgt := 53) hx hb dX11_groups_49 (by decide) ?_
          exact J53_4 ((sT S (ao S a)).2 1 k) (by rw [if_pos h35_5]) _ (lv_sub hl [0, 1, 2, 3, 4] rfl)
  exact L12_1 (_ + 1) 1 0 (by omega) (by rfl) (Nat.lt_succ_self _) _ (lv_sub hl [0, 1, 2, 3, 4] rfl)
set_option maxHeartbeats 4000000 in
set_option maxRecDepth 100000 in
theorem m_roomOf {l : Launch} {G : x_G} {lo : x_L} {co : x_C} (S : St) (m : Nat → Nat → Int32) (hm : isM G lo co S m) (hS : Sok S) (hM : Mok S m) (a : Nat) (ha_ : a < sn S 1) : x_Rd l G lo co yX11_roomOf cX11_roomOf 3 (some .int) 4 [.ref (lo (0)), .int (nI a)] (some (.int (nI (m_sp S a)))) := by
  refine x_enter RX11 rfl (by decide) (Nat.le_of_ble_eq_true rfl) ?_
  intro pp ee ss mm bb mt cd ls cx hk hw hr hlk hl
  have hl : lv_has ls 3 [(0, .ref (lo (0))), (1, .int (nI a))] := hl
  generalize hav : ([.ref (lo (0)), .int (nI a)] : List Value).toArray = av at cx ⊢
  generalize hvv : (some (.int (nI (m_sp S a))) : Option Value) = vv
  have hx := cx.1
  have hb := cx.2.1
  have hown := cx.2.2.2.1
  have hts := cx.2.2.2.2
  obtain ⟨s1, s2, s3, s4, s5, s6⟩ := id hS
  obtain ⟨u1, u2, hA⟩ := s6 a ha_
  have hT := (s1 _ u1).1 u2
  obtain ⟨k1, k2, k3, k4, k5, k6, k7, k8, k9, k0⟩ := id hT
  obtain ⟨m1, m2, m3, m4, m5, m6, m7, m8, m9, m10, m11⟩ := id hA
  have hrw := a_rows_le hT hA
  have hpx := pop_le ((aA S a).1 2)
  have hg : t_groups (sT S (ao S a)) ((aA S a).1 2) ≤ 60 := Nat.le_trans (Nat.min_le_right _ _) k7
  refine lv_iconst (v := nI 2) hx hb dX11_roomOf_0 rfl ?_
  refine lv_aload_n hx hb dX11_roomOf_1 rfl (lv_at hl 0 rfl) ?_
  refine x_get cx hk hw (hm.1) f_RX11_13_10 rfl dX11_roomOf_2 ?_
  refine lv_aload_n hx hb dX11_roomOf_5 rfl (lv_at hl 0 rfl) ?_
  refine x_get cx hk hw (hm.1) f_RX11_62_10 rfl dX11_roomOf_6 ?_
  refine lv_iload_n hx hb dX11_roomOf_9 rfl (lv_at hl 1 rfl) ?_
  refine x_ialdN cx hk hw (hm.2 21 _ rfl) (by omega) (by decide) dX11_roomOf_10 ?_
  refine x_ialdN cx hk hw (hm.2 2 _ rfl) (by omega) (by decide) dX11_roomOf_11 ?_
  refine x_imulN cx dX11_roomOf_12 ?_
  refine lv_istore_n (lv' := [(2, .int (nI (2 * ((sT S (ao S a)).1 2)))), (0, .ref (lo (0))), (1, .int (nI a))]) hx hb dX11_roomOf_13 rfl hl (by decide) rfl (fun ls hl => ?_)
  refine lv_aload_n hx hb dX11_roomOf_14 rfl (lv_at hl 1 rfl) ?_
  refine x_get cx hk hw (hm.1) f_RX11_59_10 rfl dX11_roomOf_15 ?_
  refine lv_iload_n hx hb dX11_roomOf_18 rfl (lv_at hl 2 rfl) ?_
  refine x_ialdN cx hk hw (hm.2 20 _ rfl) (by omega) (by decide) dX11_roomOf_19 ?_
  by_cases hs20_1 : ((aA S a).1 0) = 1
  · skip
    refine x_tin (v := nI 1) (tgt := 52) (off := 32) cx dX11_roomOf_20 (congrArg nI hs20_1) (by decide) (by decide) (by decide) (by decide) ?_
    obtain ⟨x, x1, x2, x3⟩ := m10 (by omega)
    refine lv_aload_n hx hb dX11_roomOf_52 rfl (lv_at hl 1 rfl) ?_
    refine x_get cx hk hw (hm.1) f_RX11_22_10 rfl dX11_roomOf_53 ?_
    refine lv_aload_n hx hb dX11_roomOf_56 rfl (lv_at hl 1 rfl) ?_
    refine x_get cx hk hw (hm.1) f_RX11_62_10 rfl dX11_roomOf_57 ?_
    refine lv_iload_n hx hb dX11_roomOf_60 rfl (lv_at hl 2 rfl) ?_
    refine x_ialdN cx hk hw (hm.2 21 _ rfl) (by omega) (by decide) dX11_roomOf_61 ?_
    refine x_ialdN cx hk hw (hm.2 5 _ rfl) (by omega) (by decide) dX11_roomOf_62 ?_
    refine lv_iconst (v := nI 1) hx hb dX11_roomOf_63 rfl ?_
    refine lv_aload_n hx hb dX11_roomOf_64 rfl (lv_at hl 1 rfl) ?_
    refine x_get cx hk hw (hm.1) f_RX11_71_10 rfl dX11_roomOf_65 ?_
    refine lv_iload_n hx hb dX11_roomOf_68 rfl (lv_at hl 2 rfl) ?_
    refine x_ialdN cx hk hw (hm.2 24 _ rfl) (by omega) (by decide) dX11_roomOf_69 ?_
    refine x_rdS (av := [.int (nI ((aA S a).1 2))]) (rest := [.int (nI 1), .int (nI ((sT S (ao S a)).1 5))]) cx hk hw cs_RX11_134 (m_size ((aA S a).1 2) (by omega)) hl.1 rfl rfl (Nat.le_of_ble_eq_true rfl) ⟨by decide, by decide⟩ ⟨Nat.zero_le _, Nat.zero_le _⟩ dX11_roomOf_70 ?_
    refine x_iaddN cx dX11_roomOf_73 ?_
    refine lv_aload_n hx hb dX11_roomOf_74 rfl (lv_at hl 1 rfl) ?_
    refine x_get cx hk hw (hm.1) f_RX11_65_10 rfl dX11_roomOf_75 ?_
    refine lv_iload_n hx hb dX11_roomOf_78 rfl (lv_at hl 2 rfl) ?_
    refine x_ialdN cx hk hw (hm.2 22 _ rfl) (by omega) (by decide) dX11_roomOf_79 ?_
    refine x_isubN cx (by omega) dX11_roomOf_80 ?_
    refine x_imulN cx dX11_roomOf_81 ?_
    refine lv_iload_n hx hb dX11_roomOf_82 rfl (lv_at hl 0 rfl) ?_
    have hmul : (sT S (ao S a)).1 5 * (1 + pop ((aA S a).1 2) - (aA S a).1 1) ≤ 60 * 13 := Nat.mul_le_mul (by omega) (by omega)
    refine x_rdS (av := [.int (nI (((sT S (ao S a)).1 5) * ((1 + (pop ((aA S a).1 2))) - ((aA S a).1 1)))), .int (nI (2 * ((sT S (ao S a)).1 2)))]) (rest := []) cx hk hw cs_RX11_105 (m_up (((sT S (ao S a)).1 5) * ((1 + (pop ((aA S a).1 2))) - ((aA S a).1 1))) (2 * ((sT S (ao S a)).1 2)) (by omega) (by omega) (by omega)) hl.1 rfl rfl (Nat.le_of_ble_eq_true rfl) ⟨by decide, by decide⟩ ⟨Nat.zero_le _, Nat.zero_le _⟩ dX11_roomOf_83 ?_
    exact x_iret cx hr hlk dX11_roomOf_86 ((congrArg (fun z => some (Value.int (nI z))) (show s_up (((sT S (ao S a)).1 5) * ((1 + (pop ((aA S a).1 2))) - ((aA S a).1 1))) (2 * ((sT S (ao S a)).1 2)) = m_sp S a from by simp [m_sp, a_space, *])).trans hvv)
  by_cases hs20_2 : ((aA S a).1 0) = 2
  · skip
    refine x_tin (v := nI 2) (tgt := 99) (off := 79) cx dX11_roomOf_20 (congrArg nI hs20_2) (by decide) (by decide) (by decide) (by decide) ?_
    refine lv_aload_n hx hb dX11_roomOf_99 rfl (lv_at hl 1 rfl) ?_
    refine lv_iload_n hx hb dX11_roomOf_100 rfl (lv_at hl 2 rfl) ?_
    refine x_rdV (av := [.int (nI a)]) (rest := []) cx hk hw (hm.1) cv_RX11_149_10 (m_own S m hm hS hM a (by omega)) hl.1 rfl rfl (Nat.le_of_ble_eq_true rfl) ⟨by decide, by decide⟩ ⟨Nat.zero_le _, Nat.zero_le _⟩ dX11_roomOf_101 ?_
    refine lv_iload_n hx hb dX11_roomOf_104 rfl (lv_at hl 0 rfl) ?_
    refine x_rdS (av := [.int (nI (a_rows (sT S (ao S a)) (aA S a))), .int (nI (2 * ((sT S (ao S a)).1 2)))]) (rest := []) cx hk hw cs_RX11_105 (m_up (a_rows (sT S (ao S a)) (aA S a)) (2 * ((sT S (ao S a)).1 2)) (by omega) (by omega) (by omega)) hl.1 rfl rfl (Nat.le_of_ble_eq_true rfl) ⟨by decide, by decide⟩ ⟨Nat.zero_le _, Nat.zero_le _⟩ dX11_roomOf_105 ?_
    exact x_iret cx hr hlk dX11_roomOf_108 ((congrArg (fun z => some (Value.int (nI z))) (show s_up (a_rows (sT S (ao S a)) (aA S a)) (2 * ((sT S (ao S a)).1 2)) = m_sp S a from by simp [m_sp, a_space, *])).trans hvv)
  by_cases hs20_3 : ((aA S a).1 0) = 3
  · skip
    refine x_tin (v := nI 3) (tgt := 87) (off := 67) cx dX11_roomOf_20 (congrArg nI hs20_3) (by decide) (by decide) (by decide) (by decide) ?_
    refine lv_aload_n hx hb dX11_roomOf_87 rfl (lv_at hl 1 rfl) ?_
    refine lv_iload_n hx hb dX11_roomOf_88 rfl (lv_at hl 2 rfl) ?_
    refine x_rdV (av := [.int (nI a)]) (rest := []) cx hk hw (hm.1) cv_RX11_155_10 (m_groups S m hm hS a (by omega)) hl.1 rfl rfl (Nat.le_of_ble_eq_true rfl) ⟨by decide, by decide⟩ ⟨Nat.zero_le _, Nat.zero_le _⟩ dX11_roomOf_89 ?_
    refine lv_iload_n hx hb dX11_roomOf_92 rfl (lv_at hl 0 rfl) ?_
    refine x_rdS (av := [.int (nI (t_groups (sT S (ao S a)) ((aA S a).1 2))), .int (nI (2 * ((sT S (ao S a)).1 2)))]) (rest := []) cx hk hw cs_RX11_105 (m_up (t_groups (sT S (ao S a)) ((aA S a).1 2)) (2 * ((sT S (ao S a)).1 2)) (by omega) (by omega) (by omega)) hl.1 rfl rfl (Nat.le_of_ble_eq_true rfl) ⟨by decide, by decide⟩ ⟨Nat.zero_le _, Nat.zero_le _⟩ dX11_roomOf_93 ?_
    exact x_iret cx hr hlk dX11_roomOf_96 ((congrArg (fun z => some (Value.int (nI z))) (show s_up (t_groups (sT S (ao S a)) ((aA S a).1 2)) (2 * ((sT S (ao S a)).1 2)) = m_sp S a from by simp [m_sp, a_space, *])).trans hvv)
  by_cases hs20_4 : ((aA S a).1 0) = 4
  · skip
    refine x_tin (v := nI 4) (tgt := 97) (off := 77) cx dX11_roomOf_20 (congrArg nI hs20_4) (by decide) (by decide) (by decide) (by decide) ?_
    refine lv_iconst (v := nI 0) hx hb dX11_roomOf_97 rfl ?_
    exact x_iret cx hr hlk dX11_roomOf_98 ((congrArg (fun z => some (Value.int (nI z))) (show 0 = m_sp S a from by simp [m_sp, a_space, *])).trans hvv)
  refine x_tout (tgt := 99) (lo := 1) (hi := 4) cx dX11_roomOf_20 (by decide) (fun z h1 h2 => by rcases (show z = 1 ∨ z = 2 ∨ z = 3 ∨ z = 4 by omega) with rfl | rfl | rfl | rfl <;> (first | exact fun e_ => hs20_1 ((nI_eq (by omega) (by decide)).mp e_) | exact fun e_ => hs20_2 ((nI_eq (by omega) (by decide)).mp e_) | exact fun e_ => hs20_3 ((nI_eq (by omega) (by decide)).mp e_) | exact fun e_ => hs20_4 ((nI_eq (by omega) (by decide)).mp e_))) ?_
  refine lv_aload_n hx hb dX11_roomOf_99 rfl (lv_at hl 1 rfl) ?_
  refine lv_iload_n hx hb dX11_roomOf_100 rfl (lv_at hl 2 rfl) ?_
  refine x_rdV (av := [.int (nI a)]) (rest := []) cx hk hw (hm.1) cv_RX11_149_10 (m_own S m hm hS hM a (by omega)) hl.1 rfl rfl (Nat.le_of_ble_eq_true rfl) ⟨by decide, by decide⟩ ⟨Nat.zero_le _, Nat.zero_le _⟩ dX11_roomOf_101 ?_
  refine lv_iload_n hx hb dX11_roomOf_104 rfl (lv_at hl 0 rfl) ?_
  refine x_rdS (av := [.int (nI (a_rows (sT S (ao S a)) (aA S a))), .int (nI (2 * ((sT S (ao S a)).1 2)))]) (rest := []) cx hk hw cs_RX11_105 (m_up (a_rows (sT S (ao S a)) (aA S a)) (2 * ((sT S (ao S a)).1 2)) (by omega) (by omega) (by omega)) hl.1 rfl rfl (Nat.le_of_ble_eq_true rfl) ⟨by decide, by decide⟩ ⟨Nat.zero_le _, Nat.zero_le _⟩ dX11_roomOf_105 ?_
  exact x_iret cx hr hlk dX11_roomOf_108 ((congrArg (fun z => some (Value.int (nI z))) (show s_up (a_rows (sT S (ao S a)) (aA S a)) (2 * ((sT S (ao S a)).1 2)) = m_sp S a from by simp [m_sp, a_space, *])).trans hvv)
set_option maxHeartbeats 4000000 in
set_option maxRecDepth 100000 in
theorem m_keep {l : Launch} {G : x_G} {lo : x_L} {co : x_C} (S : St) (m : Nat → Nat → Int32) (hm : isM G lo co S m) (hS : Sok S) (a : Nat) (ha_ : a < sn S 1) : x_Rd l G lo co yX11_keeping cX11_keeping 2 (some .int) 1 [.ref (lo (0)), .int (nI a)] (some (.int (nI (a_keep (aA S a))))) := by
  refine x_enter RX11 rfl (by decide) (Nat.le_of_ble_eq_true rfl) ?_
  intro pp ee ss mm bb mt cd ls cx hk hw hr hlk hl
  have hl : lv_has ls 2 [(0, .ref (lo (0))), (1, .int (nI a))] := hl
  generalize hav : ([.ref (lo (0)), .int (nI a)] : List Value).toArray = av at cx ⊢
  generalize hvv : (some (.int (nI (a_keep (aA S a)))) : Option Value) = vv
  have hx := cx.1
  have hb := cx.2.1
  have hown := cx.2.2.2.1
  have hts := cx.2.2.2.2
  obtain ⟨s1, s2, s3, s4, s5, s6⟩ := id hS
  obtain ⟨u1, u2, hA⟩ := s6 a ha_
  have hT := (s1 _ u1).1 u2
  obtain ⟨k1, k2, k3, k4, k5, k6, k7, k8, k9, k0⟩ := id hT
  obtain ⟨m1, m2, m3, m4, m5, m6, m7, m8, m9, m10, m11⟩ := id hA
  refine lv_aload_n hx hb dX11_keeping_0 rfl (lv_at hl 0 rfl) ?_
  refine x_get cx hk hw (hm.1) f_RX11_59_10 rfl dX11_keeping_1 ?_
  refine lv_iload_n hx hb dX11_keeping_4 rfl (lv_at hl 1 rfl) ?_
  refine x_ialdN cx hk hw (hm.2 20 _ rfl) (by omega) (by decide) dX11_keeping_5 ?_
  by_cases hs6_1 : ((aA S a).1 0) = 1
  · skip
    refine x_tin (v := nI 1) (tgt := 36) (off := 30) cx dX11_keeping_6 (congrArg nI hs6_1) (by decide) (by decide) (by decide) (by decide) ?_
    refine lv_iconst (v := nI 3) hx hb dX11_keeping_36 rfl ?_
    exact x_iret cx hr hlk dX11_keeping_37 ((congrArg (fun z => some (Value.int (nI z))) (show 3 = a_keep (aA S a) from by simp [a_keep, *])).trans hvv)
  by_cases hs6_2 : ((aA S a).1 0) = 2
  · skip
    refine x_tin (v := nI 2) (tgt := 38) (off := 32) cx dX11_keeping_6 (congrArg nI hs6_2) (by decide) (by decide) (by decide) (by decide) ?_
    refine lv_iconst (v := nI 1) hx hb dX11_keeping_38 rfl ?_
    exact x_iret cx hr hlk dX11_keeping_39 ((congrArg (fun z => some (Value.int (nI z))) (show 1 = a_keep (aA S a) from by simp [a_keep, *])).trans hvv)
  by_cases hs6_3 : ((aA S a).1 0) = 3
  · skip
    refine x_tin (v := nI 3) (tgt := 42) (off := 36) cx dX11_keeping_6 (congrArg nI hs6_3) (by decide) (by decide) (by decide) (by decide) ?_
    refine lv_iconst (v := nI 2) hx hb dX11_keeping_42 rfl ?_
    exact x_iret cx hr hlk dX11_keeping_43 ((congrArg (fun z => some (Value.int (nI z))) (show 2 = a_keep (aA S a) from by simp [a_keep, *])).trans hvv)
  by_cases hs6_4 : ((aA S a).1 0) = 4
  · skip
    refine x_tin (v := nI 4) (tgt := 40) (off := 34) cx dX11_keeping_6 (congrArg nI hs6_4) (by decide) (by decide) (by decide) (by decide) ?_
    refine lv_iconst (v := nI 4) hx hb dX11_keeping_40 rfl ?_
    exact x_iret cx hr hlk dX11_keeping_41 ((congrArg (fun z => some (Value.int (nI z))) (show 4 = a_keep (aA S a) from by simp [a_keep, *])).trans hvv)
  refine x_tout (tgt := 42) (lo := 1) (hi := 4) cx dX11_keeping_6 (by decide) (fun z h1 h2 => by rcases (show z = 1 ∨ z = 2 ∨ z = 3 ∨ z = 4 by omega) with rfl | rfl | rfl | rfl <;> (first | exact fun e_ => hs6_1 ((nI_eq (by omega) (by decide)).mp e_) | exact fun e_ => hs6_2 ((nI_eq (by omega) (by decide)).mp e_) | exact fun e_ => hs6_3 ((nI_eq (by omega) (by decide)).mp e_) | exact fun e_ => hs6_4 ((nI_eq (by omega) (by decide)).mp e_))) ?_
  refine lv_iconst (v := nI 2) hx hb dX11_keeping_42 rfl ?_
  exact x_iret cx hr hlk dX11_keeping_43 ((congrArg (fun z => some (Value.int (nI z))) (show 2 = a_keep (aA S a) from by simp [a_keep, *])).trans hvv)
