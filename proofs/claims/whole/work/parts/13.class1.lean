set_option maxHeartbeats 4000000 in
set_option maxRecDepth 100000 in
theorem c_btw {l : Launch} {G : x_G} {lo : x_L} {co : x_C} (n a b : Int32) : x_Rd l G lo co yX10_isBetween cX10_isBetween 3 (some .boolean) 1 [.int (n), .int (a), .int (b)] (some (.int (bI (s_btw n a b)))) := by
  refine x_enter RX10 rfl (by decide) (Nat.le_of_ble_eq_true rfl) ?_
  intro pp ee ss mm bb mt cd ls cx hk hw hr hlk hl
  have hl : lv_has ls 3 [(0, .int (n)), (1, .int (a)), (2, .int (b))] := hl
  generalize hav : ([.int (n), .int (a), .int (b)] : List Value).toArray = av at cx ⊢
  generalize hvv : (some (.int (bI (s_btw n a b))) : Option Value) = vv
  have hx := cx.1
  have hb := cx.2.1
  have hown := cx.2.2.2.1
  have hts := cx.2.2.2.2
  refine lv_iload_n hx hb dX10_isBetween_0 rfl (lv_at hl 0 rfl) ?_
  refine lv_iload_n hx hb dX10_isBetween_1 rfl (lv_at hl 1 rfl) ?_
  refine lv_icmp_lt (tgt := 14) hx hb dX10_isBetween_2 (by decide) (fun h2_1 => ?_) (fun h2_1 => ?_)
  · skip
    refine lv_iconst (v := nI 0) hx hb dX10_isBetween_14 rfl ?_
    exact x_zretF (b := s_btw n a b) cx hr hlk dX10_isBetween_15 (by first | rfl | (simp [s_btw, *]; done) | (simp_all [s_btw]; done) | (simp [s_btw, *]; omega) | grind [s_btw]) hvv
  · skip
    refine lv_iload_n hx hb dX10_isBetween_5 rfl (lv_at hl 0 rfl) ?_
    refine lv_iload_n hx hb dX10_isBetween_6 rfl (lv_at hl 2 rfl) ?_
    refine lv_icmp_gt (tgt := 14) hx hb dX10_isBetween_7 (by decide) (fun h7_2 => ?_) (fun h7_2 => ?_)
    · skip
      refine lv_iconst (v := nI 0) hx hb dX10_isBetween_14 rfl ?_
      exact x_zretF (b := s_btw n a b) cx hr hlk dX10_isBetween_15 (by first | rfl | (simp [s_btw, *]; done) | (simp_all [s_btw]; done) | (simp [s_btw, *]; omega) | grind [s_btw]) hvv
    · skip
      refine lv_iconst (v := nI 1) hx hb dX10_isBetween_10 rfl ?_
      refine lv_goto (tgt := 15) hx hb dX10_isBetween_11 (by decide) ?_
      exact x_zretT (b := s_btw n a b) cx hr hlk dX10_isBetween_15 (by first | rfl | (simp [s_btw, *]; done) | (simp_all [s_btw]; done) | (simp [s_btw, *]; omega) | grind [s_btw]) hvv
set_option maxHeartbeats 4000000 in
set_option maxRecDepth 100000 in
theorem c_rng {l : Launch} {G : x_G} {lo : x_L} {co : x_C} (f t : Int32) : x_Rd l G lo co yX10_isRange cX10_isRange 2 (some .boolean) 1 [.int (f), .int (t)] (some (.int (bI (s_rng f t)))) := by
  refine x_enter RX10 rfl (by decide) (Nat.le_of_ble_eq_true rfl) ?_
  intro pp ee ss mm bb mt cd ls cx hk hw hr hlk hl
  have hl : lv_has ls 2 [(0, .int (f)), (1, .int (t))] := hl
  generalize hav : ([.int (f), .int (t)] : List Value).toArray = av at cx ⊢
  generalize hvv : (some (.int (bI (s_rng f t))) : Option Value) = vv
  have hx := cx.1
  have hb := cx.2.1
  have hown := cx.2.2.2.1
  have hts := cx.2.2.2.2
  refine lv_iload_n hx hb dX10_isRange_0 rfl (lv_at hl 0 rfl) ?_
  refine lv_if_lt (tgt := 20) hx hb dX10_isRange_1 (by decide) (fun h1_1 => ?_) (fun h1_1 => ?_)
  · skip
    refine lv_iconst (v := nI 0) hx hb dX10_isRange_20 rfl ?_
    exact x_zretF (b := s_rng f t) cx hr hlk dX10_isRange_21 (by first | rfl | (simp [s_rng, *]; done) | (simp_all [s_rng]; done) | (simp [s_rng, *]; omega) | grind [s_rng]) hvv
  · skip
    refine lv_iload_n hx hb dX10_isRange_4 rfl (lv_at hl 0 rfl) ?_
    refine lv_iload_n hx hb dX10_isRange_5 rfl (lv_at hl 1 rfl) ?_
    refine lv_icmp_gt (tgt := 20) hx hb dX10_isRange_6 (by decide) (fun h6_2 => ?_) (fun h6_2 => ?_)
    · skip
      refine lv_iconst (v := nI 0) hx hb dX10_isRange_20 rfl ?_
      exact x_zretF (b := s_rng f t) cx hr hlk dX10_isRange_21 (by first | rfl | (simp [s_rng, *]; done) | (simp_all [s_rng]; done) | (simp [s_rng, *]; omega) | grind [s_rng]) hvv
    · skip
      refine lv_iload_n hx hb dX10_isRange_9 rfl (lv_at hl 1 rfl) ?_
      refine lv_sipush (v := nI 999) hx hb dX10_isRange_10 rfl ?_
      refine lv_icmp_gt (tgt := 20) hx hb dX10_isRange_13 (by decide) (fun h13_3 => ?_) (fun h13_3 => ?_)
      · skip
        refine lv_iconst (v := nI 0) hx hb dX10_isRange_20 rfl ?_
        exact x_zretF (b := s_rng f t) cx hr hlk dX10_isRange_21 (by first | rfl | (simp [s_rng, *]; done) | (simp_all [s_rng]; done) | (simp [s_rng, *]; omega) | grind [s_rng]) hvv
      · skip
        refine lv_iconst (v := nI 1) hx hb dX10_isRange_16 rfl ?_
        refine lv_goto (tgt := 21) hx hb dX10_isRange_17 (by decide) ?_
        exact x_zretT (b := s_rng f t) cx hr hlk dX10_isRange_21 (by first | rfl | (simp [s_rng, *]; done) | (simp_all [s_rng]; done) | (simp [s_rng, *]; omega) | grind [s_rng]) hvv
set_option maxHeartbeats 4000000 in
set_option maxRecDepth 100000 in
theorem c_bitN {l : Launch} {G : x_G} {lo : x_L} {co : x_C} (n : Nat) (hn : n < 31) : x_Rd l G lo co yX10_bit cX10_bit 1 (some .int) 1 [.int (nI n)] (some (.int (nI (2 ^ n)))) := by
  refine x_enter RX10 rfl (by decide) (Nat.le_of_ble_eq_true rfl) ?_
  intro pp ee ss mm bb mt cd ls cx hk hw hr hlk hl
  have hl : lv_has ls 1 [(0, .int (nI n))] := hl
  generalize hav : ([.int (nI n)] : List Value).toArray = av at cx ⊢
  generalize hvv : (some (.int (nI (2 ^ n))) : Option Value) = vv
  have hx := cx.1
  have hb := cx.2.1
  have hown := cx.2.2.2.1
  have hts := cx.2.2.2.2
  refine lv_iload_n hx hb dX10_bit_0 rfl (lv_at hl 0 rfl) ?_
  refine x_ifN_ge (tgt := 8) cx dX10_bit_1 (by decide) (by first | assumption | omega | (simp_all; omega)) ?_
  refine lv_iconst (v := nI 1) hx hb dX10_bit_8 rfl ?_
  refine lv_iload_n hx hb dX10_bit_9 rfl (lv_at hl 0 rfl) ?_
  refine lv_ishl hx hb dX10_bit_10 ?_
  exact x_iret cx hr hlk dX10_bit_11 ((congrArg (fun z => some (Value.int z)) (show (nI 1) <<< ((nI n) &&& 31) = nI (2 ^ n) from by exact nI_shl hn)).trans hvv)
set_option maxHeartbeats 4000000 in
set_option maxRecDepth 100000 in
theorem c_bit {l : Launch} {G : x_G} {lo : x_L} {co : x_C} (n : Int32) : x_Rd l G lo co yX10_bit cX10_bit 1 (some .int) 1 [.int (n)] (some (.int (s_bit n))) := by
  refine x_enter RX10 rfl (by decide) (Nat.le_of_ble_eq_true rfl) ?_
  intro pp ee ss mm bb mt cd ls cx hk hw hr hlk hl
  have hl : lv_has ls 1 [(0, .int (n))] := hl
  generalize hav : ([.int (n)] : List Value).toArray = av at cx ⊢
  generalize hvv : (some (.int (s_bit n)) : Option Value) = vv
  have hx := cx.1
  have hb := cx.2.1
  have hown := cx.2.2.2.1
  have hts := cx.2.2.2.2
  refine lv_iload_n hx hb dX10_bit_0 rfl (lv_at hl 0 rfl) ?_
  refine lv_if_ge (tgt := 8) hx hb dX10_bit_1 (by decide) (fun h1_1 => ?_) (fun h1_1 => ?_)
  · skip
    refine lv_iconst (v := nI 1) hx hb dX10_bit_8 rfl ?_
    refine lv_iload_n hx hb dX10_bit_9 rfl (lv_at hl 0 rfl) ?_
    refine lv_ishl hx hb dX10_bit_10 ?_
    exact x_iret cx hr hlk dX10_bit_11 ((congrArg (fun z => some (Value.int z)) (show (nI 1) <<< (n &&& 31) = s_bit n from by first | (rw [s_bit, if_neg (Int32.not_lt.mpr (by assumption))]; rfl) | (rw [s_bit, if_pos (Int32.not_le.mp (by assumption))]; rfl))).trans hvv)
  · skip
    refine lv_iconst (v := nI 0) hx hb dX10_bit_4 rfl ?_
    refine lv_goto (tgt := 11) hx hb dX10_bit_5 (by decide) ?_
    exact x_iret cx hr hlk dX10_bit_11 ((congrArg (fun z => some (Value.int z)) (show nI 0 = s_bit n from by first | (rw [s_bit, if_neg (Int32.not_lt.mpr (by assumption))]; rfl) | (rw [s_bit, if_pos (Int32.not_le.mp (by assumption))]; rfl))).trans hvv)
set_option maxHeartbeats 4000000 in
set_option maxRecDepth 100000 in
theorem c_isIn {l : Launch} {G : x_G} {lo : x_L} {co : x_C} (n b : Nat) (hn : n < 32) (hb_ : b < 2 ^ 31) : x_Rd l G lo co yX10_isIn cX10_isIn 2 (some .boolean) 1 [.int (nI n), .int (nI b)] (some (.int (bI (b.testBit n)))) := by
  refine x_enter RX10 rfl (by decide) (Nat.le_of_ble_eq_true rfl) ?_
  intro pp ee ss mm bb mt cd ls cx hk hw hr hlk hl
  have hl : lv_has ls 2 [(0, .int (nI n)), (1, .int (nI b))] := hl
  generalize hav : ([.int (nI n), .int (nI b)] : List Value).toArray = av at cx ⊢
  generalize hvv : (some (.int (bI (b.testBit n))) : Option Value) = vv
  have hx := cx.1
  have hb := cx.2.1
  have hown := cx.2.2.2.1
  have hts := cx.2.2.2.2
  refine lv_iload_n hx hb dX10_isIn_0 rfl (lv_at hl 0 rfl) ?_
  refine x_ifN_lt (tgt := 16) cx dX10_isIn_1 (by decide) (by first | assumption | omega | (simp_all; omega)) ?_
  refine lv_iload_n hx hb dX10_isIn_4 rfl (lv_at hl 1 rfl) ?_
  refine lv_iload_n hx hb dX10_isIn_5 rfl (lv_at hl 0 rfl) ?_
  refine lv_iushr hx hb dX10_isIn_6 rfl ?_
  refine lv_iconst (v := nI 1) hx hb dX10_isIn_7 rfl ?_
  refine lv_iand hx hb dX10_isIn_8 ?_
  refine lv_if_eq (tgt := 16) hx hb dX10_isIn_9 (by decide) (fun h9_1 => ?_) (fun h9_1 => ?_)
  · skip
    refine lv_iconst (v := nI 0) hx hb dX10_isIn_16 rfl ?_
    exact x_zretF (b := b.testBit n) cx hr hlk dX10_isIn_17 (by first | exact (nI_tb hn hb_).mp (by assumption) | exact nI_tb' hn hb_ (by assumption)) hvv
  · skip
    refine lv_iconst (v := nI 1) hx hb dX10_isIn_12 rfl ?_
    refine lv_goto (tgt := 17) hx hb dX10_isIn_13 (by decide) ?_
    exact x_zretT (b := b.testBit n) cx hr hlk dX10_isIn_17 (by first | exact (nI_tb hn hb_).mp (by assumption) | exact nI_tb' hn hb_ (by assumption)) hvv
set_option maxHeartbeats 4000000 in
set_option maxRecDepth 100000 in
theorem c_up {l : Launch} {G : x_G} {lo : x_L} {co : x_C} (n d : Nat) (hn : n < 2 ^ 30) (hd : d < 2 ^ 30) : x_Rd l G lo co yX10_dividedUp cX10_dividedUp 2 (some .int) 1 [.int (nI n), .int (nI d)] (some (.int (nI (s_up n d)))) := by
  refine x_enter RX10 rfl (by decide) (Nat.le_of_ble_eq_true rfl) ?_
  intro pp ee ss mm bb mt cd ls cx hk hw hr hlk hl
  have hl : lv_has ls 2 [(0, .int (nI n)), (1, .int (nI d))] := hl
  generalize hav : ([.int (nI n), .int (nI d)] : List Value).toArray = av at cx ⊢
  generalize hvv : (some (.int (nI (s_up n d))) : Option Value) = vv
  have hx := cx.1
  have hb := cx.2.1
  have hown := cx.2.2.2.1
  have hts := cx.2.2.2.2
  refine lv_iload_n hx hb dX10_dividedUp_0 rfl (lv_at hl 0 rfl) ?_
  refine x_ifN_le (tgt := 8) cx dX10_dividedUp_1 (by decide) (by omega) (fun h1_1 => ?_) (fun h1_1 => ?_)
  · skip
    refine lv_iconst (v := nI 0) hx hb dX10_dividedUp_8 rfl ?_
    refine lv_goto (tgt := 19) hx hb dX10_dividedUp_9 (by decide) ?_
    exact x_iret cx hr hlk dX10_dividedUp_19 ((congrArg (fun z => some (Value.int (nI z))) (show 0 = s_up n d from by first | rfl | (rename_i q; rw [q]; exact (s_up_0 _).symm) | (rename_i q; rw [q]; exact (s_up_z _).symm) | (simp_all [s_up_0, s_up_z]))).trans hvv)
  · skip
    refine lv_iload_n hx hb dX10_dividedUp_4 rfl (lv_at hl 1 rfl) ?_
    refine x_ifN_gt (tgt := 12) cx dX10_dividedUp_5 (by decide) (by omega) (fun h5_2 => ?_) (fun h5_2 => ?_)
    · skip
      refine lv_iload_n hx hb dX10_dividedUp_12 rfl (lv_at hl 0 rfl) ?_
      refine lv_iload_n hx hb dX10_dividedUp_13 rfl (lv_at hl 1 rfl) ?_
      refine x_iaddN cx dX10_dividedUp_14 ?_
      refine lv_iconst (v := nI 1) hx hb dX10_dividedUp_15 rfl ?_
      refine x_isubN cx (by omega) dX10_dividedUp_16 ?_
      refine lv_iload_n hx hb dX10_dividedUp_17 rfl (lv_at hl 1 rfl) ?_
      refine x_idivN cx (by omega) dX10_dividedUp_18 ?_
      exact x_iret cx hr hlk dX10_dividedUp_19 ((congrArg (fun z => some (Value.int (nI z))) (show ((n + d) - 1) / d = s_up n d from by first | rfl | (rename_i q; rw [q]; exact (s_up_0 _).symm) | (rename_i q; rw [q]; exact (s_up_z _).symm) | (simp_all [s_up_0, s_up_z]))).trans hvv)
    · skip
      refine lv_iconst (v := nI 0) hx hb dX10_dividedUp_8 rfl ?_
      refine lv_goto (tgt := 19) hx hb dX10_dividedUp_9 (by decide) ?_
      exact x_iret cx hr hlk dX10_dividedUp_19 ((congrArg (fun z => some (Value.int (nI z))) (show 0 = s_up n d from by first | rfl | (rename_i q; rw [q]; exact (s_up_0 _).symm) | (rename_i q; rw [q]; exact (s_up_z _).symm) | (simp_all [s_up_0, s_up_z]))).trans hvv)
set_option maxHeartbeats 4000000 in
set_option maxRecDepth 100000 in
theorem c_t_has {l : Launch} {G : x_G} {lo : x_L} {co : x_C} (b : Nat) (T : Tb) (ht : isTb G lo co b T) (c : Int32) : x_Rd l G lo co yX9_has cX9_has 2 (some .boolean) 1 [.ref (lo (b)), .int (c)] (some (.int (bI (t_has T c)))) := by
  refine x_enter RX9 rfl (by decide) (Nat.le_of_ble_eq_true rfl) ?_
  intro pp ee ss mm bb mt cd ls cx hk hw hr hlk hl
  have hl : lv_has ls 2 [(0, .ref (lo (b))), (1, .int (c))] := hl
  generalize hav : ([.ref (lo (b)), .int (c)] : List Value).toArray = av at cx ⊢
  generalize hvv : (some (.int (bI (t_has T c))) : Option Value) = vv
  have hx := cx.1
  have hb := cx.2.1
  have hown := cx.2.2.2.1
  have hts := cx.2.2.2.2
  refine lv_iload_n hx hb dX9_has_0 rfl (lv_at hl 1 rfl) ?_
  refine lv_if_lt (tgt := 16) hx hb dX9_has_1 (by decide) (fun h1_1 => ?_) (fun h1_1 => ?_)
  · skip
    refine lv_iconst (v := nI 0) hx hb dX9_has_16 rfl ?_
    exact x_zretF (b := t_has T c) cx hr hlk dX9_has_17 (by first | rfl | (simp [t_has, *]; done) | (simp_all [t_has]; done) | (simp [t_has, *]; omega) | grind [t_has]) hvv
  · skip
    refine lv_iload_n hx hb dX9_has_4 rfl (lv_at hl 1 rfl) ?_
    refine lv_aload_n hx hb dX9_has_5 rfl (lv_at hl 0 rfl) ?_
    refine x_get cx hk hw (ht.1) f_RX9_28_8 rfl dX9_has_6 ?_
    refine lv_icmp_ge (tgt := 16) hx hb dX9_has_9 (by decide) (fun h9_2 => ?_) (fun h9_2 => ?_)
    · skip
      refine lv_iconst (v := nI 0) hx hb dX9_has_16 rfl ?_
      exact x_zretF (b := t_has T c) cx hr hlk dX9_has_17 (by first | rfl | (simp [t_has, *]; done) | (simp_all [t_has]; done) | (simp [t_has, *]; omega) | grind [t_has]) hvv
    · skip
      refine lv_iconst (v := nI 1) hx hb dX9_has_12 rfl ?_
      refine lv_goto (tgt := 17) hx hb dX9_has_13 (by decide) ?_
      exact x_zretT (b := t_has T c) cx hr hlk dX9_has_17 (by first | rfl | (simp [t_has, *]; done) | (simp_all [t_has]; done) | (simp [t_has, *]; omega) | grind [t_has]) hvv
set_option maxHeartbeats 4000000 in
set_option maxRecDepth 100000 in
theorem c_t_hon {l : Launch} {G : x_G} {lo : x_L} {co : x_C} (b : Nat) (T : Tb) (ht : isTb G lo co b T) (c : Int32) : x_Rd l G lo co yX9_hasOrNone cX9_hasOrNone 2 (some .boolean) 2 [.ref (lo (b)), .int (c)] (some (.int (bI (t_hon T c)))) := by
  refine x_enter RX9 rfl (by decide) (Nat.le_of_ble_eq_true rfl) ?_
  intro pp ee ss mm bb mt cd ls cx hk hw hr hlk hl
  have hl : lv_has ls 2 [(0, .ref (lo (b))), (1, .int (c))] := hl
  generalize hav : ([.ref (lo (b)), .int (c)] : List Value).toArray = av at cx ⊢
  generalize hvv : (some (.int (bI (t_hon T c))) : Option Value) = vv
  have hx := cx.1
  have hb := cx.2.1
  have hown := cx.2.2.2.1
  have hts := cx.2.2.2.2
  refine lv_iload_n hx hb dX9_hasOrNone_0 rfl (lv_at hl 1 rfl) ?_
  refine lv_iconst (v := (-1)) hx hb dX9_hasOrNone_1 rfl ?_
  refine lv_icmp_eq (tgt := 13) hx hb dX9_hasOrNone_2 (by decide) (fun h2_1 => ?_) (fun h2_1 => ?_)
  · skip
    refine lv_iconst (v := nI 1) hx hb dX9_hasOrNone_13 rfl ?_
    refine lv_goto (tgt := 18) hx hb dX9_hasOrNone_14 (by decide) ?_
    exact x_zretT (b := t_hon T c) cx hr hlk dX9_hasOrNone_18 (by first | rfl | (simp [t_hon, *]; done) | (simp_all [t_hon]; done) | (simp [t_hon, *]; omega) | grind [t_hon]) hvv
  · skip
    refine lv_aload_n hx hb dX9_hasOrNone_5 rfl (lv_at hl 0 rfl) ?_
    refine lv_iload_n hx hb dX9_hasOrNone_6 rfl (lv_at hl 1 rfl) ?_
    refine x_rdV (av := [.int (c)]) (rest := []) cx hk hw (ht.1) cv_RX9_34_8 (c_t_has b T ht c) hl.1 rfl rfl (Nat.le_of_ble_eq_true rfl) ⟨by decide, by decide⟩ ⟨Nat.zero_le _, Nat.zero_le _⟩ dX9_hasOrNone_7 ?_
    refine x_if_eq (tgt := 17) cx dX9_hasOrNone_10 (by decide) (fun h10_2 => ?_) (fun h10_2 => ?_)
    · skip
      refine lv_iconst (v := nI 0) hx hb dX9_hasOrNone_17 rfl ?_
      exact x_zretF (b := t_hon T c) cx hr hlk dX9_hasOrNone_18 (by first | rfl | (simp [t_hon, *]; done) | (simp_all [t_hon]; done) | (simp [t_hon, *]; omega) | grind [t_hon]) hvv
    · skip
      refine lv_iconst (v := nI 1) hx hb dX9_hasOrNone_13 rfl ?_
      refine lv_goto (tgt := 18) hx hb dX9_hasOrNone_14 (by decide) ?_
      exact x_zretT (b := t_hon T c) cx hr hlk dX9_hasOrNone_18 (by first | rfl | (simp [t_hon, *]; done) | (simp_all [t_hon]; done) | (simp [t_hon, *]; omega) | grind [t_hon]) hvv
set_option maxHeartbeats 4000000 in
set_option maxRecDepth 100000 in
theorem c_t_hall {l : Launch} {G : x_G} {lo : x_L} {co : x_C} (b : Nat) (T : Tb) (ht : isTb G lo co b T) (c : Int32) : x_Rd l G lo co yX9_hasAll cX9_hasAll 2 (some .boolean) 1 [.ref (lo (b)), .int (c)] (some (.int (bI (t_hall T c)))) := by
  refine x_enter RX9 rfl (by decide) (Nat.le_of_ble_eq_true rfl) ?_
  intro pp ee ss mm bb mt cd ls cx hk hw hr hlk hl
  have hl : lv_has ls 2 [(0, .ref (lo (b))), (1, .int (c))] := hl
  generalize hav : ([.ref (lo (b)), .int (c)] : List Value).toArray = av at cx ⊢
  generalize hvv : (some (.int (bI (t_hall T c))) : Option Value) = vv
  have hx := cx.1
  have hb := cx.2.1
  have hown := cx.2.2.2.1
  have hts := cx.2.2.2.2
  refine lv_iload_n hx hb dX9_hasAll_0 rfl (lv_at hl 1 rfl) ?_
  refine lv_aload_n hx hb dX9_hasAll_1 rfl (lv_at hl 0 rfl) ?_
  refine x_get cx hk hw (ht.1) f_RX9_28_8 rfl dX9_hasAll_2 ?_
  refine lv_iushr hx hb dX9_hasAll_5 rfl ?_
  refine lv_if_ne (tgt := 13) hx hb dX9_hasAll_6 (by decide) (fun h6_1 => ?_) (fun h6_1 => ?_)
  · skip
    refine lv_iconst (v := nI 0) hx hb dX9_hasAll_13 rfl ?_
    exact x_zretF (b := t_hall T c) cx hr hlk dX9_hasAll_14 (by first | rfl | (simp [t_hall, *]; done) | (simp_all [t_hall]; done) | (simp [t_hall, *]; omega) | grind [t_hall]) hvv
  · skip
    refine lv_iconst (v := nI 1) hx hb dX9_hasAll_9 rfl ?_
    refine lv_goto (tgt := 14) hx hb dX9_hasAll_10 (by decide) ?_
    exact x_zretT (b := t_hall T c) cx hr hlk dX9_hasAll_14 (by first | rfl | (simp [t_hall, *]; done) | (simp_all [t_hall]; done) | (simp [t_hall, *]; omega) | grind [t_hall]) hvv
set_option maxHeartbeats 4000000 in
set_option maxRecDepth 100000 in
theorem c_t_all1 {l : Launch} {G : x_G} {lo : x_L} {co : x_C} (b : Nat) (T : Tb) (ht : isTb G lo co b T) (c v : Int32) : x_Rd l G lo co yX9_allowsAt cX9_allowsAt 3 (some .boolean) 2 [.ref (lo (b)), .int (c), .int (v)] (some (.int (bI (t_all1 T c v)))) := by
  refine x_enter RX9 rfl (by decide) (Nat.le_of_ble_eq_true rfl) ?_
  intro pp ee ss mm bb mt cd ls cx hk hw hr hlk hl
  have hl : lv_has ls 3 [(0, .ref (lo (b))), (1, .int (c)), (2, .int (v))] := hl
  generalize hav : ([.ref (lo (b)), .int (c), .int (v)] : List Value).toArray = av at cx ⊢
  generalize hvv : (some (.int (bI (t_all1 T c v))) : Option Value) = vv
  have hx := cx.1
  have hb := cx.2.1
  have hown := cx.2.2.2.1
  have hts := cx.2.2.2.2
  refine lv_aload_n hx hb dX9_allowsAt_0 rfl (lv_at hl 0 rfl) ?_
  refine lv_iload_n hx hb dX9_allowsAt_1 rfl (lv_at hl 1 rfl) ?_
  refine x_rdV (av := [.int (c)]) (rest := []) cx hk hw (ht.1) cv_RX9_34_8 (c_t_has b T ht c) hl.1 rfl rfl (Nat.le_of_ble_eq_true rfl) ⟨by decide, by decide⟩ ⟨Nat.zero_le _, Nat.zero_le _⟩ dX9_allowsAt_2 ?_
  refine x_if_eq (tgt := 19) cx dX9_allowsAt_5 (by decide) (fun h5_1 => ?_) (fun h5_1 => ?_)
  · skip
    refine lv_iconst (v := nI 1) hx hb dX9_allowsAt_19 rfl ?_
    refine lv_goto (tgt := 24) hx hb dX9_allowsAt_20 (by decide) ?_
    exact x_zretT (b := t_all1 T c v) cx hr hlk dX9_allowsAt_24 (by first | rfl | (simp [t_all1, *]; done) | (simp_all [t_all1]; done) | (simp [t_all1, *]; omega) | grind [t_all1]) hvv
  · skip
    refine lv_iload_n hx hb dX9_allowsAt_8 rfl (lv_at hl 2 rfl) ?_
    refine lv_iconst (v := nI 0) hx hb dX9_allowsAt_9 rfl ?_
    refine lv_sipush (v := nI 999) hx hb dX9_allowsAt_10 rfl ?_
    refine x_rdSN (av := [.int (v), .int (nI 0), .int (nI 999)]) (rest := []) cx hk hw cn_RX9_42 (c_btw v (nI 0) (nI 999)) hl.1 rfl rfl (Nat.le_of_ble_eq_true rfl) ⟨by decide, by decide⟩ ⟨Nat.zero_le _, Nat.zero_le _⟩ dX9_allowsAt_13 ?_
    refine x_if_eq (tgt := 23) cx dX9_allowsAt_16 (by decide) (fun h16_2 => ?_) (fun h16_2 => ?_)
    · skip
      refine lv_iconst (v := nI 0) hx hb dX9_allowsAt_23 rfl ?_
      exact x_zretF (b := t_all1 T c v) cx hr hlk dX9_allowsAt_24 (by first | rfl | (simp [t_all1, *]; done) | (simp_all [t_all1]; done) | (simp [t_all1, *]; omega) | grind [t_all1]) hvv
    · skip
      refine lv_iconst (v := nI 1) hx hb dX9_allowsAt_19 rfl ?_
      refine lv_goto (tgt := 24) hx hb dX9_allowsAt_20 (by decide) ?_
      exact x_zretT (b := t_all1 T c v) cx hr hlk dX9_allowsAt_24 (by first | rfl | (simp [t_all1, *]; done) | (simp_all [t_all1]; done) | (simp [t_all1, *]; omega) | grind [t_all1]) hvv
set_option maxHeartbeats 4000000 in
set_option maxRecDepth 100000 in
theorem c_t_all {l : Launch} {G : x_G} {lo : x_L} {co : x_C} (b : Nat) (T : Tb) (ht : isTb G lo co b T) (c1 c2 c3 c4 : Int32) : x_Rd l G lo co yX9_allows cX9_allows 5 (some .boolean) 3 [.ref (lo (b)), .int (c1), .int (c2), .int (c3), .int (c4)] (some (.int (bI (t_all T c1 c2 c3 c4)))) := by
  refine x_enter RX9 rfl (by decide) (Nat.le_of_ble_eq_true rfl) ?_
  intro pp ee ss mm bb mt cd ls cx hk hw hr hlk hl
  have hl : lv_has ls 5 [(0, .ref (lo (b))), (1, .int (c1)), (2, .int (c2)), (3, .int (c3)), (4, .int (c4))] := hl
  generalize hav : ([.ref (lo (b)), .int (c1), .int (c2), .int (c3), .int (c4)] : List Value).toArray = av at cx ⊢
  generalize hvv : (some (.int (bI (t_all T c1 c2 c3 c4))) : Option Value) = vv
  have hx := cx.1
  have hb := cx.2.1
  have hown := cx.2.2.2.1
  have hts := cx.2.2.2.2
  refine lv_aload_n hx hb dX9_allows_0 rfl (lv_at hl 0 rfl) ?_
  refine lv_iconst (v := nI 0) hx hb dX9_allows_1 rfl ?_
  refine lv_iload_n hx hb dX9_allows_2 rfl (lv_at hl 1 rfl) ?_
  refine x_rdV (av := [.int (nI 0), .int (c1)]) (rest := []) cx hk hw (ht.1) cv_RX9_38_8 (c_t_all1 b T ht (nI 0) c1) hl.1 rfl rfl (Nat.le_of_ble_eq_true rfl) ⟨by decide, by decide⟩ ⟨Nat.zero_le _, Nat.zero_le _⟩ dX9_allows_3 ?_
  refine x_if_eq (tgt := 41) cx dX9_allows_6 (by decide) (fun h6_1 => ?_) (fun h6_1 => ?_)
  · skip
    refine lv_iconst (v := nI 0) hx hb dX9_allows_41 rfl ?_
    exact x_zretF (b := t_all T c1 c2 c3 c4) cx hr hlk dX9_allows_42 (by first | rfl | (simp [t_all, *]; done) | (simp_all [t_all]; done) | (simp [t_all, *]; omega) | grind [t_all]) hvv
  · skip
    refine lv_aload_n hx hb dX9_allows_9 rfl (lv_at hl 0 rfl) ?_
    refine lv_iconst (v := nI 1) hx hb dX9_allows_10 rfl ?_
    refine lv_iload_n hx hb dX9_allows_11 rfl (lv_at hl 2 rfl) ?_
    refine x_rdV (av := [.int (nI 1), .int (c2)]) (rest := []) cx hk hw (ht.1) cv_RX9_38_8 (c_t_all1 b T ht (nI 1) c2) hl.1 rfl rfl (Nat.le_of_ble_eq_true rfl) ⟨by decide, by decide⟩ ⟨Nat.zero_le _, Nat.zero_le _⟩ dX9_allows_12 ?_
    refine x_if_eq (tgt := 41) cx dX9_allows_15 (by decide) (fun h15_2 => ?_) (fun h15_2 => ?_)
    · skip
      refine lv_iconst (v := nI 0) hx hb dX9_allows_41 rfl ?_
      exact x_zretF (b := t_all T c1 c2 c3 c4) cx hr hlk dX9_allows_42 (by first | rfl | (simp [t_all, *]; done) | (simp_all [t_all]; done) | (simp [t_all, *]; omega) | grind [t_all]) hvv
    · skip
      refine lv_aload_n hx hb dX9_allows_18 rfl (lv_at hl 0 rfl) ?_
      refine lv_iconst (v := nI 2) hx hb dX9_allows_19 rfl ?_
      refine lv_iload_n hx hb dX9_allows_20 rfl (lv_at hl 3 rfl) ?_
      refine x_rdV (av := [.int (nI 2), .int (c3)]) (rest := []) cx hk hw (ht.1) cv_RX9_38_8 (c_t_all1 b T ht (nI 2) c3) hl.1 rfl rfl (Nat.le_of_ble_eq_true rfl) ⟨by decide, by decide⟩ ⟨Nat.zero_le _, Nat.zero_le _⟩ dX9_allows_21 ?_
      refine x_if_eq (tgt := 41) cx dX9_allows_24 (by decide) (fun h24_3 => ?_) (fun h24_3 => ?_)
      · skip
        refine lv_iconst (v := nI 0) hx hb dX9_allows_41 rfl ?_
        exact x_zretF (b := t_all T c1 c2 c3 c4) cx hr hlk dX9_allows_42 (by first | rfl | (simp [t_all, *]; done) | (simp_all [t_all]; done) | (simp [t_all, *]; omega) | grind [t_all]) hvv
      · skip
        refine lv_aload_n hx hb dX9_allows_27 rfl (lv_at hl 0 rfl) ?_
        refine lv_iconst (v := nI 3) hx hb dX9_allows_28 rfl ?_
        refine lv_iload hx hb dX9_allows_29 (lv_at hl 4 rfl) ?_
        refine x_rdV (av := [.int (nI 3), .int (c4)]) (rest := []) cx hk hw (ht.1) cv_RX9_38_8 (c_t_all1 b T ht (nI 3) c4) hl.1 rfl rfl (Nat.le_of_ble_eq_true rfl) ⟨by decide, by decide⟩ ⟨Nat.zero_le _, Nat.zero_le _⟩ dX9_allows_31 ?_
        refine x_if_eq (tgt := 41) cx dX9_allows_34 (by decide) (fun h34_4 => ?_) (fun h34_4 => ?_)
        · skip
          refine lv_iconst (v := nI 0) hx hb dX9_allows_41 rfl ?_
          exact x_zretF (b := t_all T c1 c2 c3 c4) cx hr hlk dX9_allows_42 (by first | rfl | (simp [t_all, *]; done) | (simp_all [t_all]; done) | (simp [t_all, *]; omega) | grind [t_all]) hvv
        · skip
          refine lv_iconst (v := nI 1) hx hb dX9_allows_37 rfl ?_
          refine lv_goto (tgt := 42) hx hb dX9_allows_38 (by decide) ?_
          exact x_zretT (b := t_all T c1 c2 c3 c4) cx hr hlk dX9_allows_42 (by first | rfl | (simp [t_all, *]; done) | (simp_all [t_all]; done) | (simp [t_all, *]; omega) | grind [t_all]) hvv
set_option maxHeartbeats 4000000 in
set_option maxRecDepth 100000 in
theorem c_t_cell {l : Launch} {G : x_G} {lo : x_L} {co : x_C} (b : Nat) (T : Tb) (ht : isTb G lo co b T) (hT : Tok T) (r c : Nat) (hr_ : r < 2 ^ 31) (hc_ : c < 2 ^ 31) : x_Rd l G lo co yX9_isCell cX9_isCell 3 (some .boolean) 1 [.ref (lo (b)), .int (nI r), .int (nI c)] (some (.int (bI (decide (r < T.1 3 ∧ c < T.1 1))))) := by
  refine x_enter RX9 rfl (by decide) (Nat.le_of_ble_eq_true rfl) ?_
  intro pp ee ss mm bb mt cd ls cx hk hw hr hlk hl
  have hl : lv_has ls 3 [(0, .ref (lo (b))), (1, .int (nI r)), (2, .int (nI c))] := hl
  generalize hav : ([.ref (lo (b)), .int (nI r), .int (nI c)] : List Value).toArray = av at cx ⊢
  generalize hvv : (some (.int (bI (decide (r < T.1 3 ∧ c < T.1 1)))) : Option Value) = vv
  have hx := cx.1
  have hb := cx.2.1
  have hown := cx.2.2.2.1
  have hts := cx.2.2.2.2
  obtain ⟨k1, k2, k3, k4, k5, k6, k7, k8, k9, k0⟩ := id hT
  refine lv_iload_n hx hb dX9_isCell_0 rfl (lv_at hl 1 rfl) ?_
  refine x_ifN_lt (tgt := 28) cx dX9_isCell_1 (by decide) (by omega) ?_
  refine lv_iload_n hx hb dX9_isCell_4 rfl (lv_at hl 1 rfl) ?_
  refine lv_aload_n hx hb dX9_isCell_5 rfl (lv_at hl 0 rfl) ?_
  refine x_get cx hk hw (ht.1) f_RX9_46_8 rfl dX9_isCell_6 ?_
  refine x_icmp_ge (tgt := 28) cx dX9_isCell_9 (by decide) (by omega) (fun h9_1 => ?_) (fun h9_1 => ?_)
  · skip
    refine lv_iconst (v := nI 0) hx hb dX9_isCell_28 rfl ?_
    exact x_zretF (b := decide (r < T.1 3 ∧ c < T.1 1)) cx hr hlk dX9_isCell_29 (by simp; omega) hvv
  · skip
    refine lv_iload_n hx hb dX9_isCell_12 rfl (lv_at hl 2 rfl) ?_
    refine x_ifN_lt (tgt := 28) cx dX9_isCell_13 (by decide) (by omega) ?_
    refine lv_iload_n hx hb dX9_isCell_16 rfl (lv_at hl 2 rfl) ?_
    refine lv_aload_n hx hb dX9_isCell_17 rfl (lv_at hl 0 rfl) ?_
    refine x_get cx hk hw (ht.1) f_RX9_28_8 rfl dX9_isCell_18 ?_
    refine x_icmp_ge (tgt := 28) cx dX9_isCell_21 (by decide) (by omega) (fun h21_2 => ?_) (fun h21_2 => ?_)
    · skip
      refine lv_iconst (v := nI 0) hx hb dX9_isCell_28 rfl ?_
      exact x_zretF (b := decide (r < T.1 3 ∧ c < T.1 1)) cx hr hlk dX9_isCell_29 (by simp; omega) hvv
    · skip
      refine lv_iconst (v := nI 1) hx hb dX9_isCell_24 rfl ?_
      refine lv_goto (tgt := 29) hx hb dX9_isCell_25 (by decide) ?_
      exact x_zretT (b := decide (r < T.1 3 ∧ c < T.1 1)) cx hr hlk dX9_isCell_29 (by simp; omega) hvv
set_option maxHeartbeats 4000000 in
set_option maxRecDepth 100000 in
theorem c_t_val {l : Launch} {G : x_G} {lo : x_L} {co : x_C} (b : Nat) (T : Tb) (ht : isTb G lo co b T) (hT : Tok T) (r c : Nat) (hr_ : r < 2 ^ 31) (hc_ : c < 2 ^ 31) : x_Rd l G lo co yX9_value cX9_value 3 (some .int) 2 [.ref (lo (b)), .int (nI r), .int (nI c)] (some (.int (nI (t_v T r c)))) := by
  refine x_enter RX9 rfl (by decide) (Nat.le_of_ble_eq_true rfl) ?_
  intro pp ee ss mm bb mt cd ls cx hk hw hr hlk hl
  have hl : lv_has ls 3 [(0, .ref (lo (b))), (1, .int (nI r)), (2, .int (nI c))] := hl
  generalize hav : ([.ref (lo (b)), .int (nI r), .int (nI c)] : List Value).toArray = av at cx ⊢
  generalize hvv : (some (.int (nI (t_v T r c))) : Option Value) = vv
  have hx := cx.1
  have hb := cx.2.1
  have hown := cx.2.2.2.1
  have hts := cx.2.2.2.2
  obtain ⟨k1, k2, k3, k4, k5, k6, k7, k8, k9, k0⟩ := id hT
  refine lv_aload_n hx hb dX9_value_0 rfl (lv_at hl 0 rfl) ?_
  refine lv_iload_n hx hb dX9_value_1 rfl (lv_at hl 1 rfl) ?_
  refine lv_iload_n hx hb dX9_value_2 rfl (lv_at hl 2 rfl) ?_
  refine x_rdV (av := [.int (nI r), .int (nI c)]) (rest := []) cx hk hw (ht.1) cv_RX9_53_8 (c_t_cell b T ht hT r c (by omega) (by omega)) hl.1 rfl rfl (Nat.le_of_ble_eq_true rfl) ⟨by decide, by decide⟩ ⟨Nat.zero_le _, Nat.zero_le _⟩ dX9_value_3 ?_
  refine x_if_eq (tgt := 22) cx dX9_value_6 (by decide) (fun h6_1 => ?_) (fun h6_1 => ?_)
  · skip
    refine lv_iconst (v := nI 0) hx hb dX9_value_22 rfl ?_
    exact x_iret cx hr hlk dX9_value_23 ((congrArg (fun z => some (Value.int (nI z))) (show 0 = t_v T r c from by first | (rw [t_v, if_pos (of_decide_eq_true (by assumption))]) | (rw [t_v, if_neg (of_decide_eq_false (by assumption))]))).trans hvv)
  · skip
    refine lv_aload_n hx hb dX9_value_9 rfl (lv_at hl 0 rfl) ?_
    refine x_get cx hk hw (ht.1) f_RX9_9_8 rfl dX9_value_10 ?_
    refine lv_iload_n hx hb dX9_value_13 rfl (lv_at hl 1 rfl) ?_
    refine lv_iconst (v := nI 4) hx hb dX9_value_14 rfl ?_
    refine x_imulN cx dX9_value_15 ?_
    refine lv_iload_n hx hb dX9_value_16 rfl (lv_at hl 2 rfl) ?_
    refine x_iaddN cx dX9_value_17 ?_
    refine x_ialdN cx hk hw (ht.2.1) (by simp_all; omega) (by decide) dX9_value_18 ?_
    refine lv_goto (tgt := 23) hx hb dX9_value_19 (by decide) ?_
    exact x_iret cx hr hlk dX9_value_23 ((congrArg (fun z => some (Value.int (nI z))) (show T.2 0 ((r * 4) + c) = t_v T r c from by first | (rw [t_v, if_pos (of_decide_eq_true (by assumption))]) | (rw [t_v, if_neg (of_decide_eq_false (by assumption))]))).trans hvv)
set_option maxHeartbeats 4000000 in
set_option maxRecDepth 100000 in
theorem c_t_pages {l : Launch} {G : x_G} {lo : x_L} {co : x_C} (b : Nat) (T : Tb) (ht : isTb G lo co b T) (hT : Tok T) : x_Rd l G lo co yX9_pages cX9_pages 1 (some .int) 2 [.ref (lo (b))] (some (.int (nI (s_up (T.1 3) (T.1 2))))) := by
  refine x_enter RX9 rfl (by decide) (Nat.le_of_ble_eq_true rfl) ?_
  intro pp ee ss mm bb mt cd ls cx hk hw hr hlk hl
  have hl : lv_has ls 1 [(0, .ref (lo (b)))] := hl
  generalize hav : ([.ref (lo (b))] : List Value).toArray = av at cx ⊢
  generalize hvv : (some (.int (nI (s_up (T.1 3) (T.1 2)))) : Option Value) = vv
  have hx := cx.1
  have hb := cx.2.1
  have hown := cx.2.2.2.1
  have hts := cx.2.2.2.2
  obtain ⟨k1, k2, k3, k4, k5, k6, k7, k8, k9, k0⟩ := id hT
  refine lv_aload_n hx hb dX9_pages_0 rfl (lv_at hl 0 rfl) ?_
  refine x_get cx hk hw (ht.1) f_RX9_46_8 rfl dX9_pages_1 ?_
  refine lv_aload_n hx hb dX9_pages_4 rfl (lv_at hl 0 rfl) ?_
  refine x_get cx hk hw (ht.1) f_RX9_31_8 rfl dX9_pages_5 ?_
  refine x_rdSN (av := [.int (nI (T.1 3)), .int (nI (T.1 2))]) (rest := []) cx hk hw cn_RX9_60 (c_up (T.1 3) (T.1 2) (by omega) (by omega)) hl.1 rfl rfl (Nat.le_of_ble_eq_true rfl) ⟨by decide, by decide⟩ ⟨Nat.zero_le _, Nat.zero_le _⟩ dX9_pages_8 ?_
  exact x_iret cx hr hlk dX9_pages_11 ((congrArg (fun z => some (Value.int (nI z))) (show s_up (T.1 3) (T.1 2) = s_up (T.1 3) (T.1 2) from by rfl)).trans hvv)
set_option maxHeartbeats 4000000 in
set_option maxRecDepth 100000 in
theorem c_t_cpages {l : Launch} {G : x_G} {lo : x_L} {co : x_C} (b : Nat) (T : Tb) (ht : isTb G lo co b T) (hT : Tok T) : x_Rd l G lo co yX9_countedPages cX9_countedPages 1 (some .int) 2 [.ref (lo (b))] (some (.int (nI (s_up (T.1 5) (T.1 2))))) := by
  refine x_enter RX9 rfl (by decide) (Nat.le_of_ble_eq_true rfl) ?_
  intro pp ee ss mm bb mt cd ls cx hk hw hr hlk hl
  have hl : lv_has ls 1 [(0, .ref (lo (b)))] := hl
  generalize hav : ([.ref (lo (b))] : List Value).toArray = av at cx ⊢
  generalize hvv : (some (.int (nI (s_up (T.1 5) (T.1 2)))) : Option Value) = vv
  have hx := cx.1
  have hb := cx.2.1
  have hown := cx.2.2.2.1
  have hts := cx.2.2.2.2
  obtain ⟨k1, k2, k3, k4, k5, k6, k7, k8, k9, k0⟩ := id hT
  refine lv_aload_n hx hb dX9_countedPages_0 rfl (lv_at hl 0 rfl) ?_
  refine x_get cx hk hw (ht.1) f_RX9_63_8 rfl dX9_countedPages_1 ?_
  refine lv_aload_n hx hb dX9_countedPages_4 rfl (lv_at hl 0 rfl) ?_
  refine x_get cx hk hw (ht.1) f_RX9_31_8 rfl dX9_countedPages_5 ?_
  refine x_rdSN (av := [.int (nI (T.1 5)), .int (nI (T.1 2))]) (rest := []) cx hk hw cn_RX9_60 (c_up (T.1 5) (T.1 2) (by omega) (by omega)) hl.1 rfl rfl (Nat.le_of_ble_eq_true rfl) ⟨by decide, by decide⟩ ⟨Nat.zero_le _, Nat.zero_le _⟩ dX9_countedPages_8 ?_
  exact x_iret cx hr hlk dX9_countedPages_11 ((congrArg (fun z => some (Value.int (nI z))) (show s_up (T.1 5) (T.1 2) = s_up (T.1 5) (T.1 2) from by rfl)).trans hvv)
set_option maxHeartbeats 4000000 in
set_option maxRecDepth 100000 in
theorem c_t_pageOf {l : Launch} {G : x_G} {lo : x_L} {co : x_C} (b : Nat) (T : Tb) (ht : isTb G lo co b T) (hT : Tok T) (r : Nat) (hr_ : r < 2 ^ 31) : x_Rd l G lo co yX9_pageOf cX9_pageOf 2 (some .int) 1 [.ref (lo (b)), .int (nI r)] (some (.int (nI (r / T.1 2)))) := by
  refine x_enter RX9 rfl (by decide) (Nat.le_of_ble_eq_true rfl) ?_
  intro pp ee ss mm bb mt cd ls cx hk hw hr hlk hl
  have hl : lv_has ls 2 [(0, .ref (lo (b))), (1, .int (nI r))] := hl
  generalize hav : ([.ref (lo (b)), .int (nI r)] : List Value).toArray = av at cx ⊢
  generalize hvv : (some (.int (nI (r / T.1 2))) : Option Value) = vv
  have hx := cx.1
  have hb := cx.2.1
  have hown := cx.2.2.2.1
  have hts := cx.2.2.2.2
  obtain ⟨k1, k2, k3, k4, k5, k6, k7, k8, k9, k0⟩ := id hT
  refine lv_aload_n hx hb dX9_pageOf_0 rfl (lv_at hl 0 rfl) ?_
  refine x_get cx hk hw (ht.1) f_RX9_31_8 rfl dX9_pageOf_1 ?_
  refine x_ifN_gt (tgt := 11) cx dX9_pageOf_4 (by decide) (by omega) (fun h4_1 => ?_) (fun h4_1 => ?_)
  · skip
    refine lv_iload_n hx hb dX9_pageOf_11 rfl (lv_at hl 1 rfl) ?_
    refine lv_aload_n hx hb dX9_pageOf_12 rfl (lv_at hl 0 rfl) ?_
    refine x_get cx hk hw (ht.1) f_RX9_31_8 rfl dX9_pageOf_13 ?_
    refine x_idivN cx (by omega) dX9_pageOf_16 ?_
    exact x_iret cx hr hlk dX9_pageOf_17 ((congrArg (fun z => some (Value.int (nI z))) (show r / (T.1 2) = r / T.1 2 from by first | rfl | omega)).trans hvv)
  · skip
    refine lv_iconst (v := nI 0) hx hb dX9_pageOf_7 rfl ?_
    refine lv_goto (tgt := 17) hx hb dX9_pageOf_8 (by decide) ?_
    exact x_iret cx hr hlk dX9_pageOf_17 ((congrArg (fun z => some (Value.int (nI z))) (show 0 = r / T.1 2 from by first | rfl | omega)).trans hvv)
set_option maxHeartbeats 4000000 in
set_option maxRecDepth 100000 in
theorem c_t_like {l : Launch} {G : x_G} {lo : x_L} {co : x_C} (b : Nat) (T : Tb) (ht : isTb G lo co b T) (hT : Tok T) (r o : Nat) (q : Nat) (hr_ : r < 2 ^ 31) (ho_ : o < 2 ^ 31) (hq_ : q < 2 ^ 31) : x_Rd l G lo co yX9_areAlike cX9_areAlike 5 (some .boolean) 3 [.ref (lo (b)), .int (nI r), .int (nI o), .int (nI q)] (some (.int (bI (t_like T r o q)))) := by
  refine x_enter RX9 rfl (by decide) (Nat.le_of_ble_eq_true rfl) ?_
  intro pp ee ss mm bb mt cd ls cx hk hw hr hlk hl
  have hl : lv_has ls 5 [(0, .ref (lo (b))), (1, .int (nI r)), (2, .int (nI o)), (3, .int (nI q))] := hl
  generalize hav : ([.ref (lo (b)), .int (nI r), .int (nI o), .int (nI q)] : List Value).toArray = av at cx ⊢
  generalize hvv : (some (.int (bI (t_like T r o q))) : Option Value) = vv
  have hx := cx.1
  have hb := cx.2.1
  have hown := cx.2.2.2.1
  have hts := cx.2.2.2.2
  obtain ⟨k1, k2, k3, k4, k5, k6, k7, k8, k9, k0⟩ := id hT
  refine lv_iconst (v := nI 0) hx hb dX9_areAlike_0 rfl ?_
  refine lv_istore (lv' := [(4, .int (nI 0)), (0, .ref (lo (b))), (1, .int (nI r)), (2, .int (nI o)), (3, .int (nI q))]) hx hb dX9_areAlike_1 hl (by decide) rfl (fun ls hl => ?_)
  have L3_1 : ∀ (n_ : Nat) (k : Nat), (k ≤ T.1 1) → (allN k (fun c => !q.testBit c || decide (t_v T r c = t_v T o c)) = true) → T.1 1 - k < n_ → ∀ (ls : Array Slot), lv_has ls 5 [(4, .int (nI k)), (0, .ref (lo (b))), (1, .int (nI r)), (2, .int (nI o)), (3, .int (nI q))] → x_w l 3 pp ee ss mm av bb mt cd vv 3 ls [] := by
    intro n_
    induction n_ with
    | zero => intro k hv hall hm_ ls hl; exact absurd hm_ (Nat.not_lt_zero _)
    | succ n_ ih3_1 =>
      intro k hv hall hm_ ls hl
      refine lv_iload hx hb dX9_areAlike_3 (lv_at hl 0 rfl) ?_
      refine lv_aload_n hx hb dX9_areAlike_5 rfl (lv_at hl 1 rfl) ?_
      refine x_get cx hk hw (ht.1) f_RX9_28_8 rfl dX9_areAlike_6 ?_
      refine x_icmp_ge (tgt := 46) cx dX9_areAlike_9 (by decide) (by first | omega | (have f1 := t_v_le hT r k; have f2 := t_v_le hT o k; omega)) (fun h9_2 => ?_) (fun h9_2 => ?_)
      · skip
        refine lv_iconst (v := nI 1) hx hb dX9_areAlike_46 rfl ?_
        exact x_zretT (b := t_like T r o q) cx hr hlk dX9_areAlike_47 (by rw [t_like, show T.1 1 = k by omega]; exact hall) hvv
      · skip
        refine lv_iload hx hb dX9_areAlike_12 (lv_at hl 0 rfl) ?_
        refine lv_iload_n hx hb dX9_areAlike_14 rfl (lv_at hl 4 rfl) ?_
        refine x_rdSN (av := [.int (nI k), .int (nI q)]) (rest := []) cx hk hw cn_RX9_91 (c_isIn k q (by omega) (by omega)) hl.1 rfl rfl (Nat.le_of_ble_eq_true rfl) ⟨by decide, by decide⟩ ⟨Nat.zero_le _, Nat.zero_le _⟩ dX9_areAlike_15 ?_
        refine x_if_eq (tgt := 40) cx dX9_areAlike_18 (by decide) (fun h18_3 => ?_) (fun h18_3 => ?_)
        · skip
          refine lv_iinc (v := nI (k + 1)) (lv' := [(4, .int (nI (k + 1))), (0, .ref (lo (b))), (1, .int (nI r)), (2, .int (nI o)), (3, .int (nI q))]) hx hb dX9_areAlike_40 hl (k := 0) rfl (nI_add _ 1) (by decide) rfl (fun ls hl => ?_)
          refine lv_goto (tgt := 3) hx hb dX9_areAlike_43 (by decide) ?_
          exact ih3_1 (k + 1) (by omega) (by exact allN_step hall (by simp [*])) (by omega) _ (lv_sub hl [0, 1, 2, 3, 4] rfl)
        · skip
          refine lv_aload_n hx hb dX9_areAlike_21 rfl (lv_at hl 1 rfl) ?_
          refine lv_iload_n hx hb dX9_areAlike_22 rfl (lv_at hl 2 rfl) ?_
          refine lv_iload hx hb dX9_areAlike_23 (lv_at hl 0 rfl) ?_
          refine x_rdV (av := [.int (nI r), .int (nI k)]) (rest := []) cx hk hw (ht.1) cv_RX9_56_8 (c_t_val b T ht hT r k (by omega) (by omega)) hl.1 rfl rfl (Nat.le_of_ble_eq_true rfl) ⟨by decide, by decide⟩ ⟨Nat.zero_le _, Nat.zero_le _⟩ dX9_areAlike_25 ?_
          refine lv_aload_n hx hb dX9_areAlike_28 rfl (lv_at hl 1 rfl) ?_
          refine lv_iload_n hx hb dX9_areAlike_29 rfl (lv_at hl 3 rfl) ?_
          refine lv_iload hx hb dX9_areAlike_30 (lv_at hl 0 rfl) ?_
          refine x_rdV (av := [.int (nI o), .int (nI k)]) (rest := [.int (nI (t_v T r k))]) cx hk hw (ht.1) cv_RX9_56_8 (c_t_val b T ht hT o k (by omega) (by omega)) hl.1 rfl rfl (Nat.le_of_ble_eq_true rfl) ⟨by decide, by decide⟩ ⟨Nat.zero_le _, Nat.zero_le _⟩ dX9_areAlike_32 ?_
          refine x_icmp_eq (tgt := 40) cx dX9_areAlike_35 (by decide) (by first | omega | (have f1 := t_v_le hT r k; have f2 := t_v_le hT o k; omega)) (fun h35_4 => ?_) (fun h35_4 => ?_)
          · skip
            refine lv_iinc (v := nI (k + 1)) (lv' := [(4, .int (nI (k + 1))), (0, .ref (lo (b))), (1, .int (nI r)), (2, .int (nI o)), (3, .int (nI q))]) hx hb dX9_areAlike_40 hl (k := 0) rfl (nI_add _ 1) (by decide) rfl (fun ls hl => ?_)
            refine lv_goto (tgt := 3) hx hb dX9_areAlike_43 (by decide) ?_
            exact ih3_1 (k + 1) (by omega) (by exact allN_step hall (by simp [*])) (by omega) _ (lv_sub hl [0, 1, 2, 3, 4] rfl)
          · skip
            refine lv_iconst (v := nI 0) hx hb dX9_areAlike_38 rfl ?_
            exact x_zretF (b := t_like T r o q) cx hr hlk dX9_areAlike_39 (by exact allN_no (k := k) (by omega) (by simp [*])) hvv
  exact L3_1 (_ + 1) 0 (by omega) (by rfl) (Nat.lt_succ_self _) _ (lv_sub hl [0, 1, 2, 3, 4] rfl)
set_option maxHeartbeats 4000000 in
set_option maxRecDepth 100000 in
theorem c_t_first {l : Launch} {G : x_G} {lo : x_L} {co : x_C} (b : Nat) (T : Tb) (ht : isTb G lo co b T) (hT : Tok T) (r q : Nat) (hr_ : r < 2 ^ 31) (hq_ : q < 2 ^ 31) : x_Rd l G lo co yX9_isFirstOfItsLike cX9_isFirstOfItsLike 4 (some .boolean) 4 [.ref (lo (b)), .int (nI r), .int (nI q)] (some (.int (bI (t_first T r q)))) := by
  refine x_enter RX9 rfl (by decide) (Nat.le_of_ble_eq_true rfl) ?_
  intro pp ee ss mm bb mt cd ls cx hk hw hr hlk hl
  have hl : lv_has ls 4 [(0, .ref (lo (b))), (1, .int (nI r)), (2, .int (nI q))] := hl
  generalize hav : ([.ref (lo (b)), .int (nI r), .int (nI q)] : List Value).toArray = av at cx ⊢
  generalize hvv : (some (.int (bI (t_first T r q))) : Option Value) = vv
  have hx := cx.1
  have hb := cx.2.1
  have hown := cx.2.2.2.1
  have hts := cx.2.2.2.2
  obtain ⟨k1, k2, k3, k4, k5, k6, k7, k8, k9, k0⟩ := id hT
  refine lv_iconst (v := nI 0) hx hb dX9_isFirstOfItsLike_0 rfl ?_
  refine lv_istore_n (lv' := [(3, .int (nI 0)), (0, .ref (lo (b))), (1, .int (nI r)), (2, .int (nI q))]) hx hb dX9_isFirstOfItsLike_1 rfl hl (by decide) rfl (fun ls hl => ?_)
  have L2_1 : ∀ (n_ : Nat) (k : Nat), (k ≤ r) → (allN k (fun e => !t_like T e r q) = true) → r - k < n_ → ∀ (ls : Array Slot), lv_has ls 4 [(3, .int (nI k)), (0, .ref (lo (b))), (1, .int (nI r)), (2, .int (nI q))] → x_w l 4 pp ee ss mm av bb mt cd vv 2 ls [] := by
    intro n_
    induction n_ with
    | zero => intro k hv hall hm_ ls hl; exact absurd hm_ (Nat.not_lt_zero _)
    | succ n_ ih2_1 =>
      intro k hv hall hm_ ls hl
      refine lv_iload_n hx hb dX9_isFirstOfItsLike_2 rfl (lv_at hl 0 rfl) ?_
      refine lv_iload_n hx hb dX9_isFirstOfItsLike_3 rfl (lv_at hl 2 rfl) ?_
      refine x_icmp_ge (tgt := 25) cx dX9_isFirstOfItsLike_4 (by decide) (by omega) (fun h4_2 => ?_) (fun h4_2 => ?_)
      · skip
        refine lv_iconst (v := nI 1) hx hb dX9_isFirstOfItsLike_25 rfl ?_
        exact x_zretT (b := t_first T r q) cx hr hlk dX9_isFirstOfItsLike_26 (by rw [t_first, show r = k by omega]; rw [show r = k by omega] at hall; exact hall) hvv
      · skip
        refine lv_aload_n hx hb dX9_isFirstOfItsLike_7 rfl (lv_at hl 1 rfl) ?_
        refine lv_iload_n hx hb dX9_isFirstOfItsLike_8 rfl (lv_at hl 0 rfl) ?_
        refine lv_iload_n hx hb dX9_isFirstOfItsLike_9 rfl (lv_at hl 2 rfl) ?_
        refine lv_iload_n hx hb dX9_isFirstOfItsLike_10 rfl (lv_at hl 3 rfl) ?_
        refine x_rdV (av := [.int (nI k), .int (nI r), .int (nI q)]) (rest := []) cx hk hw (ht.1) cv_RX9_88_8 (c_t_like b T ht hT k r q (by omega) (by omega) (by omega)) hl.1 rfl rfl (Nat.le_of_ble_eq_true rfl) ⟨by decide, by decide⟩ ⟨Nat.zero_le _, Nat.zero_le _⟩ dX9_isFirstOfItsLike_11 ?_
        refine x_if_eq (tgt := 19) cx dX9_isFirstOfItsLike_14 (by decide) (fun h14_3 => ?_) (fun h14_3 => ?_)
        · skip
          refine lv_iinc (v := nI (k + 1)) (lv' := [(3, .int (nI (k + 1))), (0, .ref (lo (b))), (1, .int (nI r)), (2, .int (nI q))]) hx hb dX9_isFirstOfItsLike_19 hl (k := 0) rfl (nI_add _ 1) (by decide) rfl (fun ls hl => ?_)
          refine lv_goto (tgt := 2) hx hb dX9_isFirstOfItsLike_22 (by decide) ?_
          exact ih2_1 (k + 1) (by omega) (by exact allN_step hall (by simp [*])) (by omega) _ (lv_sub hl [0, 1, 2, 3] rfl)
        · skip
          refine lv_iconst (v := nI 0) hx hb dX9_isFirstOfItsLike_17 rfl ?_
          exact x_zretF (b := t_first T r q) cx hr hlk dX9_isFirstOfItsLike_18 (by exact allN_no (k := k) (by omega) (by simp [*])) hvv
  exact L2_1 (_ + 1) 0 (by omega) (by rfl) (Nat.lt_succ_self _) _ (lv_sub hl [0, 1, 2, 3] rfl)
set_option maxHeartbeats 4000000 in
set_option maxRecDepth 100000 in
theorem c_t_unl {l : Launch} {G : x_G} {lo : x_L} {co : x_C} (b : Nat) (T : Tb) (ht : isTb G lo co b T) (hT : Tok T) (q : Nat) (hq_ : q < 2 ^ 31) : x_Rd l G lo co yX9_unlikeRows cX9_unlikeRows 4 (some .int) 5 [.ref (lo (b)), .int (nI q)] (some (.int (nI (t_unl T q)))) := by
  refine x_enter RX9 rfl (by decide) (Nat.le_of_ble_eq_true rfl) ?_
  intro pp ee ss mm bb mt cd ls cx hk hw hr hlk hl
  have hl : lv_has ls 4 [(0, .ref (lo (b))), (1, .int (nI q))] := hl
  generalize hav : ([.ref (lo (b)), .int (nI q)] : List Value).toArray = av at cx ⊢
  generalize hvv : (some (.int (nI (t_unl T q))) : Option Value) = vv
  have hx := cx.1
  have hb := cx.2.1
  have hown := cx.2.2.2.1
  have hts := cx.2.2.2.2
  obtain ⟨k1, k2, k3, k4, k5, k6, k7, k8, k9, k0⟩ := id hT
  refine lv_iconst (v := nI 0) hx hb dX9_unlikeRows_0 rfl ?_
  refine lv_istore_n (lv' := [(2, .int (nI 0)), (0, .ref (lo (b))), (1, .int (nI q))]) hx hb dX9_unlikeRows_1 rfl hl (by decide) rfl (fun ls hl => ?_)
  refine lv_iconst (v := nI 0) hx hb dX9_unlikeRows_2 rfl ?_
  refine lv_istore_n (lv' := [(3, .int (nI 0)), (2, .int (nI 0)), (0, .ref (lo (b))), (1, .int (nI q))]) hx hb dX9_unlikeRows_3 rfl hl (by decide) rfl (fun ls hl => ?_)
  have L4_1 : ∀ (n_ : Nat) (f : Nat) (k : Nat), (k ≤ T.1 3) → (f = cntN k (fun r => t_first T r q)) → T.1 3 - k < n_ → ∀ (ls : Array Slot), lv_has ls 4 [(3, .int (nI k)), (2, .int (nI f)), (0, .ref (lo (b))), (1, .int (nI q))] → x_w l 5 pp ee ss mm av bb mt cd vv 4 ls [] := by
    intro n_
    induction n_ with
    | zero => intro f k hv hf hm_ ls hl; exact absurd hm_ (Nat.not_lt_zero _)
    | succ n_ ih4_1 =>
      intro f k hv hf hm_ ls hl
      refine lv_iload_n hx hb dX9_unlikeRows_4 rfl (lv_at hl 0 rfl) ?_
      refine lv_aload_n hx hb dX9_unlikeRows_5 rfl (lv_at hl 2 rfl) ?_
      refine x_get cx hk hw (ht.1) f_RX9_46_8 rfl dX9_unlikeRows_6 ?_
      refine x_icmp_ge (tgt := 35) cx dX9_unlikeRows_9 (by decide) (by omega) (fun h9_2 => ?_) (fun h9_2 => ?_)
      · skip
        refine lv_iload_n hx hb dX9_unlikeRows_35 rfl (lv_at hl 1 rfl) ?_
        exact x_iret cx hr hlk dX9_unlikeRows_36 ((congrArg (fun z => some (Value.int (nI z))) (show f = t_unl T q from by rw [t_unl, hf, show T.1 3 = k by omega])).trans hvv)
      · skip
        refine lv_iload_n hx hb dX9_unlikeRows_12 rfl (lv_at hl 1 rfl) ?_
        refine lv_aload_n hx hb dX9_unlikeRows_13 rfl (lv_at hl 2 rfl) ?_
        refine lv_iload_n hx hb dX9_unlikeRows_14 rfl (lv_at hl 0 rfl) ?_
        refine lv_iload_n hx hb dX9_unlikeRows_15 rfl (lv_at hl 3 rfl) ?_
        refine x_rdV (av := [.int (nI k), .int (nI q)]) (rest := [.int (nI f)]) cx hk hw (ht.1) cv_RX9_85_8 (c_t_first b T ht hT k q (by omega) (by omega)) hl.1 rfl rfl (Nat.le_of_ble_eq_true rfl) ⟨by decide, by decide⟩ ⟨Nat.zero_le _, Nat.zero_le _⟩ dX9_unlikeRows_16 ?_
        have J27_3 : ∀ (y3_s0 : Nat) (ey3_s0 : y3_s0 = if (t_first T k q) = true then 1 else 0) (ls : Array Slot), lv_has ls 4 [(3, .int (nI k)), (2, .int (nI f)), (0, .ref (lo (b))), (1, .int (nI q))] → x_w l 5 pp ee ss mm av bb mt cd vv 27 ls [.int (nI y3_s0), .int (nI f)] := by
          intro y3_s0 ey3_s0 ls hl
          refine x_iaddN cx dX9_unlikeRows_27 ?_
          refine lv_istore_n (lv' := [(2, .int (nI (f + y3_s0))), (3, .int (nI k)), (0, .ref (lo (b))), (1, .int (nI q))]) hx hb dX9_unlikeRows_28 rfl hl (by decide) rfl (fun ls hl => ?_)
          refine lv_iinc (v := nI (k + 1)) (lv' := [(3, .int (nI (k + 1))), (2, .int (nI (f + y3_s0))), (0, .ref (lo (b))), (1, .int (nI q))]) hx hb dX9_unlikeRows_29 hl (k := 1) rfl (nI_add _ 1) (by decide) rfl (fun ls hl => ?_)
          refine lv_goto (tgt := 4) hx hb dX9_unlikeRows_32 (by decide) ?_
          exact ih4_1 (f + y3_s0) (k + 1) (by omega) (by rw [cntN, ← hf]; simp only [*]) (by omega) _ (lv_sub hl [0, 1, 2, 3] rfl)
        refine x_if_eq (tgt := 26) cx dX9_unlikeRows_19 (by decide) (fun h19_4 => ?_) (fun h19_4 => ?_)
        · skip
          refine lv_iconst (v := nI 0) hx hb dX9_unlikeRows_26 rfl ?_
          exact J27_3 0 (by rw [if_neg (fun q => Bool.noConfusion (h19_4.symm.trans q))]) _ (lv_sub hl [0, 1, 2, 3] rfl)
        · skip
          refine lv_iconst (v := nI 1) hx hb dX9_unlikeRows_22 rfl ?_
          refine lv_goto (tgt := 27) hx hb dX9_unlikeRows_23 (by decide) ?_
          exact J27_3 1 (by rw [if_pos h19_4]) _ (lv_sub hl [0, 1, 2, 3] rfl)
  exact L4_1 (_ + 1) 0 0 (by omega) (by rfl) (Nat.lt_succ_self _) _ (lv_sub hl [0, 1, 2, 3] rfl)
set_option maxHeartbeats 4000000 in
set_option maxRecDepth 100000 in
theorem c_t_groups {l : Launch} {G : x_G} {lo : x_L} {co : x_C} (b : Nat) (T : Tb) (ht : isTb G lo co b T) (hT : Tok T) (q : Nat) (hq_ : q < 2 ^ 31) : x_Rd l G lo co yX9_foretoldGroups cX9_foretoldGroups 4 (some .int) 2 [.ref (lo (b)), .int (nI q)] (some (.int (nI (t_groups T q)))) := by
  refine x_enter RX9 rfl (by decide) (Nat.le_of_ble_eq_true rfl) ?_
  intro pp ee ss mm bb mt cd ls cx hk hw hr hlk hl
  have hl : lv_has ls 4 [(0, .ref (lo (b))), (1, .int (nI q))] := hl
  generalize hav : ([.ref (lo (b)), .int (nI q)] : List Value).toArray = av at cx ⊢
  generalize hvv : (some (.int (nI (t_groups T q))) : Option Value) = vv
  have hx := cx.1
  have hb := cx.2.1
  have hown := cx.2.2.2.1
  have hts := cx.2.2.2.2
  obtain ⟨k1, k2, k3, k4, k5, k6, k7, k8, k9, k0⟩ := id hT
  refine lv_iconst (v := nI 1) hx hb dX9_foretoldGroups_0 rfl ?_
  refine lv_istore_n (lv' := [(2, .int (nI 1)), (0, .ref (lo (b))), (1, .int (nI q))]) hx hb dX9_foretoldGroups_1 rfl hl (by decide) rfl (fun ls hl => ?_)
  refine lv_iconst (v := nI 0) hx hb dX9_foretoldGroups_2 rfl ?_
  refine lv_istore_n (lv' := [(3, .int (nI 0)), (2, .int (nI 1)), (0, .ref (lo (b))), (1, .int (nI q))]) hx hb dX9_foretoldGroups_3 rfl hl (by decide) rfl (fun ls hl => ?_)
  have L4_1 : ∀ (n_ : Nat) (f : Nat) (k : Nat), (k ≤ T.1 1) → (f = t_grp T q k) → T.1 1 - k < n_ → ∀ (ls : Array Slot), lv_has ls 4 [(3, .int (nI k)), (2, .int (nI f)), (0, .ref (lo (b))), (1, .int (nI q))] → x_w l 2 pp ee ss mm av bb mt cd vv 4 ls [] := by
    intro n_
    induction n_ with
    | zero => intro f k hv hf hm_ ls hl; exact absurd hm_ (Nat.not_lt_zero _)
    | succ n_ ih4_1 =>
      intro f k hv hf hm_ ls hl
      refine lv_iload_n hx hb dX9_foretoldGroups_4 rfl (lv_at hl 0 rfl) ?_
      refine lv_aload_n hx hb dX9_foretoldGroups_5 rfl (lv_at hl 2 rfl) ?_
      refine x_get cx hk hw (ht.1) f_RX9_28_8 rfl dX9_foretoldGroups_6 ?_
      refine x_icmp_ge (tgt := 39) cx dX9_foretoldGroups_9 (by decide) (by omega) (fun h9_2 => ?_) (fun h9_2 => ?_)
      · skip
        have hfb : f ≤ 60 ^ 4 := by rw [hf]; exact Nat.le_trans (t_grp_le hT q k hv) (Nat.pow_le_pow_right (by decide) (by omega))
        have hfb2 : f < 2 ^ 31 := by omega
        refine lv_iload_n hx hb dX9_foretoldGroups_39 rfl (lv_at hl 1 rfl) ?_
        refine lv_aload_n hx hb dX9_foretoldGroups_40 rfl (lv_at hl 2 rfl) ?_
        refine x_get cx hk hw (ht.1) f_RX9_63_8 rfl dX9_foretoldGroups_41 ?_
        refine x_mmin cx hl.1 w_243 (by omega) w_244 w_8 w_245 ⟨Nat.le_of_ble_eq_true rfl, Nat.le_of_ble_eq_true rfl⟩ ⟨Nat.zero_le _, Nat.zero_le _⟩ dX9_foretoldGroups_44 ?_
        exact x_iret cx hr hlk dX9_foretoldGroups_47 ((congrArg (fun z => some (Value.int (nI z))) (show min f (T.1 5) = t_groups T q from by rw [t_groups, hf, show T.1 1 = k by omega])).trans hvv)
      · skip
        refine lv_iload_n hx hb dX9_foretoldGroups_12 rfl (lv_at hl 1 rfl) ?_
        refine lv_iload_n hx hb dX9_foretoldGroups_13 rfl (lv_at hl 0 rfl) ?_
        refine lv_iload_n hx hb dX9_foretoldGroups_14 rfl (lv_at hl 3 rfl) ?_
        refine x_rdSN (av := [.int (nI k), .int (nI q)]) (rest := [.int (nI f)]) cx hk hw cn_RX9_91 (c_isIn k q (by omega) (by omega)) hl.1 rfl rfl (Nat.le_of_ble_eq_true rfl) ⟨by decide, by decide⟩ ⟨Nat.zero_le _, Nat.zero_le _⟩ dX9_foretoldGroups_15 ?_
        have J31_3 : ∀ (y3_s0 : Nat) (ey3_s0 : y3_s0 = if (q.testBit k) = true then (T.2 1 k) else 1) (ls : Array Slot), lv_has ls 4 [(3, .int (nI k)), (2, .int (nI f)), (0, .ref (lo (b))), (1, .int (nI q))] → x_w l 2 pp ee ss mm av bb mt cd vv 31 ls [.int (nI y3_s0), .int (nI f)] := by
          intro y3_s0 ey3_s0 ls hl
          refine x_imulN cx dX9_foretoldGroups_31 ?_
          refine lv_istore_n (lv' := [(2, .int (nI (f * y3_s0))), (3, .int (nI k)), (0, .ref (lo (b))), (1, .int (nI q))]) hx hb dX9_foretoldGroups_32 rfl hl (by decide) rfl (fun ls hl => ?_)
          refine lv_iinc (v := nI (k + 1)) (lv' := [(3, .int (nI (k + 1))), (2, .int (nI (f * y3_s0))), (0, .ref (lo (b))), (1, .int (nI q))]) hx hb dX9_foretoldGroups_33 hl (k := 1) rfl (nI_add _ 1) (by decide) rfl (fun ls hl => ?_)
          refine lv_goto (tgt := 4) hx hb dX9_foretoldGroups_36 (by decide) ?_
          exact ih4_1 (f * y3_s0) (k + 1) (by omega) (by rw [t_grp, ← hf]; simp only [*]) (by omega) _ (lv_sub hl [0, 1, 2, 3] rfl)
        refine x_if_eq (tgt := 30) cx dX9_foretoldGroups_18 (by decide) (fun h18_4 => ?_) (fun h18_4 => ?_)
        · skip
          refine lv_iconst (v := nI 1) hx hb dX9_foretoldGroups_30 rfl ?_
          exact J31_3 1 (by rw [if_neg (fun q => Bool.noConfusion (h18_4.symm.trans q))]) _ (lv_sub hl [0, 1, 2, 3] rfl)
        · skip
          refine lv_aload_n hx hb dX9_foretoldGroups_21 rfl (lv_at hl 2 rfl) ?_
          refine x_get cx hk hw (ht.1) f_RX9_15_8 rfl dX9_foretoldGroups_22 ?_
          refine lv_iload_n hx hb dX9_foretoldGroups_25 rfl (lv_at hl 0 rfl) ?_
          refine x_ialdN cx hk hw (ht.2.2.1) (by omega) (by decide) dX9_foretoldGroups_26 ?_
          refine lv_goto (tgt := 31) hx hb dX9_foretoldGroups_27 (by decide) ?_
          exact J31_3 (T.2 1 k) (by rw [if_pos h18_4]) _ (lv_sub hl [0, 1, 2, 3] rfl)
  exact L4_1 (_ + 1) 1 0 (by omega) (by rfl) (Nat.lt_succ_self _) _ (lv_sub hl [0, 1, 2, 3] rfl)
set_option maxHeartbeats 4000000 in
set_option maxRecDepth 100000 in
theorem c_t_pass {l : Launch} {G : x_G} {lo : x_L} {co : x_C} (b : Nat) (T : Tb) (ht : isTb G lo co b T) (hT : Tok T) (m c f t : Nat) (hm_ : m ≤ 60) (hc_ : c < T.1 1) (hf_ : f ≤ 999) (ht_ : t ≤ 999) : x_Rd l G lo co yX9_foretoldPassing cX9_foretoldPassing 6 (some .int) 2 [.ref (lo (b)), .int (nI m), .int (nI c), .int (nI f), .int (nI t)] (some (.int (nI (t_pass T m c f t)))) := by
  refine x_enter RX9 rfl (by decide) (Nat.le_of_ble_eq_true rfl) ?_
  intro pp ee ss mm bb mt cd ls cx hk hw hr hlk hl
  have hl : lv_has ls 6 [(0, .ref (lo (b))), (1, .int (nI m)), (2, .int (nI c)), (3, .int (nI f)), (4, .int (nI t))] := hl
  generalize hav : ([.ref (lo (b)), .int (nI m), .int (nI c), .int (nI f), .int (nI t)] : List Value).toArray = av at cx ⊢
  generalize hvv : (some (.int (nI (t_pass T m c f t))) : Option Value) = vv
  have hx := cx.1
  have hb := cx.2.1
  have hown := cx.2.2.2.1
  have hts := cx.2.2.2.2
  obtain ⟨k1, k2, k3, k4, k5, k6, k7, k8, k9, k0⟩ := id hT
  obtain ⟨g1, g2, g3, g4⟩ := k9 c hc_
  have hhas : t_has T (nI c) = true := by rw [t_has_nI k2 (by omega)]; exact decide_eq_true hc_
  refine lv_aload_n hx hb dX9_foretoldPassing_0 rfl (lv_at hl 0 rfl) ?_
  refine lv_iload_n hx hb dX9_foretoldPassing_1 rfl (lv_at hl 2 rfl) ?_
  refine x_rdV (av := [.int (nI c)]) (rest := []) cx hk hw (ht.1) cv_RX9_34_8 (c_t_has b T ht (nI c)) hl.1 rfl rfl (Nat.le_of_ble_eq_true rfl) ⟨by decide, by decide⟩ ⟨Nat.zero_le _, Nat.zero_le _⟩ dX9_foretoldPassing_2 ?_
  refine x_if_ne (tgt := 10) cx dX9_foretoldPassing_5 (by decide) (fun h5_1 => ?_) (fun h5_1 => ?_)
  · skip
    refine lv_iload hx hb dX9_foretoldPassing_10 (lv_at hl 4 rfl) ?_
    refine lv_aload_n hx hb dX9_foretoldPassing_12 rfl (lv_at hl 0 rfl) ?_
    refine x_get cx hk hw (ht.1) f_RX9_21_8 rfl dX9_foretoldPassing_13 ?_
    refine lv_iload_n hx hb dX9_foretoldPassing_16 rfl (lv_at hl 2 rfl) ?_
    refine x_ialdN cx hk hw (ht.2.2.2.2) (by omega) (by decide) dX9_foretoldPassing_17 ?_
    refine x_mmin cx hl.1 w_243 (by omega) w_244 w_8 w_245 ⟨Nat.le_of_ble_eq_true rfl, Nat.le_of_ble_eq_true rfl⟩ ⟨Nat.zero_le _, Nat.zero_le _⟩ dX9_foretoldPassing_18 ?_
    refine lv_iload_n hx hb dX9_foretoldPassing_21 rfl (lv_at hl 3 rfl) ?_
    refine lv_aload_n hx hb dX9_foretoldPassing_22 rfl (lv_at hl 0 rfl) ?_
    refine x_get cx hk hw (ht.1) f_RX9_18_8 rfl dX9_foretoldPassing_23 ?_
    refine lv_iload_n hx hb dX9_foretoldPassing_26 rfl (lv_at hl 2 rfl) ?_
    refine x_ialdN cx hk hw (ht.2.2.2.1) (by omega) (by decide) dX9_foretoldPassing_27 ?_
    refine x_mmax cx hl.1 w_246 (by omega) w_247 w_8 w_248 ⟨Nat.le_of_ble_eq_true rfl, Nat.le_of_ble_eq_true rfl⟩ ⟨Nat.zero_le _, Nat.zero_le _⟩ dX9_foretoldPassing_28 ?_
    by_cases hab : max f (T.2 2 c) ≤ min t (T.2 3 c)
    · skip
      refine x_isubN cx (by omega) dX9_foretoldPassing_31 ?_
      refine lv_iconst (v := nI 1) hx hb dX9_foretoldPassing_32 rfl ?_
      refine x_iaddN cx dX9_foretoldPassing_33 ?_
      refine lv_istore (lv' := [(5, .int (nI (((min t (T.2 3 c)) - (max f (T.2 2 c))) + 1))), (0, .ref (lo (b))), (1, .int (nI m)), (2, .int (nI c)), (3, .int (nI f)), (4, .int (nI t))]) hx hb dX9_foretoldPassing_34 hl (by decide) rfl (fun ls hl => ?_)
      refine lv_iload_n hx hb dX9_foretoldPassing_36 rfl (lv_at hl 2 rfl) ?_
      refine x_ifN_le (tgt := 45) cx dX9_foretoldPassing_37 (by decide) (by omega) (fun h37_2 => ?_) (fun h37_2 => ?_)
      · skip
        refine lv_iconst (v := nI 0) hx hb dX9_foretoldPassing_45 rfl ?_
        exact x_iret cx hr hlk dX9_foretoldPassing_46 ((congrArg (fun z => some (Value.int (nI z))) (show 0 = t_pass T m c f t from by rw [t_pass, if_pos (by omega)])).trans hvv)
      · skip
        refine lv_iload hx hb dX9_foretoldPassing_40 (lv_at hl 0 rfl) ?_
        refine x_ifN_gt (tgt := 47) cx dX9_foretoldPassing_42 (by decide) (by omega) (fun h42_3 => ?_) (fun h42_3 => ?_)
        · skip
          refine lv_iload_n hx hb dX9_foretoldPassing_47 rfl (lv_at hl 4 rfl) ?_
          refine lv_iload hx hb dX9_foretoldPassing_48 (lv_at hl 5 rfl) ?_
          refine x_icmp_ne (tgt := 64) cx dX9_foretoldPassing_50 (by decide) (by omega) (fun h50_4 => ?_) (fun h50_4 => ?_)
          · skip
            refine lv_iload_n hx hb dX9_foretoldPassing_64 rfl (lv_at hl 2 rfl) ?_
            refine lv_iload hx hb dX9_foretoldPassing_65 (lv_at hl 0 rfl) ?_
            have hmw : m * (min t (T.2 3 c) - max f (T.2 2 c) + 1) ≤ 60 * 1000 := Nat.mul_le_mul hm_ (by omega)
            refine x_imulN cx dX9_foretoldPassing_67 ?_
            refine lv_aload_n hx hb dX9_foretoldPassing_68 rfl (lv_at hl 1 rfl) ?_
            refine x_get cx hk hw (ht.1) f_RX9_21_8 rfl dX9_foretoldPassing_69 ?_
            refine lv_iload_n hx hb dX9_foretoldPassing_72 rfl (lv_at hl 3 rfl) ?_
            refine x_ialdN cx hk hw (ht.2.2.2.2) (by omega) (by decide) dX9_foretoldPassing_73 ?_
            refine lv_aload_n hx hb dX9_foretoldPassing_74 rfl (lv_at hl 1 rfl) ?_
            refine x_get cx hk hw (ht.1) f_RX9_18_8 rfl dX9_foretoldPassing_75 ?_
            refine lv_iload_n hx hb dX9_foretoldPassing_78 rfl (lv_at hl 3 rfl) ?_
            refine x_ialdN cx hk hw (ht.2.2.2.1) (by omega) (by decide) dX9_foretoldPassing_79 ?_
            refine x_isubN cx (by omega) dX9_foretoldPassing_80 ?_
            refine lv_iconst (v := nI 1) hx hb dX9_foretoldPassing_81 rfl ?_
            refine x_iaddN cx dX9_foretoldPassing_82 ?_
            refine x_rdSN (av := [.int (nI (m * (((min t (T.2 3 c)) - (max f (T.2 2 c))) + 1))), .int (nI (((T.2 3 c) - (T.2 2 c)) + 1))]) (rest := []) cx hk hw cn_RX9_60 (c_up (m * (((min t (T.2 3 c)) - (max f (T.2 2 c))) + 1)) (((T.2 3 c) - (T.2 2 c)) + 1) (by omega) (by omega)) hl.1 rfl rfl (Nat.le_of_ble_eq_true rfl) ⟨by decide, by decide⟩ ⟨Nat.zero_le _, Nat.zero_le _⟩ dX9_foretoldPassing_83 ?_
            exact x_iret cx hr hlk dX9_foretoldPassing_86 ((congrArg (fun z => some (Value.int (nI z))) (show s_up (m * (((min t (T.2 3 c)) - (max f (T.2 2 c))) + 1)) (((T.2 3 c) - (T.2 2 c)) + 1) = t_pass T m c f t from by rw [t_pass, if_neg (by omega), if_neg (by omega)])).trans hvv)
          · skip
            refine lv_iload_n hx hb dX9_foretoldPassing_53 rfl (lv_at hl 2 rfl) ?_
            refine lv_aload_n hx hb dX9_foretoldPassing_54 rfl (lv_at hl 1 rfl) ?_
            refine x_get cx hk hw (ht.1) f_RX9_15_8 rfl dX9_foretoldPassing_55 ?_
            refine lv_iload_n hx hb dX9_foretoldPassing_58 rfl (lv_at hl 3 rfl) ?_
            refine x_ialdN cx hk hw (ht.2.2.1) (by omega) (by decide) dX9_foretoldPassing_59 ?_
            refine x_rdSN (av := [.int (nI m), .int (nI (T.2 1 c))]) (rest := []) cx hk hw cn_RX9_60 (c_up m (T.2 1 c) (by omega) (by omega)) hl.1 rfl rfl (Nat.le_of_ble_eq_true rfl) ⟨by decide, by decide⟩ ⟨Nat.zero_le _, Nat.zero_le _⟩ dX9_foretoldPassing_60 ?_
            exact x_iret cx hr hlk dX9_foretoldPassing_63 ((congrArg (fun z => some (Value.int (nI z))) (show s_up m (T.2 1 c) = t_pass T m c f t from by rw [t_pass, if_neg (by omega), if_pos (by omega)])).trans hvv)
        · skip
          refine lv_iconst (v := nI 0) hx hb dX9_foretoldPassing_45 rfl ?_
          exact x_iret cx hr hlk dX9_foretoldPassing_46 ((congrArg (fun z => some (Value.int (nI z))) (show 0 = t_pass T m c f t from by rw [t_pass, if_pos (by omega)])).trans hvv)
    · have hab2 : min t (T.2 3 c) < max f (T.2 2 c) := by omega
      refine lv_isub hx hb dX9_foretoldPassing_31 ?_
      refine lv_iconst (v := nI 1) hx hb dX9_foretoldPassing_32 rfl ?_
      refine lv_iadd hx hb dX9_foretoldPassing_33 ?_
      refine lv_istore (lv' := [(5, .int (((nI (min t (T.2 3 c))) - (nI (max f (T.2 2 c)))) + (nI 1))), (0, .ref (lo (b))), (1, .int (nI m)), (2, .int (nI c)), (3, .int (nI f)), (4, .int (nI t))]) hx hb dX9_foretoldPassing_34 hl (by decide) rfl (fun ls hl => ?_)
      refine lv_iload_n hx hb dX9_foretoldPassing_36 rfl (lv_at hl 2 rfl) ?_
      refine x_ifN_le (tgt := 45) cx dX9_foretoldPassing_37 (by decide) (by omega) (fun h37_5 => ?_) (fun h37_5 => ?_)
      · skip
        refine lv_iconst (v := nI 0) hx hb dX9_foretoldPassing_45 rfl ?_
        exact x_iret cx hr hlk dX9_foretoldPassing_46 ((congrArg (fun z => some (Value.int (nI z))) (show 0 = t_pass T m c f t from by rw [t_pass, if_pos (by omega)])).trans hvv)
      · skip
        refine lv_iload hx hb dX9_foretoldPassing_40 (lv_at hl 0 rfl) ?_
        refine lv_if_gt (tgt := 47) hx hb dX9_foretoldPassing_42 (by decide) (fun h42_6 => ?_) (fun h42_6 => ?_)
        · skip
          exact absurd (by assumption) (x_sneg (by omega) (by omega) hab2)
        · skip
          refine lv_iconst (v := nI 0) hx hb dX9_foretoldPassing_45 rfl ?_
          exact x_iret cx hr hlk dX9_foretoldPassing_46 ((congrArg (fun z => some (Value.int (nI z))) (show 0 = t_pass T m c f t from by rw [t_pass, if_pos (by omega)])).trans hvv)
  · skip
    rw [hhas] at *; contradiction
set_option maxHeartbeats 4000000 in
set_option maxRecDepth 100000 in
theorem c_t_cc {l : Launch} {G : x_G} {lo : x_L} {co : x_C} (b : Nat) (T : Tb) (ht : isTb G lo co b T) (hT : Tok T) (c w : Int32) : x_Rd l G lo co yX9_countOfColumn cX9_countOfColumn 3 (some .int) 2 [.ref (lo (b)), .int (c), .int (w)] (some (.int (t_cc T c w))) := by
  refine x_enter RX9 rfl (by decide) (Nat.le_of_ble_eq_true rfl) ?_
  intro pp ee ss mm bb mt cd ls cx hk hw hr hlk hl
  have hl : lv_has ls 3 [(0, .ref (lo (b))), (1, .int (c)), (2, .int (w))] := hl
  generalize hav : ([.ref (lo (b)), .int (c), .int (w)] : List Value).toArray = av at cx ⊢
  generalize hvv : (some (.int (t_cc T c w)) : Option Value) = vv
  have hx := cx.1
  have hb := cx.2.1
  have hown := cx.2.2.2.1
  have hts := cx.2.2.2.2
  obtain ⟨k1, k2, k3, k4, k5, k6, k7, k8, k9, k0⟩ := id hT
  refine lv_aload_n hx hb dX9_countOfColumn_0 rfl (lv_at hl 0 rfl) ?_
  refine lv_iload_n hx hb dX9_countOfColumn_1 rfl (lv_at hl 1 rfl) ?_
  refine x_rdV (av := [.int (c)]) (rest := []) cx hk hw (ht.1) cv_RX9_34_8 (c_t_has b T ht c) hl.1 rfl rfl (Nat.le_of_ble_eq_true rfl) ⟨by decide, by decide⟩ ⟨Nat.zero_le _, Nat.zero_le _⟩ dX9_countOfColumn_2 ?_
  refine x_if_ne (tgt := 10) cx dX9_countOfColumn_5 (by decide) (fun h5_1 => ?_) (fun h5_1 => ?_)
  · skip
    refine lv_iload_n hx hb dX9_countOfColumn_10 rfl (lv_at hl 2 rfl) ?_
    by_cases hs11_2 : w = 2
    · skip
      refine x_tin (tgt := 36) (off := 25) cx dX9_countOfColumn_11 hs11_2 (by decide) (by decide) (by decide) (by decide) ?_
      refine lv_aload_n hx hb dX9_countOfColumn_36 rfl (lv_at hl 0 rfl) ?_
      refine x_get cx hk hw (ht.1) f_RX9_15_8 rfl dX9_countOfColumn_37 ?_
      refine lv_iload_n hx hb dX9_countOfColumn_40 rfl (lv_at hl 1 rfl) ?_
      refine x_iald cx hk hw (ht.2.2.1) (by (obtain ⟨k, hk1, hk2⟩ := t_has_ex k2 (by assumption)); rw [hk2]; exact vp_in_nI (by omega) (by decide)) dX9_countOfColumn_41 ?_
      exact x_iret cx hr hlk dX9_countOfColumn_42 ((congrArg (fun z => some (Value.int z)) (show nI (T.2 1 c.toNatClampNeg) = t_cc T c w from by simp [t_cc, *])).trans hvv)
    by_cases hs11_3 : w = 3
    · skip
      refine x_tin (tgt := 43) (off := 32) cx dX9_countOfColumn_11 hs11_3 (by decide) (by decide) (by decide) (by decide) ?_
      refine lv_aload_n hx hb dX9_countOfColumn_43 rfl (lv_at hl 0 rfl) ?_
      refine x_get cx hk hw (ht.1) f_RX9_18_8 rfl dX9_countOfColumn_44 ?_
      refine lv_iload_n hx hb dX9_countOfColumn_47 rfl (lv_at hl 1 rfl) ?_
      refine x_iald cx hk hw (ht.2.2.2.1) (by (obtain ⟨k, hk1, hk2⟩ := t_has_ex k2 (by assumption)); rw [hk2]; exact vp_in_nI (by omega) (by decide)) dX9_countOfColumn_48 ?_
      exact x_iret cx hr hlk dX9_countOfColumn_49 ((congrArg (fun z => some (Value.int z)) (show nI (T.2 2 c.toNatClampNeg) = t_cc T c w from by simp [t_cc, *])).trans hvv)
    by_cases hs11_4 : w = 4
    · skip
      refine x_tin (tgt := 50) (off := 39) cx dX9_countOfColumn_11 hs11_4 (by decide) (by decide) (by decide) (by decide) ?_
      refine lv_aload_n hx hb dX9_countOfColumn_50 rfl (lv_at hl 0 rfl) ?_
      refine x_get cx hk hw (ht.1) f_RX9_21_8 rfl dX9_countOfColumn_51 ?_
      refine lv_iload_n hx hb dX9_countOfColumn_54 rfl (lv_at hl 1 rfl) ?_
      refine x_iald cx hk hw (ht.2.2.2.2) (by (obtain ⟨k, hk1, hk2⟩ := t_has_ex k2 (by assumption)); rw [hk2]; exact vp_in_nI (by omega) (by decide)) dX9_countOfColumn_55 ?_
      exact x_iret cx hr hlk dX9_countOfColumn_56 ((congrArg (fun z => some (Value.int z)) (show nI (T.2 3 c.toNatClampNeg) = t_cc T c w from by simp [t_cc, *])).trans hvv)
    refine x_tout (tgt := 57) (lo := 2) (hi := 4) cx dX9_countOfColumn_11 (by decide) (fun z h1 h2 => by rcases (show z = 2 ∨ z = 3 ∨ z = 4 by omega) with rfl | rfl | rfl <;> (first | exact hs11_2 | exact hs11_3 | exact hs11_4)) ?_
    refine lv_iconst (v := (-1)) hx hb dX9_countOfColumn_57 rfl ?_
    exact x_iret cx hr hlk dX9_countOfColumn_58 ((congrArg (fun z => some (Value.int z)) (show (-1) = t_cc T c w from by simp [t_cc, *])).trans hvv)
  · skip
    refine lv_iconst (v := (-1)) hx hb dX9_countOfColumn_8 rfl ?_
    exact x_iret cx hr hlk dX9_countOfColumn_9 ((congrArg (fun z => some (Value.int z)) (show (-1) = t_cc T c w from by simp [t_cc, *])).trans hvv)
