set_option maxHeartbeats 4000000 in
set_option maxRecDepth 100000 in
theorem c_q_tests {l : Launch} {G : x_G} {lo : x_L} {co : x_C} (b tb : Nat) (Q : Qn) (T : Tb) (hq : isQn G lo co b tb Q) (ht : isTb G lo co tb T) (hT : Tok T) (hQ : Qok T Q) (k : Nat) (hk_ : k < 2 ^ 31) : x_Rd l G lo co yX6_tests cX6_tests 2 (some .boolean) 1 [.ref (lo (b)), .int (nO k)] (some (.int (bI (q_t Q k)))) := by
  refine x_enter RX6 rfl (by decide) (Nat.le_of_ble_eq_true rfl) ?_
  intro pp ee ss mm bb mt cd ls cx hk hw hr hlk hl
  have hl : lv_has ls 2 [(0, .ref (lo (b))), (1, .int (nO k))] := hl
  generalize hav : ([.ref (lo (b)), .int (nO k)] : List Value).toArray = av at cx ⊢
  generalize hvv : (some (.int (bI (q_t Q k))) : Option Value) = vv
  have hx := cx.1
  have hb := cx.2.1
  have hown := cx.2.2.2.1
  have hts := cx.2.2.2.2
  obtain ⟨k1, k2, k3, k4, k5, k6, k7, k8, k9, k0⟩ := id hT
  obtain ⟨j1, j2, j3, j4, j5, j6⟩ := id hQ
  have h16 := Qok.t16 hT hQ
  rcases Nat.eq_zero_or_pos k with hk0 | hk0
  · have ek : nO k = (-1) := by rw [hk0]; rfl
    rw [ek] at hl
    refine lv_iload_n hx hb dX6_tests_0 rfl (lv_at hl 1 rfl) ?_
    refine lv_if_lt (tgt := 24) hx hb dX6_tests_1 (by decide) (fun h1_1 => ?_) (fun h1_1 => ?_)
    · skip
      refine lv_iconst (v := nI 0) hx hb dX6_tests_24 rfl ?_
      exact x_zretF (b := q_t Q k) cx hr hlk dX6_tests_25 (by first | (rw [hk0]; rfl) | (exact q_t_big h16 (by omega)) | (rw [q_ts (by omega)]; exact (nI_bit (by omega) (by omega)).mp (by assumption)) | (rw [q_ts (by omega), ← Bool.not_eq_false, ← nI_bit (n := Q.1 2) (j := k - 1) (by omega) (by omega)]; assumption)) hvv
    · skip
      exact absurd (show (-1 : Int32) < 0 by decide) (by assumption)
  · have ek : nO k = nI (k - 1) := nO_s (by omega)
    rw [ek] at hl
    refine lv_iload_n hx hb dX6_tests_0 rfl (lv_at hl 1 rfl) ?_
    refine x_ifN_lt (tgt := 24) cx dX6_tests_1 (by decide) (by omega) ?_
    refine lv_iload_n hx hb dX6_tests_4 rfl (lv_at hl 1 rfl) ?_
    refine lv_iconst (v := nI 4) hx hb dX6_tests_5 rfl ?_
    refine x_icmp_ge (tgt := 24) cx dX6_tests_6 (by decide) (by omega) (fun h6_2 => ?_) (fun h6_2 => ?_)
    · skip
      refine lv_iconst (v := nI 0) hx hb dX6_tests_24 rfl ?_
      exact x_zretF (b := q_t Q k) cx hr hlk dX6_tests_25 (by first | (rw [hk0]; rfl) | (exact q_t_big h16 (by omega)) | (rw [q_ts (by omega)]; exact (nI_bit (by omega) (by omega)).mp (by assumption)) | (rw [q_ts (by omega), ← Bool.not_eq_false, ← nI_bit (n := Q.1 2) (j := k - 1) (by omega) (by omega)]; assumption)) hvv
    · skip
      refine lv_aload_n hx hb dX6_tests_9 rfl (lv_at hl 0 rfl) ?_
      refine x_get cx hk hw (hq.1) f_RX6_36_5 rfl dX6_tests_10 ?_
      refine lv_iconst (v := nI 1) hx hb dX6_tests_13 rfl ?_
      refine lv_iload_n hx hb dX6_tests_14 rfl (lv_at hl 1 rfl) ?_
      refine lv_ishl hx hb dX6_tests_15 ?_
      refine lv_iand hx hb dX6_tests_16 ?_
      refine lv_if_eq (tgt := 24) hx hb dX6_tests_17 (by decide) (fun h17_3 => ?_) (fun h17_3 => ?_)
      · skip
        refine lv_iconst (v := nI 0) hx hb dX6_tests_24 rfl ?_
        exact x_zretF (b := q_t Q k) cx hr hlk dX6_tests_25 (by first | (rw [hk0]; rfl) | (exact q_t_big h16 (by omega)) | (rw [q_ts (by omega)]; exact (nI_bit (by omega) (by omega)).mp (by assumption)) | (rw [q_ts (by omega), ← Bool.not_eq_false, ← nI_bit (n := Q.1 2) (j := k - 1) (by omega) (by omega)]; assumption)) hvv
      · skip
        refine lv_iconst (v := nI 1) hx hb dX6_tests_20 rfl ?_
        refine lv_goto (tgt := 25) hx hb dX6_tests_21 (by decide) ?_
        exact x_zretT (b := q_t Q k) cx hr hlk dX6_tests_25 (by first | (rw [hk0]; rfl) | (exact q_t_big h16 (by omega)) | (rw [q_ts (by omega)]; exact (nI_bit (by omega) (by omega)).mp (by assumption)) | (rw [q_ts (by omega), ← Bool.not_eq_false, ← nI_bit (n := Q.1 2) (j := k - 1) (by omega) (by omega)]; assumption)) hvv
set_option maxHeartbeats 4000000 in
set_option maxRecDepth 100000 in
theorem c_q_like {l : Launch} {G : x_G} {lo : x_L} {co : x_C} (b tb : Nat) (Q : Qn) (T : Tb) (hq : isQn G lo co b tb Q) (ht : isTb G lo co tb T) (hT : Tok T) (hQ : Qok T Q) (k : Nat) (hk_ : k < 2 ^ 31) : x_Rd l G lo co yX6_testsAlike cX6_testsAlike 2 (some .boolean) 2 [.ref (lo (b)), .int (nO k)] (some (.int (bI (q_like Q k)))) := by
  refine x_enter RX6 rfl (by decide) (Nat.le_of_ble_eq_true rfl) ?_
  intro pp ee ss mm bb mt cd ls cx hk hw hr hlk hl
  have hl : lv_has ls 2 [(0, .ref (lo (b))), (1, .int (nO k))] := hl
  generalize hav : ([.ref (lo (b)), .int (nO k)] : List Value).toArray = av at cx ⊢
  generalize hvv : (some (.int (bI (q_like Q k))) : Option Value) = vv
  have hx := cx.1
  have hb := cx.2.1
  have hown := cx.2.2.2.1
  have hts := cx.2.2.2.2
  obtain ⟨k1, k2, k3, k4, k5, k6, k7, k8, k9, k0⟩ := id hT
  obtain ⟨j1, j2, j3, j4, j5, j6⟩ := id hQ
  have h16 := Qok.t16 hT hQ
  refine lv_aload_n hx hb dX6_testsAlike_0 rfl (lv_at hl 0 rfl) ?_
  refine lv_iload_n hx hb dX6_testsAlike_1 rfl (lv_at hl 1 rfl) ?_
  refine x_rdV (av := [.int (nO k)]) (rest := []) cx hk hw (hq.1) cv_RX6_43_5 (c_q_tests b tb Q T hq ht hT hQ k (by omega)) hl.1 rfl rfl (Nat.le_of_ble_eq_true rfl) ⟨by decide, by decide⟩ ⟨Nat.zero_le _, Nat.zero_le _⟩ dX6_testsAlike_2 ?_
  refine x_if_eq (tgt := 27) cx dX6_testsAlike_5 (by decide) (fun h5_1 => ?_) (fun h5_1 => ?_)
  · skip
    refine lv_iconst (v := nI 0) hx hb dX6_testsAlike_27 rfl ?_
    exact x_zretF (b := q_like Q k) cx hr hlk dX6_testsAlike_28 (by simp [q_like, *]) hvv
  · skip
    have tk : k ≠ 0 ∧ k - 1 < 4 := q_t4 (by assumption) h16
    have ek : nO k = nI (k - 1) := nO_s tk.1
    rw [ek] at hl
    refine lv_aload_n hx hb dX6_testsAlike_8 rfl (lv_at hl 0 rfl) ?_
    refine x_get cx hk hw (hq.1) f_RX6_9_5 rfl dX6_testsAlike_9 ?_
    refine lv_iload_n hx hb dX6_testsAlike_12 rfl (lv_at hl 1 rfl) ?_
    refine x_ialdN cx hk hw (hq.2.1) (by omega) (by decide) dX6_testsAlike_13 ?_
    refine lv_aload_n hx hb dX6_testsAlike_14 rfl (lv_at hl 0 rfl) ?_
    refine x_get cx hk hw (hq.1) f_RX6_15_5 rfl dX6_testsAlike_15 ?_
    refine lv_iload_n hx hb dX6_testsAlike_18 rfl (lv_at hl 1 rfl) ?_
    refine x_ialdN cx hk hw (hq.2.2) (by omega) (by decide) dX6_testsAlike_19 ?_
    refine x_icmp_ne (tgt := 27) cx dX6_testsAlike_20 (by decide) (by have q := j6 (k - 1) (by omega); omega) (fun h20_2 => ?_) (fun h20_2 => ?_)
    · skip
      refine lv_iconst (v := nI 0) hx hb dX6_testsAlike_27 rfl ?_
      exact x_zretF (b := q_like Q k) cx hr hlk dX6_testsAlike_28 (by simp [q_like, *]) hvv
    · skip
      refine lv_iconst (v := nI 1) hx hb dX6_testsAlike_23 rfl ?_
      refine lv_goto (tgt := 28) hx hb dX6_testsAlike_24 (by decide) ?_
      exact x_zretT (b := q_like Q k) cx hr hlk dX6_testsAlike_28 (by simp [q_like, *]) hvv
set_option maxHeartbeats 4000000 in
set_option maxRecDepth 100000 in
theorem c_q_in {l : Launch} {G : x_G} {lo : x_L} {co : x_C} (b tb : Nat) (Q : Qn) (T : Tb) (hq : isQn G lo co b tb Q) (ht : isTb G lo co tb T) (hT : Tok T) (hQ : Qok T Q) (c f t : Nat) (hc_ : c < 4) (hf_ : f < 2 ^ 31) (ht_ : t < 2 ^ 31) : x_Rd l G lo co yX6_testsWithin cX6_testsWithin 4 (some .boolean) 2 [.ref (lo (b)), .int (nI c), .int (nI f), .int (nI t)] (some (.int (bI (q_in Q c f t)))) := by
  refine x_enter RX6 rfl (by decide) (Nat.le_of_ble_eq_true rfl) ?_
  intro pp ee ss mm bb mt cd ls cx hk hw hr hlk hl
  have hl : lv_has ls 4 [(0, .ref (lo (b))), (1, .int (nI c)), (2, .int (nI f)), (3, .int (nI t))] := hl
  generalize hav : ([.ref (lo (b)), .int (nI c), .int (nI f), .int (nI t)] : List Value).toArray = av at cx ⊢
  generalize hvv : (some (.int (bI (q_in Q c f t))) : Option Value) = vv
  have hx := cx.1
  have hb := cx.2.1
  have hown := cx.2.2.2.1
  have hts := cx.2.2.2.2
  obtain ⟨k1, k2, k3, k4, k5, k6, k7, k8, k9, k0⟩ := id hT
  obtain ⟨j1, j2, j3, j4, j5, j6⟩ := id hQ
  have h16 := Qok.t16 hT hQ
  have q6 := j6 c hc_
  refine lv_aload_n hx hb dX6_testsWithin_0 rfl (lv_at hl 0 rfl) ?_
  refine lv_iload_n hx hb dX6_testsWithin_1 rfl (lv_at hl 1 rfl) ?_
  refine x_rdV (av := [.int (nI c)]) (rest := []) cx hk hw (hq.1) cv_RX6_43_5 (c_q_tests b tb Q T hq ht hT hQ (c + 1) (by omega)) hl.1 rfl rfl (Nat.le_of_ble_eq_true rfl) ⟨by decide, by decide⟩ ⟨Nat.zero_le _, Nat.zero_le _⟩ dX6_testsWithin_2 ?_
  refine x_if_eq (tgt := 32) cx dX6_testsWithin_5 (by decide) (fun h5_1 => ?_) (fun h5_1 => ?_)
  · skip
    refine lv_iconst (v := nI 0) hx hb dX6_testsWithin_32 rfl ?_
    exact x_zretF (b := q_in Q c f t) cx hr hlk dX6_testsWithin_33 (by first | (simp_all [q_in, q_t]; done) | (simp_all [q_in, q_t]; omega)) hvv
  · skip
    refine lv_aload_n hx hb dX6_testsWithin_8 rfl (lv_at hl 0 rfl) ?_
    refine x_get cx hk hw (hq.1) f_RX6_9_5 rfl dX6_testsWithin_9 ?_
    refine lv_iload_n hx hb dX6_testsWithin_12 rfl (lv_at hl 1 rfl) ?_
    refine x_ialdN cx hk hw (hq.2.1) (by omega) (by decide) dX6_testsWithin_13 ?_
    refine lv_iload_n hx hb dX6_testsWithin_14 rfl (lv_at hl 2 rfl) ?_
    refine x_icmp_lt (tgt := 32) cx dX6_testsWithin_15 (by decide) (by omega) (fun h15_2 => ?_) (fun h15_2 => ?_)
    · skip
      refine lv_iconst (v := nI 0) hx hb dX6_testsWithin_32 rfl ?_
      exact x_zretF (b := q_in Q c f t) cx hr hlk dX6_testsWithin_33 (by first | (simp_all [q_in, q_t]; done) | (simp_all [q_in, q_t]; omega)) hvv
    · skip
      refine lv_aload_n hx hb dX6_testsWithin_18 rfl (lv_at hl 0 rfl) ?_
      refine x_get cx hk hw (hq.1) f_RX6_15_5 rfl dX6_testsWithin_19 ?_
      refine lv_iload_n hx hb dX6_testsWithin_22 rfl (lv_at hl 1 rfl) ?_
      refine x_ialdN cx hk hw (hq.2.2) (by omega) (by decide) dX6_testsWithin_23 ?_
      refine lv_iload_n hx hb dX6_testsWithin_24 rfl (lv_at hl 3 rfl) ?_
      refine x_icmp_gt (tgt := 32) cx dX6_testsWithin_25 (by decide) (by omega) (fun h25_3 => ?_) (fun h25_3 => ?_)
      · skip
        refine lv_iconst (v := nI 0) hx hb dX6_testsWithin_32 rfl ?_
        exact x_zretF (b := q_in Q c f t) cx hr hlk dX6_testsWithin_33 (by first | (simp_all [q_in, q_t]; done) | (simp_all [q_in, q_t]; omega)) hvv
      · skip
        refine lv_iconst (v := nI 1) hx hb dX6_testsWithin_28 rfl ?_
        refine lv_goto (tgt := 33) hx hb dX6_testsWithin_29 (by decide) ?_
        exact x_zretT (b := q_in Q c f t) cx hr hlk dX6_testsWithin_33 (by first | (simp_all [q_in, q_t]; done) | (simp_all [q_in, q_t]; omega)) hvv
set_option maxHeartbeats 4000000 in
set_option maxRecDepth 100000 in
theorem c_q_pass {l : Launch} {G : x_G} {lo : x_L} {co : x_C} (b tb : Nat) (Q : Qn) (T : Tb) (hq : isQn G lo co b tb Q) (ht : isTb G lo co tb T) (hT : Tok T) (hQ : Qok T Q) (m k : Nat) (hm_ : m ≤ 60) (hk_ : k < 2 ^ 31) : x_Rd l G lo co yX6_foretoldPassing cX6_foretoldPassing 3 (some .int) 3 [.ref (lo (b)), .int (nI m), .int (nO k)] (some (.int (nI (q_pass T Q m k)))) := by
  refine x_enter RX6 rfl (by decide) (Nat.le_of_ble_eq_true rfl) ?_
  intro pp ee ss mm bb mt cd ls cx hk hw hr hlk hl
  have hl : lv_has ls 3 [(0, .ref (lo (b))), (1, .int (nI m)), (2, .int (nO k))] := hl
  generalize hav : ([.ref (lo (b)), .int (nI m), .int (nO k)] : List Value).toArray = av at cx ⊢
  generalize hvv : (some (.int (nI (q_pass T Q m k))) : Option Value) = vv
  have hx := cx.1
  have hb := cx.2.1
  have hown := cx.2.2.2.1
  have hts := cx.2.2.2.2
  obtain ⟨k1, k2, k3, k4, k5, k6, k7, k8, k9, k0⟩ := id hT
  obtain ⟨j1, j2, j3, j4, j5, j6⟩ := id hQ
  have h16 := Qok.t16 hT hQ
  refine lv_aload_n hx hb dX6_foretoldPassing_0 rfl (lv_at hl 0 rfl) ?_
  refine lv_iload_n hx hb dX6_foretoldPassing_1 rfl (lv_at hl 2 rfl) ?_
  refine x_rdV (av := [.int (nO k)]) (rest := []) cx hk hw (hq.1) cv_RX6_43_5 (c_q_tests b tb Q T hq ht hT hQ k (by omega)) hl.1 rfl rfl (Nat.le_of_ble_eq_true rfl) ⟨by decide, by decide⟩ ⟨Nat.zero_le _, Nat.zero_le _⟩ dX6_foretoldPassing_2 ?_
  refine x_if_eq (tgt := 32) cx dX6_foretoldPassing_5 (by decide) (fun h5_1 => ?_) (fun h5_1 => ?_)
  · skip
    refine lv_iload_n hx hb dX6_foretoldPassing_32 rfl (lv_at hl 1 rfl) ?_
    exact x_iret cx hr hlk dX6_foretoldPassing_33 ((congrArg (fun z => some (Value.int (nI z))) (show m = q_pass T Q m k from by simp [q_pass, *])).trans hvv)
  · skip
    have tk := q_tc hQ (by assumption)
    have ek : nO k = nI (k - 1) := nO_s tk.1
    rw [ek] at hl
    have q6 := j6 (k - 1) (by omega)
    refine lv_aload_n hx hb dX6_foretoldPassing_8 rfl (lv_at hl 0 rfl) ?_
    refine x_get cx hk hw (hq.1) f_RX6_18_5 rfl dX6_foretoldPassing_9 ?_
    refine lv_iload_n hx hb dX6_foretoldPassing_12 rfl (lv_at hl 1 rfl) ?_
    refine lv_iload_n hx hb dX6_foretoldPassing_13 rfl (lv_at hl 2 rfl) ?_
    refine lv_aload_n hx hb dX6_foretoldPassing_14 rfl (lv_at hl 0 rfl) ?_
    refine x_get cx hk hw (hq.1) f_RX6_9_5 rfl dX6_foretoldPassing_15 ?_
    refine lv_iload_n hx hb dX6_foretoldPassing_18 rfl (lv_at hl 2 rfl) ?_
    refine x_ialdN cx hk hw (hq.2.1) (by omega) (by decide) dX6_foretoldPassing_19 ?_
    refine lv_aload_n hx hb dX6_foretoldPassing_20 rfl (lv_at hl 0 rfl) ?_
    refine x_get cx hk hw (hq.1) f_RX6_15_5 rfl dX6_foretoldPassing_21 ?_
    refine lv_iload_n hx hb dX6_foretoldPassing_24 rfl (lv_at hl 2 rfl) ?_
    refine x_ialdN cx hk hw (hq.2.2) (by omega) (by decide) dX6_foretoldPassing_25 ?_
    refine x_rdV (av := [.int (nI m), .int (nI (k - 1)), .int (nI (Q.2 0 (k - 1))), .int (nI (Q.2 1 (k - 1)))]) (rest := []) cx hk hw (ht.1) cv_RX6_47_8 (c_t_pass tb T ht hT m (k - 1) (Q.2 0 (k - 1)) (Q.2 1 (k - 1)) (by omega) (by omega) (by omega) (by omega)) hl.1 rfl rfl (Nat.le_of_ble_eq_true rfl) ⟨by decide, by decide⟩ ⟨Nat.zero_le _, Nat.zero_le _⟩ dX6_foretoldPassing_26 ?_
    refine lv_goto (tgt := 33) hx hb dX6_foretoldPassing_29 (by decide) ?_
    exact x_iret cx hr hlk dX6_foretoldPassing_33 ((congrArg (fun z => some (Value.int (nI z))) (show t_pass T m (k - 1) (Q.2 0 (k - 1)) (Q.2 1 (k - 1)) = q_pass T Q m k from by simp [q_pass, *])).trans hvv)
set_option maxHeartbeats 4000000 in
set_option maxRecDepth 100000 in
theorem c_q_pat {l : Launch} {G : x_G} {lo : x_L} {co : x_C} (b tb : Nat) (Q : Qn) (T : Tb) (hq : isQn G lo co b tb Q) (ht : isTb G lo co tb T) (hT : Tok T) (hQ : Qok T Q) (r k : Nat) (hr_ : r < 2 ^ 31) (hk_ : k < 2 ^ 31) : x_Rd l G lo co yX6_passesAt cX6_passesAt 3 (some .boolean) 3 [.ref (lo (b)), .int (nI r), .int (nO k)] (some (.int (bI (q_pat T Q r k)))) := by
  refine x_enter RX6 rfl (by decide) (Nat.le_of_ble_eq_true rfl) ?_
  intro pp ee ss mm bb mt cd ls cx hk hw hr hlk hl
  have hl : lv_has ls 3 [(0, .ref (lo (b))), (1, .int (nI r)), (2, .int (nO k))] := hl
  generalize hav : ([.ref (lo (b)), .int (nI r), .int (nO k)] : List Value).toArray = av at cx ⊢
  generalize hvv : (some (.int (bI (q_pat T Q r k))) : Option Value) = vv
  have hx := cx.1
  have hb := cx.2.1
  have hown := cx.2.2.2.1
  have hts := cx.2.2.2.2
  obtain ⟨k1, k2, k3, k4, k5, k6, k7, k8, k9, k0⟩ := id hT
  obtain ⟨j1, j2, j3, j4, j5, j6⟩ := id hQ
  have h16 := Qok.t16 hT hQ
  refine lv_aload_n hx hb dX6_passesAt_0 rfl (lv_at hl 0 rfl) ?_
  refine lv_iload_n hx hb dX6_passesAt_1 rfl (lv_at hl 2 rfl) ?_
  refine x_rdV (av := [.int (nO k)]) (rest := []) cx hk hw (hq.1) cv_RX6_43_5 (c_q_tests b tb Q T hq ht hT hQ k (by omega)) hl.1 rfl rfl (Nat.le_of_ble_eq_true rfl) ⟨by decide, by decide⟩ ⟨Nat.zero_le _, Nat.zero_le _⟩ dX6_passesAt_2 ?_
  refine x_if_eq (tgt := 35) cx dX6_passesAt_5 (by decide) (fun h5_1 => ?_) (fun h5_1 => ?_)
  · skip
    refine lv_iconst (v := nI 1) hx hb dX6_passesAt_35 rfl ?_
    refine lv_goto (tgt := 40) hx hb dX6_passesAt_36 (by decide) ?_
    exact x_zretT (b := q_pat T Q r k) cx hr hlk dX6_passesAt_40 (by simp_all [q_pat]) hvv
  · skip
    have tk := q_tc hQ (by assumption)
    have ek : nO k = nI (k - 1) := nO_s tk.1
    rw [ek] at hl
    have q6 := j6 (k - 1) (by omega)
    have q7 := t_v_le hT r (k - 1)
    refine lv_aload_n hx hb dX6_passesAt_8 rfl (lv_at hl 0 rfl) ?_
    refine x_get cx hk hw (hq.1) f_RX6_18_5 rfl dX6_passesAt_9 ?_
    refine lv_iload_n hx hb dX6_passesAt_12 rfl (lv_at hl 1 rfl) ?_
    refine lv_iload_n hx hb dX6_passesAt_13 rfl (lv_at hl 2 rfl) ?_
    refine x_rdV (av := [.int (nI r), .int (nI (k - 1))]) (rest := []) cx hk hw (ht.1) cv_RX6_53_8 (c_t_val tb T ht hT r (k - 1) (by omega) (by omega)) hl.1 rfl rfl (Nat.le_of_ble_eq_true rfl) ⟨by decide, by decide⟩ ⟨Nat.zero_le _, Nat.zero_le _⟩ dX6_passesAt_14 ?_
    refine lv_aload_n hx hb dX6_passesAt_17 rfl (lv_at hl 0 rfl) ?_
    refine x_get cx hk hw (hq.1) f_RX6_9_5 rfl dX6_passesAt_18 ?_
    refine lv_iload_n hx hb dX6_passesAt_21 rfl (lv_at hl 2 rfl) ?_
    refine x_ialdN cx hk hw (hq.2.1) (by omega) (by decide) dX6_passesAt_22 ?_
    refine lv_aload_n hx hb dX6_passesAt_23 rfl (lv_at hl 0 rfl) ?_
    refine x_get cx hk hw (hq.1) f_RX6_15_5 rfl dX6_passesAt_24 ?_
    refine lv_iload_n hx hb dX6_passesAt_27 rfl (lv_at hl 2 rfl) ?_
    refine x_ialdN cx hk hw (hq.2.2) (by omega) (by decide) dX6_passesAt_28 ?_
    refine x_rdSN (av := [.int (nI (t_v T r (k - 1))), .int (nI (Q.2 0 (k - 1))), .int (nI (Q.2 1 (k - 1)))]) (rest := []) cx hk hw cn_RX6_32 (c_btw (nI (t_v T r (k - 1))) (nI (Q.2 0 (k - 1))) (nI (Q.2 1 (k - 1)))) hl.1 rfl rfl (Nat.le_of_ble_eq_true rfl) ⟨by decide, by decide⟩ ⟨Nat.zero_le _, Nat.zero_le _⟩ dX6_passesAt_29 ?_
    rw [s_btw_nI (by omega) (by omega) (by omega)]
    refine x_if_eq (tgt := 39) cx dX6_passesAt_32 (by decide) (fun h32_2 => ?_) (fun h32_2 => ?_)
    · skip
      refine lv_iconst (v := nI 0) hx hb dX6_passesAt_39 rfl ?_
      exact x_zretF (b := q_pat T Q r k) cx hr hlk dX6_passesAt_40 (by simp_all [q_pat]) hvv
    · skip
      refine lv_iconst (v := nI 1) hx hb dX6_passesAt_35 rfl ?_
      refine lv_goto (tgt := 40) hx hb dX6_passesAt_36 (by decide) ?_
      exact x_zretT (b := q_pat T Q r k) cx hr hlk dX6_passesAt_40 (by simp_all [q_pat]) hvv
set_option maxHeartbeats 4000000 in
set_option maxRecDepth 100000 in
theorem c_q_passes {l : Launch} {G : x_G} {lo : x_L} {co : x_C} (b tb : Nat) (Q : Qn) (T : Tb) (hq : isQn G lo co b tb Q) (ht : isTb G lo co tb T) (hT : Tok T) (hQ : Qok T Q) (r : Nat) (hr_ : r < 2 ^ 31) : x_Rd l G lo co yX6_passes cX6_passes 3 (some .boolean) 4 [.ref (lo (b)), .int (nI r)] (some (.int (bI (q_passes T Q r)))) := by
  refine x_enter RX6 rfl (by decide) (Nat.le_of_ble_eq_true rfl) ?_
  intro pp ee ss mm bb mt cd ls cx hk hw hr hlk hl
  have hl : lv_has ls 3 [(0, .ref (lo (b))), (1, .int (nI r))] := hl
  generalize hav : ([.ref (lo (b)), .int (nI r)] : List Value).toArray = av at cx ⊢
  generalize hvv : (some (.int (bI (q_passes T Q r))) : Option Value) = vv
  have hx := cx.1
  have hb := cx.2.1
  have hown := cx.2.2.2.1
  have hts := cx.2.2.2.2
  obtain ⟨k1, k2, k3, k4, k5, k6, k7, k8, k9, k0⟩ := id hT
  obtain ⟨j1, j2, j3, j4, j5, j6⟩ := id hQ
  refine lv_iconst (v := nI 0) hx hb dX6_passes_0 rfl ?_
  refine lv_istore_n (lv' := [(2, .int (nI 0)), (0, .ref (lo (b))), (1, .int (nI r))]) hx hb dX6_passes_1 rfl hl (by decide) rfl (fun ls hl => ?_)
  have L2_1 : ∀ (n_ : Nat) (k : Nat), (k ≤ 4) → (allN k (fun c => q_pat T Q r (c + 1)) = true) → 4 - k < n_ → ∀ (ls : Array Slot), lv_has ls 3 [(2, .int (nI k)), (0, .ref (lo (b))), (1, .int (nI r))] → x_w l 4 pp ee ss mm av bb mt cd vv 2 ls [] := by
    intro n_
    induction n_ with
    | zero => intro k hv hall hm_ ls hl; exact absurd hm_ (Nat.not_lt_zero _)
    | succ n_ ih2_1 =>
      intro k hv hall hm_ ls hl
      refine lv_iload_n hx hb dX6_passes_2 rfl (lv_at hl 0 rfl) ?_
      refine lv_iconst (v := nI 4) hx hb dX6_passes_3 rfl ?_
      refine x_icmp_ge (tgt := 24) cx dX6_passes_4 (by decide) (by omega) (fun h4_2 => ?_) (fun h4_2 => ?_)
      · skip
        refine lv_iconst (v := nI 1) hx hb dX6_passes_24 rfl ?_
        exact x_zretT (b := q_passes T Q r) cx hr hlk dX6_passes_25 (by rw [q_passes, show 4 = k by omega]; exact hall) hvv
      · skip
        refine lv_aload_n hx hb dX6_passes_7 rfl (lv_at hl 1 rfl) ?_
        refine lv_iload_n hx hb dX6_passes_8 rfl (lv_at hl 2 rfl) ?_
        refine lv_iload_n hx hb dX6_passes_9 rfl (lv_at hl 0 rfl) ?_
        refine x_rdV (av := [.int (nI r), .int (nI k)]) (rest := []) cx hk hw (hq.1) cv_RX6_57_5 (c_q_pat b tb Q T hq ht hT hQ r (k + 1) (by omega) (by omega)) hl.1 rfl rfl (Nat.le_of_ble_eq_true rfl) ⟨by decide, by decide⟩ ⟨Nat.zero_le _, Nat.zero_le _⟩ dX6_passes_10 ?_
        refine x_if_ne (tgt := 18) cx dX6_passes_13 (by decide) (fun h13_3 => ?_) (fun h13_3 => ?_)
        · skip
          refine lv_iinc (v := nI (k + 1)) (lv' := [(2, .int (nI (k + 1))), (0, .ref (lo (b))), (1, .int (nI r))]) hx hb dX6_passes_18 hl (k := 0) rfl (nI_add _ 1) (by decide) rfl (fun ls hl => ?_)
          refine lv_goto (tgt := 2) hx hb dX6_passes_21 (by decide) ?_
          exact ih2_1 (k + 1) (by omega) (by exact allN_step hall (by assumption)) (by omega) _ (lv_sub hl [0, 1, 2] rfl)
        · skip
          refine lv_iconst (v := nI 0) hx hb dX6_passes_16 rfl ?_
          exact x_zretF (b := q_passes T Q r) cx hr hlk dX6_passes_17 (by exact allN_no (k := k) (by omega) (by assumption)) hvv
  exact L2_1 (_ + 1) 0 (by omega) (by rfl) (Nat.lt_succ_self _) _ (lv_sub hl [0, 1, 2] rfl)
set_option maxHeartbeats 4000000 in
set_option maxRecDepth 100000 in
theorem c_q_ans {l : Launch} {G : x_G} {lo : x_L} {co : x_C} (b tb : Nat) (Q : Qn) (T : Tb) (hq : isQn G lo co b tb Q) (ht : isTb G lo co tb T) (hT : Tok T) (hQ : Qok T Q) : x_Rd l G lo co yX6_answering cX6_answering 3 (some .int) 5 [.ref (lo (b))] (some (.int (nI (q_ans T Q)))) := by
  refine x_enter RX6 rfl (by decide) (Nat.le_of_ble_eq_true rfl) ?_
  intro pp ee ss mm bb mt cd ls cx hk hw hr hlk hl
  have hl : lv_has ls 3 [(0, .ref (lo (b)))] := hl
  generalize hav : ([.ref (lo (b))] : List Value).toArray = av at cx ⊢
  generalize hvv : (some (.int (nI (q_ans T Q))) : Option Value) = vv
  have hx := cx.1
  have hb := cx.2.1
  have hown := cx.2.2.2.1
  have hts := cx.2.2.2.2
  obtain ⟨k1, k2, k3, k4, k5, k6, k7, k8, k9, k0⟩ := id hT
  obtain ⟨j1, j2, j3, j4, j5, j6⟩ := id hQ
  refine lv_iconst (v := nI 0) hx hb dX6_answering_0 rfl ?_
  refine lv_istore_n (lv' := [(1, .int (nI 0)), (0, .ref (lo (b)))]) hx hb dX6_answering_1 rfl hl (by decide) rfl (fun ls hl => ?_)
  refine lv_iconst (v := nI 0) hx hb dX6_answering_2 rfl ?_
  refine lv_istore_n (lv' := [(2, .int (nI 0)), (1, .int (nI 0)), (0, .ref (lo (b)))]) hx hb dX6_answering_3 rfl hl (by decide) rfl (fun ls hl => ?_)
  have L4_1 : ∀ (n_ : Nat) (f : Nat) (k : Nat), (k ≤ T.1 3) → (f = cntN k (fun r => q_passes T Q r)) → T.1 3 - k < n_ → ∀ (ls : Array Slot), lv_has ls 3 [(2, .int (nI k)), (1, .int (nI f)), (0, .ref (lo (b)))] → x_w l 5 pp ee ss mm av bb mt cd vv 4 ls [] := by
    intro n_
    induction n_ with
    | zero => intro f k hv hf hm_ ls hl; exact absurd hm_ (Nat.not_lt_zero _)
    | succ n_ ih4_1 =>
      intro f k hv hf hm_ ls hl
      refine lv_iload_n hx hb dX6_answering_4 rfl (lv_at hl 0 rfl) ?_
      refine lv_aload_n hx hb dX6_answering_5 rfl (lv_at hl 2 rfl) ?_
      refine x_get cx hk hw (hq.1) f_RX6_18_5 rfl dX6_answering_6 ?_
      refine x_get cx hk hw (ht.1) f_RX6_61_8 rfl dX6_answering_9 ?_
      refine x_icmp_ge (tgt := 37) cx dX6_answering_12 (by decide) (by omega) (fun h12_2 => ?_) (fun h12_2 => ?_)
      · skip
        refine lv_iload_n hx hb dX6_answering_37 rfl (lv_at hl 1 rfl) ?_
        exact x_iret cx hr hlk dX6_answering_38 ((congrArg (fun z => some (Value.int (nI z))) (show f = q_ans T Q from by rw [q_ans, hf, show T.1 3 = k by omega])).trans hvv)
      · skip
        refine lv_iload_n hx hb dX6_answering_15 rfl (lv_at hl 1 rfl) ?_
        refine lv_aload_n hx hb dX6_answering_16 rfl (lv_at hl 2 rfl) ?_
        refine lv_iload_n hx hb dX6_answering_17 rfl (lv_at hl 0 rfl) ?_
        refine x_rdV (av := [.int (nI k)]) (rest := [.int (nI f)]) cx hk hw (hq.1) cv_RX6_64_5 (c_q_passes b tb Q T hq ht hT hQ k (by omega)) hl.1 rfl rfl (Nat.le_of_ble_eq_true rfl) ⟨by decide, by decide⟩ ⟨Nat.zero_le _, Nat.zero_le _⟩ dX6_answering_18 ?_
        have J29_3 : ∀ (y3_s0 : Nat) (ey3_s0 : y3_s0 = if (q_passes T Q k) = true then 1 else 0) (ls : Array Slot), lv_has ls 3 [(2, .int (nI k)), (1, .int (nI f)), (0, .ref (lo (b)))] → x_w l 5 pp ee ss mm av bb mt cd vv 29 ls [.int (nI y3_s0), .int (nI f)] := by
          intro y3_s0 ey3_s0 ls hl
          refine x_iaddN cx dX6_answering_29 ?_
          refine lv_istore_n (lv' := [(1, .int (nI (f + y3_s0))), (2, .int (nI k)), (0, .ref (lo (b)))]) hx hb dX6_answering_30 rfl hl (by decide) rfl (fun ls hl => ?_)
          refine lv_iinc (v := nI (k + 1)) (lv' := [(2, .int (nI (k + 1))), (1, .int (nI (f + y3_s0))), (0, .ref (lo (b)))]) hx hb dX6_answering_31 hl (k := 1) rfl (nI_add _ 1) (by decide) rfl (fun ls hl => ?_)
          refine lv_goto (tgt := 4) hx hb dX6_answering_34 (by decide) ?_
          exact ih4_1 (f + y3_s0) (k + 1) (by omega) (by rw [cntN, ← hf]; simp only [*]) (by omega) _ (lv_sub hl [0, 1, 2] rfl)
        refine x_if_eq (tgt := 28) cx dX6_answering_21 (by decide) (fun h21_4 => ?_) (fun h21_4 => ?_)
        · skip
          refine lv_iconst (v := nI 0) hx hb dX6_answering_28 rfl ?_
          exact J29_3 0 (by rw [if_neg (fun q => Bool.noConfusion (h21_4.symm.trans q))]) _ (lv_sub hl [0, 1, 2] rfl)
        · skip
          refine lv_iconst (v := nI 1) hx hb dX6_answering_24 rfl ?_
          refine lv_goto (tgt := 29) hx hb dX6_answering_25 (by decide) ?_
          exact J29_3 1 (by rw [if_pos h21_4]) _ (lv_sub hl [0, 1, 2] rfl)
  exact L4_1 (_ + 1) 0 0 (by omega) (by rfl) (Nat.lt_succ_self _) _ (lv_sub hl [0, 1, 2] rfl)
set_option maxHeartbeats 4000000 in
set_option maxRecDepth 100000 in
theorem c_q_sum {l : Launch} {G : x_G} {lo : x_L} {co : x_C} (b tb : Nat) (Q : Qn) (T : Tb) (hq : isQn G lo co b tb Q) (ht : isTb G lo co tb T) (hT : Tok T) (hQ : Qok T Q) : x_Rd l G lo co yX6_addedUp cX6_addedUp 3 (some .int) 5 [.ref (lo (b))] (some (.int (nI (q_sum T Q)))) := by
  refine x_enter RX6 rfl (by decide) (Nat.le_of_ble_eq_true rfl) ?_
  intro pp ee ss mm bb mt cd ls cx hk hw hr hlk hl
  have hl : lv_has ls 3 [(0, .ref (lo (b)))] := hl
  generalize hav : ([.ref (lo (b))] : List Value).toArray = av at cx ⊢
  generalize hvv : (some (.int (nI (q_sum T Q))) : Option Value) = vv
  have hx := cx.1
  have hb := cx.2.1
  have hown := cx.2.2.2.1
  have hts := cx.2.2.2.2
  obtain ⟨k1, k2, k3, k4, k5, k6, k7, k8, k9, k0⟩ := id hT
  obtain ⟨j1, j2, j3, j4, j5, j6⟩ := id hQ
  refine lv_iconst (v := nI 0) hx hb dX6_addedUp_0 rfl ?_
  refine lv_istore_n (lv' := [(1, .int (nI 0)), (0, .ref (lo (b)))]) hx hb dX6_addedUp_1 rfl hl (by decide) rfl (fun ls hl => ?_)
  refine lv_iconst (v := nI 0) hx hb dX6_addedUp_2 rfl ?_
  refine lv_istore_n (lv' := [(2, .int (nI 0)), (1, .int (nI 0)), (0, .ref (lo (b)))]) hx hb dX6_addedUp_3 rfl hl (by decide) rfl (fun ls hl => ?_)
  have L4_1 : ∀ (n_ : Nat) (f : Nat) (k : Nat), (k ≤ T.1 3) → (f = sumN k (fun r => if Q.1 3 ≠ 0 ∧ q_passes T Q r = true then t_v T r (Q.1 3 - 1) else 0)) → T.1 3 - k < n_ → ∀ (ls : Array Slot), lv_has ls 3 [(2, .int (nI k)), (1, .int (nI f)), (0, .ref (lo (b)))] → x_w l 5 pp ee ss mm av bb mt cd vv 4 ls [] := by
    intro n_
    induction n_ with
    | zero => intro f k hv hf hm_ ls hl; exact absurd hm_ (Nat.not_lt_zero _)
    | succ n_ ih4_1 =>
      intro f k hv hf hm_ ls hl
      refine lv_iload_n hx hb dX6_addedUp_4 rfl (lv_at hl 0 rfl) ?_
      refine lv_aload_n hx hb dX6_addedUp_5 rfl (lv_at hl 2 rfl) ?_
      refine x_get cx hk hw (hq.1) f_RX6_18_5 rfl dX6_addedUp_6 ?_
      refine x_get cx hk hw (ht.1) f_RX6_61_8 rfl dX6_addedUp_9 ?_
      refine x_icmp_ge (tgt := 62) cx dX6_addedUp_12 (by decide) (by omega) (fun h12_2 => ?_) (fun h12_2 => ?_)
      · skip
        refine lv_iload_n hx hb dX6_addedUp_62 rfl (lv_at hl 1 rfl) ?_
        exact x_iret cx hr hlk dX6_addedUp_63 ((congrArg (fun z => some (Value.int (nI z))) (show f = q_sum T Q from by rw [q_sum, hf, show T.1 3 = k by omega])).trans hvv)
      · skip
        refine lv_iload_n hx hb dX6_addedUp_15 rfl (lv_at hl 1 rfl) ?_
        refine lv_aload_n hx hb dX6_addedUp_16 rfl (lv_at hl 2 rfl) ?_
        refine x_get cx hk hw (hq.1) f_RX6_18_5 rfl dX6_addedUp_17 ?_
        refine lv_aload_n hx hb dX6_addedUp_20 rfl (lv_at hl 2 rfl) ?_
        refine x_get cx hk hw (hq.1) f_RX6_26_5 rfl dX6_addedUp_21 ?_
        refine x_rdV (av := [.int (nO (Q.1 3))]) (rest := [.int (nI f)]) cx hk hw (ht.1) cv_RX6_67_8 (c_t_has tb T ht (nO (Q.1 3))) hl.1 rfl rfl (Nat.le_of_ble_eq_true rfl) ⟨by decide, by decide⟩ ⟨Nat.zero_le _, Nat.zero_le _⟩ dX6_addedUp_24 ?_
        rw [t_has_nO k2 j5]
        have J54_3 : ∀ (y3_s0 : Nat) (ey3_s0 : y3_s0 = if (decide (Q.1 3 ≠ 0)) = true then (if (q_passes T Q k) = true then (t_v T k (Q.1 3 - 1)) else 0) else 0) (ls : Array Slot), lv_has ls 3 [(2, .int (nI k)), (1, .int (nI f)), (0, .ref (lo (b)))] → x_w l 5 pp ee ss mm av bb mt cd vv 54 ls [.int (nI y3_s0), .int (nI f)] := by
          intro y3_s0 ey3_s0 ls hl
          refine x_iaddN cx dX6_addedUp_54 ?_
          refine lv_istore_n (lv' := [(1, .int (nI (f + y3_s0))), (2, .int (nI k)), (0, .ref (lo (b)))]) hx hb dX6_addedUp_55 rfl hl (by decide) rfl (fun ls hl => ?_)
          refine lv_iinc (v := nI (k + 1)) (lv' := [(2, .int (nI (k + 1))), (1, .int (nI (f + y3_s0))), (0, .ref (lo (b)))]) hx hb dX6_addedUp_56 hl (k := 1) rfl (nI_add _ 1) (by decide) rfl (fun ls hl => ?_)
          refine lv_goto (tgt := 4) hx hb dX6_addedUp_59 (by decide) ?_
          exact ih4_1 (f + y3_s0) (k + 1) (by omega) (by rw [sumN, ← hf]; simp only [*]; congr 1; by_cases qa : Q.1 3 = 0 <;> by_cases qb : q_passes T Q k = true <;> simp [qa, qb]) (by omega) _ (lv_sub hl [0, 1, 2] rfl)
        refine x_if_eq (tgt := 53) cx dX6_addedUp_27 (by decide) (fun h27_4 => ?_) (fun h27_4 => ?_)
        · skip
          refine lv_iconst (v := nI 0) hx hb dX6_addedUp_53 rfl ?_
          exact J54_3 0 (by rw [if_neg (fun q => Bool.noConfusion (h27_4.symm.trans q))]) _ (lv_sub hl [0, 1, 2] rfl)
        · skip
          refine lv_aload_n hx hb dX6_addedUp_30 rfl (lv_at hl 2 rfl) ?_
          refine lv_iload_n hx hb dX6_addedUp_31 rfl (lv_at hl 0 rfl) ?_
          refine x_rdV (av := [.int (nI k)]) (rest := [.int (nI f)]) cx hk hw (hq.1) cv_RX6_64_5 (c_q_passes b tb Q T hq ht hT hQ k (by omega)) hl.1 rfl rfl (Nat.le_of_ble_eq_true rfl) ⟨by decide, by decide⟩ ⟨Nat.zero_le _, Nat.zero_le _⟩ dX6_addedUp_32 ?_
          refine x_if_eq (tgt := 53) cx dX6_addedUp_35 (by decide) (fun h35_5 => ?_) (fun h35_5 => ?_)
          · skip
            refine lv_iconst (v := nI 0) hx hb dX6_addedUp_53 rfl ?_
            exact J54_3 0 (by rw [if_pos h27_4, if_neg (fun q => Bool.noConfusion (h35_5.symm.trans q))]) _ (lv_sub hl [0, 1, 2] rfl)
          · skip
            refine lv_aload_n hx hb dX6_addedUp_38 rfl (lv_at hl 2 rfl) ?_
            refine x_get cx hk hw (hq.1) f_RX6_18_5 rfl dX6_addedUp_39 ?_
            refine lv_iload_n hx hb dX6_addedUp_42 rfl (lv_at hl 0 rfl) ?_
            refine lv_aload_n hx hb dX6_addedUp_43 rfl (lv_at hl 2 rfl) ?_
            refine x_get cx hk hw (hq.1) f_RX6_26_5 rfl dX6_addedUp_44 ?_
            have ek : nO (Q.1 3) = nI (Q.1 3 - 1) := nO_s (by simp_all)
            rw [ek]
            refine x_rdV (av := [.int (nI k), .int (nI (Q.1 3 - 1))]) (rest := [.int (nI f)]) cx hk hw (ht.1) cv_RX6_53_8 (c_t_val tb T ht hT k (Q.1 3 - 1) (by omega) (by omega)) hl.1 rfl rfl (Nat.le_of_ble_eq_true rfl) ⟨by decide, by decide⟩ ⟨Nat.zero_le _, Nat.zero_le _⟩ dX6_addedUp_47 ?_
            refine lv_goto (tgt := 54) hx hb dX6_addedUp_50 (by decide) ?_
            exact J54_3 (t_v T k (Q.1 3 - 1)) (by rw [if_pos h27_4, if_pos h35_5]) _ (lv_sub hl [0, 1, 2] rfl)
  exact L4_1 (_ + 1) 0 0 (by omega) (by rfl) (Nat.lt_succ_self _) _ (lv_sub hl [0, 1, 2] rfl)
set_option maxHeartbeats 4000000 in
set_option maxRecDepth 100000 in
theorem c_q_touch {l : Launch} {G : x_G} {lo : x_L} {co : x_C} (b tb : Nat) (Q : Qn) (T : Tb) (hq : isQn G lo co b tb Q) (ht : isTb G lo co tb T) (hT : Tok T) (hQ : Qok T Q) : x_Rd l G lo co yX6_touched cX6_touched 1 (some .int) 2 [.ref (lo (b))] (some (.int (nI (q_touch Q)))) := by
  refine x_enter RX6 rfl (by decide) (Nat.le_of_ble_eq_true rfl) ?_
  intro pp ee ss mm bb mt cd ls cx hk hw hr hlk hl
  have hl : lv_has ls 1 [(0, .ref (lo (b)))] := hl
  generalize hav : ([.ref (lo (b))] : List Value).toArray = av at cx ⊢
  generalize hvv : (some (.int (nI (q_touch Q))) : Option Value) = vv
  have hx := cx.1
  have hb := cx.2.1
  have hown := cx.2.2.2.1
  have hts := cx.2.2.2.2
  obtain ⟨k1, k2, k3, k4, k5, k6, k7, k8, k9, k0⟩ := id hT
  obtain ⟨j1, j2, j3, j4, j5, j6⟩ := id hQ
  refine lv_aload_n hx hb dX6_touched_0 rfl (lv_at hl 0 rfl) ?_
  refine x_get cx hk hw (hq.1) f_RX6_22_5 rfl dX6_touched_1 ?_
  refine lv_aload_n hx hb dX6_touched_4 rfl (lv_at hl 0 rfl) ?_
  refine x_get cx hk hw (hq.1) f_RX6_36_5 rfl dX6_touched_5 ?_
  refine lv_ior hx hb dX6_touched_8 ?_
  refine lv_aload_n hx hb dX6_touched_9 rfl (lv_at hl 0 rfl) ?_
  refine x_get cx hk hw (hq.1) f_RX6_26_5 rfl dX6_touched_10 ?_
  refine x_rdSN (av := [.int (nO (Q.1 3))]) (rest := [.int ((nI (Q.1 0)) ||| (nI (Q.1 2)))]) cx hk hw cn_RX6_39 (c_bit (nO (Q.1 3))) hl.1 rfl rfl (Nat.le_of_ble_eq_true rfl) ⟨by decide, by decide⟩ ⟨Nat.zero_le _, Nat.zero_le _⟩ dX6_touched_13 ?_
  refine lv_ior hx hb dX6_touched_16 ?_
  exact x_iret cx hr hlk dX6_touched_17 ((congrArg (fun z => some (Value.int z)) (show ((nI (Q.1 0)) ||| (nI (Q.1 2))) ||| (s_bit (nO (Q.1 3))) = nI (q_touch Q) from by rw [s_bit_nO (by omega), nI_or, nI_or]; rfl)).trans hvv)
