set_option maxHeartbeats 4000000 in
set_option maxRecDepth 100000 in
theorem c_t_cell0 {l : Launch} {G : x_G} {lo : x_L} {co : x_C} (b : Nat) (T : Tb) (ht : isTb G lo co b T) (hT : Tok0 T) (r c : Nat) (hr_ : r < 2 ^ 31) (hc_ : c < 2 ^ 31) : x_Rd l G lo co yX9_isCell cX9_isCell 3 (some .boolean) 1 [.ref (lo (b)), .int (nI r), .int (nI c)] (some (.int (bI (decide (r < T.1 3 ∧ c < T.1 1))))) := by
  refine x_enter RX9 rfl (by decide) (Nat.le_of_ble_eq_true rfl) ?_
  intro pp ee ss mm bb mt cd ls cx hk hw hr hlk hl
  have hl : lv_has ls 3 [(0, .ref (lo (b))), (1, .int (nI r)), (2, .int (nI c))] := hl
  generalize hav : ([.ref (lo (b)), .int (nI r), .int (nI c)] : List Value).toArray = av at cx ⊢
  generalize hvv : (some (.int (bI (decide (r < T.1 3 ∧ c < T.1 1)))) : Option Value) = vv
  have hx := cx.1
  have hb := cx.2.1
  have hown := cx.2.2.2.1
  have hts := cx.2.2.2.2
  obtain ⟨k1, k2, k3, k4, k5, k6, k7, k8, k9, k0⟩ := id hT
  refine lv_iload_n hx hb dX9_isCell_0 rfl (lv_at hl 1 rfl) ?_
  refine x_ifN_lt (tgt := 28) cx dX9_isCell_1 (by decide) (by omega) ?_
  refine lv_iload_n hx hb dX9_isCell_4 rfl (lv_at hl 1 rfl) ?_
  refine lv_aload_n hx hb dX9_isCell_5 rfl (lv_at hl 0 rfl) ?_
  refine x_get cx hk hw (ht.1) f_RX9_46_8 rfl dX9_isCell_6 ?_
  refine x_icmp_ge (tgt := 28) cx dX9_isCell_9 (by decide) (by omega) (fun h9_1 => ?_) (fun h9_1 => ?_)
  · skip
    refine lv_iconst (v := nI 0) hx hb dX9_isCell_28 rfl ?_
    exact x_zretF (b := decide (r < T.1 3 ∧ c < T.1 1)) cx hr hlk dX9_isCell_29 (by simp; omega) hvv
  · skip
    refine lv_iload_n hx hb dX9_isCell_12 rfl (lv_at hl 2 rfl) ?_
    refine x_ifN_lt (tgt := 28) cx dX9_isCell_13 (by decide) (by omega) ?_
    refine lv_iload_n hx hb dX9_isCell_16 rfl (lv_at hl 2 rfl) ?_
    refine lv_aload_n hx hb dX9_isCell_17 rfl (lv_at hl 0 rfl) ?_
    refine x_get cx hk hw (ht.1) f_RX9_28_8 rfl dX9_isCell_18 ?_
    refine x_icmp_ge (tgt := 28) cx dX9_isCell_21 (by decide) (by omega) (fun h21_2 => ?_) (fun h21_2 => ?_)
    · skip
      refine lv_iconst (v := nI 0) hx hb dX9_isCell_28 rfl ?_
      exact x_zretF (b := decide (r < T.1 3 ∧ c < T.1 1)) cx hr hlk dX9_isCell_29 (by simp; omega) hvv
    · skip
      refine lv_iconst (v := nI 1) hx hb dX9_isCell_24 rfl ?_
      refine lv_goto (tgt := 29) hx hb dX9_isCell_25 (by decide) ?_
      exact x_zretT (b := decide (r < T.1 3 ∧ c < T.1 1)) cx hr hlk dX9_isCell_29 (by simp; omega) hvv
set_option maxHeartbeats 4000000 in
set_option maxRecDepth 100000 in
theorem c_t_val0 {l : Launch} {G : x_G} {lo : x_L} {co : x_C} (b : Nat) (T : Tb) (ht : isTb G lo co b T) (hT : Tok0 T) (r c : Nat) (hr_ : r < 2 ^ 31) (hc_ : c < 2 ^ 31) : x_Rd l G lo co yX9_value cX9_value 3 (some .int) 2 [.ref (lo (b)), .int (nI r), .int (nI c)] (some (.int (nI (t_v T r c)))) := by
  refine x_enter RX9 rfl (by decide) (Nat.le_of_ble_eq_true rfl) ?_
  intro pp ee ss mm bb mt cd ls cx hk hw hr hlk hl
  have hl : lv_has ls 3 [(0, .ref (lo (b))), (1, .int (nI r)), (2, .int (nI c))] := hl
  generalize hav : ([.ref (lo (b)), .int (nI r), .int (nI c)] : List Value).toArray = av at cx ⊢
  generalize hvv : (some (.int (nI (t_v T r c))) : Option Value) = vv
  have hx := cx.1
  have hb := cx.2.1
  have hown := cx.2.2.2.1
  have hts := cx.2.2.2.2
  obtain ⟨k1, k2, k3, k4, k5, k6, k7, k8, k9, k0⟩ := id hT
  refine lv_aload_n hx hb dX9_value_0 rfl (lv_at hl 0 rfl) ?_
  refine lv_iload_n hx hb dX9_value_1 rfl (lv_at hl 1 rfl) ?_
  refine lv_iload_n hx hb dX9_value_2 rfl (lv_at hl 2 rfl) ?_
  refine x_rdV (av := [.int (nI r), .int (nI c)]) (rest := []) cx hk hw (ht.1) cv_RX9_53_8 (c_t_cell0 b T ht hT r c (by omega) (by omega)) hl.1 rfl rfl (Nat.le_of_ble_eq_true rfl) ⟨by decide, by decide⟩ ⟨Nat.zero_le _, Nat.zero_le _⟩ dX9_value_3 ?_
  refine x_if_eq (tgt := 22) cx dX9_value_6 (by decide) (fun h6_1 => ?_) (fun h6_1 => ?_)
  · skip
    refine lv_iconst (v := nI 0) hx hb dX9_value_22 rfl ?_
    exact x_iret cx hr hlk dX9_value_23 ((congrArg (fun z => some (Value.int (nI z))) (show 0 = t_v T r c from by first | (rw [t_v, if_pos (of_decide_eq_true (by assumption))]) | (rw [t_v, if_neg (of_decide_eq_false (by assumption))]))).trans hvv)
  · skip
    refine lv_aload_n hx hb dX9_value_9 rfl (lv_at hl 0 rfl) ?_
    refine x_get cx hk hw (ht.1) f_RX9_9_8 rfl dX9_value_10 ?_
    refine lv_iload_n hx hb dX9_value_13 rfl (lv_at hl 1 rfl) ?_
    refine lv_iconst (v := nI 4) hx hb dX9_value_14 rfl ?_
    refine x_imulN cx dX9_value_15 ?_
    refine lv_iload_n hx hb dX9_value_16 rfl (lv_at hl 2 rfl) ?_
    refine x_iaddN cx dX9_value_17 ?_
    refine x_ialdN cx hk hw (ht.2.1) (by simp_all; omega) (by decide) dX9_value_18 ?_
    refine lv_goto (tgt := 23) hx hb dX9_value_19 (by decide) ?_
    exact x_iret cx hr hlk dX9_value_23 ((congrArg (fun z => some (Value.int (nI z))) (show T.2 0 ((r * 4) + c) = t_v T r c from by first | (rw [t_v, if_pos (of_decide_eq_true (by assumption))]) | (rw [t_v, if_neg (of_decide_eq_false (by assumption))]))).trans hvv)
set_option maxHeartbeats 4000000 in
set_option maxRecDepth 100000 in
theorem c_t_like0 {l : Launch} {G : x_G} {lo : x_L} {co : x_C} (b : Nat) (T : Tb) (ht : isTb G lo co b T) (hT : Tok0 T) (r o : Nat) (q : Nat) (hr_ : r < 2 ^ 31) (ho_ : o < 2 ^ 31) (hq_ : q < 2 ^ 31) : x_Rd l G lo co yX9_areAlike cX9_areAlike 5 (some .boolean) 3 [.ref (lo (b)), .int (nI r), .int (nI o), .int (nI q)] (some (.int (bI (t_like T r o q)))) := by
  refine x_enter RX9 rfl (by decide) (Nat.le_of_ble_eq_true rfl) ?_
  intro pp ee ss mm bb mt cd ls cx hk hw hr hlk hl
  have hl : lv_has ls 5 [(0, .ref (lo (b))), (1, .int (nI r)), (2, .int (nI o)), (3, .int (nI q))] := hl
  generalize hav : ([.ref (lo (b)), .int (nI r), .int (nI o), .int (nI q)] : List Value).toArray = av at cx ⊢
  generalize hvv : (some (.int (bI (t_like T r o q))) : Option Value) = vv
  have hx := cx.1
  have hb := cx.2.1
  have hown := cx.2.2.2.1
  have hts := cx.2.2.2.2
  obtain ⟨k1, k2, k3, k4, k5, k6, k7, k8, k9, k0⟩ := id hT
  refine lv_iconst (v := nI 0) hx hb dX9_areAlike_0 rfl ?_
  refine lv_istore (lv' := [(4, .int (nI 0)), (0, .ref (lo (b))), (1, .int (nI r)), (2, .int (nI o)), (3, .int (nI q))]) hx hb dX9_areAlike_1 hl (by decide) rfl (fun ls hl => ?_)
  have L3_1 : ∀ (n_ : Nat) (k : Nat), (k ≤ T.1 1) → (allN k (fun c => !q.testBit c || decide (t_v T r c = t_v T o c)) = true) → T.1 1 - k < n_ → ∀ (ls : Array Slot), lv_has ls 5 [(4, .int (nI k)), (0, .ref (lo (b))), (1, .int (nI r)), (2, .int (nI o)), (3, .int (nI q))] → x_w l 3 pp ee ss mm av bb mt cd vv 3 ls [] := by
    intro n_
    induction n_ with
    | zero => intro k hv hall hm_ ls hl; exact absurd hm_ (Nat.not_lt_zero _)
    | succ n_ ih3_1 =>
      intro k hv hall hm_ ls hl
      refine lv_iload hx hb dX9_areAlike_3 (lv_at hl 0 rfl) ?_
      refine lv_aload_n hx hb dX9_areAlike_5 rfl (lv_at hl 1 rfl) ?_
      refine x_get cx hk hw (ht.1) f_RX9_28_8 rfl dX9_areAlike_6 ?_
      refine x_icmp_ge (tgt := 46) cx dX9_areAlike_9 (by decide) (by first | omega | (have f1 := t_v_le0 hT r k; have f2 := t_v_le0 hT o k; omega)) (fun h9_2 => ?_) (fun h9_2 => ?_)
      · skip
        refine lv_iconst (v := nI 1) hx hb dX9_areAlike_46 rfl ?_
        exact x_zretT (b := t_like T r o q) cx hr hlk dX9_areAlike_47 (by rw [t_like, show T.1 1 = k by omega]; exact hall) hvv
      · skip
        refine lv_iload hx hb dX9_areAlike_12 (lv_at hl 0 rfl) ?_
        refine lv_iload_n hx hb dX9_areAlike_14 rfl (lv_at hl 4 rfl) ?_
        refine x_rdSN (av := [.int (nI k), .int (nI q)]) (rest := []) cx hk hw cn_RX9_91 (c_isIn k q (by omega) (by omega)) hl.1 rfl rfl (Nat.le_of_ble_eq_true rfl) ⟨by decide, by decide⟩ ⟨Nat.zero_le _, Nat.zero_le _⟩ dX9_areAlike_15 ?_
        refine x_if_eq (tgt := 40) cx dX9_areAlike_18 (by decide) (fun h18_3 => ?_) (fun h18_3 => ?_)
        · skip
          refine lv_iinc (v := nI (k + 1)) (lv' := [(4, .int (nI (k + 1))), (0, .ref (lo (b))), (1, .int (nI r)), (2, .int (nI o)), (3, .int (nI q))]) hx hb dX9_areAlike_40 hl (k := 0) rfl (nI_add _ 1) (by decide) rfl (fun ls hl => ?_)
          refine lv_goto (tgt := 3) hx hb dX9_areAlike_43 (by decide) ?_
          exact ih3_1 (k + 1) (by omega) (by exact allN_step hall (by simp [*])) (by omega) _ (lv_sub hl [0, 1, 2, 3, 4] rfl)
        · skip
          refine lv_aload_n hx hb dX9_areAlike_21 rfl (lv_at hl 1 rfl) ?_
          refine lv_iload_n hx hb dX9_areAlike_22 rfl (lv_at hl 2 rfl) ?_
          refine lv_iload hx hb dX9_areAlike_23 (lv_at hl 0 rfl) ?_
          refine x_rdV (av := [.int (nI r), .int (nI k)]) (rest := []) cx hk hw (ht.1) cv_RX9_56_8 (c_t_val0 b T ht hT r k (by omega) (by omega)) hl.1 rfl rfl (Nat.le_of_ble_eq_true rfl) ⟨by decide, by decide⟩ ⟨Nat.zero_le _, Nat.zero_le _⟩ dX9_areAlike_25 ?_
          refine lv_aload_n hx hb dX9_areAlike_28 rfl (lv_at hl 1 rfl) ?_
          refine lv_iload_n hx hb dX9_areAlike_29 rfl (lv_at hl 3 rfl) ?_
          refine lv_iload hx hb dX9_areAlike_30 (lv_at hl 0 rfl) ?_
          refine x_rdV (av := [.int (nI o), .int (nI k)]) (rest := [.int (nI (t_v T r k))]) cx hk hw (ht.1) cv_RX9_56_8 (c_t_val0 b T ht hT o k (by omega) (by omega)) hl.1 rfl rfl (Nat.le_of_ble_eq_true rfl) ⟨by decide, by decide⟩ ⟨Nat.zero_le _, Nat.zero_le _⟩ dX9_areAlike_32 ?_
          refine x_icmp_eq (tgt := 40) cx dX9_areAlike_35 (by decide) (by first | omega | (have f1 := t_v_le0 hT r k; have f2 := t_v_le0 hT o k; omega)) (fun h35_4 => ?_) (fun h35_4 => ?_)
          · skip
            refine lv_iinc (v := nI (k + 1)) (lv' := [(4, .int (nI (k + 1))), (0, .ref (lo (b))), (1, .int (nI r)), (2, .int (nI o)), (3, .int (nI q))]) hx hb dX9_areAlike_40 hl (k := 0) rfl (nI_add _ 1) (by decide) rfl (fun ls hl => ?_)
            refine lv_goto (tgt := 3) hx hb dX9_areAlike_43 (by decide) ?_
            exact ih3_1 (k + 1) (by omega) (by exact allN_step hall (by simp [*])) (by omega) _ (lv_sub hl [0, 1, 2, 3, 4] rfl)
          · skip
            refine lv_iconst (v := nI 0) hx hb dX9_areAlike_38 rfl ?_
            exact x_zretF (b := t_like T r o q) cx hr hlk dX9_areAlike_39 (by exact allN_no (k := k) (by omega) (by simp [*])) hvv
  exact L3_1 (_ + 1) 0 (by omega) (by rfl) (Nat.lt_succ_self _) _ (lv_sub hl [0, 1, 2, 3, 4] rfl)
set_option maxHeartbeats 4000000 in
set_option maxRecDepth 100000 in
theorem c_t_first0 {l : Launch} {G : x_G} {lo : x_L} {co : x_C} (b : Nat) (T : Tb) (ht : isTb G lo co b T) (hT : Tok0 T) (r q : Nat) (hr_ : r < 2 ^ 31) (hq_ : q < 2 ^ 31) : x_Rd l G lo co yX9_isFirstOfItsLike cX9_isFirstOfItsLike 4 (some .boolean) 4 [.ref (lo (b)), .int (nI r), .int (nI q)] (some (.int (bI (t_first T r q)))) := by
  refine x_enter RX9 rfl (by decide) (Nat.le_of_ble_eq_true rfl) ?_
  intro pp ee ss mm bb mt cd ls cx hk hw hr hlk hl
  have hl : lv_has ls 4 [(0, .ref (lo (b))), (1, .int (nI r)), (2, .int (nI q))] := hl
  generalize hav : ([.ref (lo (b)), .int (nI r), .int (nI q)] : List Value).toArray = av at cx ⊢
  generalize hvv : (some (.int (bI (t_first T r q))) : Option Value) = vv
  have hx := cx.1
  have hb := cx.2.1
  have hown := cx.2.2.2.1
  have hts := cx.2.2.2.2
  obtain ⟨k1, k2, k3, k4, k5, k6, k7, k8, k9, k0⟩ := id hT
  refine lv_iconst (v := nI 0) hx hb dX9_isFirstOfItsLike_0 rfl ?_
  refine lv_istore_n (lv' := [(3, .int (nI 0)), (0, .ref (lo (b))), (1, .int (nI r)), (2, .int (nI q))]) hx hb dX9_isFirstOfItsLike_1 rfl hl (by decide) rfl (fun ls hl => ?_)
  have L2_1 : ∀ (n_ : Nat) (k : Nat), (k ≤ r) → (allN k (fun e => !t_like T e r q) = true) → r - k < n_ → ∀ (ls : Array Slot), lv_has ls 4 [(3, .int (nI k)), (0, .ref (lo (b))), (1, .int (nI r)), (2, .int (nI q))] → x_w l 4 pp ee ss mm av bb mt cd vv 2 ls [] := by
    intro n_
    induction n_ with
    | zero => intro k hv hall hm_ ls hl; exact absurd hm_ (Nat.not_lt_zero _)
    | succ n_ ih2_1 =>
      intro k hv hall hm_ ls hl
      refine lv_iload_n hx hb dX9_isFirstOfItsLike_2 rfl (lv_at hl 0 rfl) ?_
      refine lv_iload_n hx hb dX9_isFirstOfItsLike_3 rfl (lv_at hl 2 rfl) ?_
      refine x_icmp_ge (tgt := 25) cx dX9_isFirstOfItsLike_4 (by decide) (by omega) (fun h4_2 => ?_) (fun h4_2 => ?_)
      · skip
        refine lv_iconst (v := nI 1) hx hb dX9_isFirstOfItsLike_25 rfl ?_
        exact x_zretT (b := t_first T r q) cx hr hlk dX9_isFirstOfItsLike_26 (by rw [t_first, show r = k by omega]; rw [show r = k by omega] at hall; exact hall) hvv
      · skip
        refine lv_aload_n hx hb dX9_isFirstOfItsLike_7 rfl (lv_at hl 1 rfl) ?_
        refine lv_iload_n hx hb dX9_isFirstOfItsLike_8 rfl (lv_at hl 0 rfl) ?_
        refine lv_iload_n hx hb dX9_isFirstOfItsLike_9 rfl (lv_at hl 2 rfl) ?_
        refine lv_iload_n hx hb dX9_isFirstOfItsLike_10 rfl (lv_at hl 3 rfl) ?_
        refine x_rdV (av := [.int (nI k), .int (nI r), .int (nI q)]) (rest := []) cx hk hw (ht.1) cv_RX9_88_8 (c_t_like0 b T ht hT k r q (by omega) (by omega) (by omega)) hl.1 rfl rfl (Nat.le_of_ble_eq_true rfl) ⟨by decide, by decide⟩ ⟨Nat.zero_le _, Nat.zero_le _⟩ dX9_isFirstOfItsLike_11 ?_
        refine x_if_eq (tgt := 19) cx dX9_isFirstOfItsLike_14 (by decide) (fun h14_3 => ?_) (fun h14_3 => ?_)
        · skip
          refine lv_iinc (v := nI (k + 1)) (lv' := [(3, .int (nI (k + 1))), (0, .ref (lo (b))), (1, .int (nI r)), (2, .int (nI q))]) hx hb dX9_isFirstOfItsLike_19 hl (k := 0) rfl (nI_add _ 1) (by decide) rfl (fun ls hl => ?_)
          refine lv_goto (tgt := 2) hx hb dX9_isFirstOfItsLike_22 (by decide) ?_
          exact ih2_1 (k + 1) (by omega) (by exact allN_step hall (by simp [*])) (by omega) _ (lv_sub hl [0, 1, 2, 3] rfl)
        · skip
          refine lv_iconst (v := nI 0) hx hb dX9_isFirstOfItsLike_17 rfl ?_
          exact x_zretF (b := t_first T r q) cx hr hlk dX9_isFirstOfItsLike_18 (by exact allN_no (k := k) (by omega) (by simp [*])) hvv
  exact L2_1 (_ + 1) 0 (by omega) (by rfl) (Nat.lt_succ_self _) _ (lv_sub hl [0, 1, 2, 3] rfl)
set_option maxHeartbeats 4000000 in
set_option maxRecDepth 100000 in
theorem c_t_unl0 {l : Launch} {G : x_G} {lo : x_L} {co : x_C} (b : Nat) (T : Tb) (ht : isTb G lo co b T) (hT : Tok0 T) (q : Nat) (hq_ : q < 2 ^ 31) : x_Rd l G lo co yX9_unlikeRows cX9_unlikeRows 4 (some .int) 5 [.ref (lo (b)), .int (nI q)] (some (.int (nI (t_unl T q)))) := by
  refine x_enter RX9 rfl (by decide) (Nat.le_of_ble_eq_true rfl) ?_
  intro pp ee ss mm bb mt cd ls cx hk hw hr hlk hl
  have hl : lv_has ls 4 [(0, .ref (lo (b))), (1, .int (nI q))] := hl
  generalize hav : ([.ref (lo (b)), .int (nI q)] : List Value).toArray = av at cx ⊢
  generalize hvv : (some (.int (nI (t_unl T q))) : Option Value) = vv
  have hx := cx.1
  have hb := cx.2.1
  have hown := cx.2.2.2.1
  have hts := cx.2.2.2.2
  obtain ⟨k1, k2, k3, k4, k5, k6, k7, k8, k9, k0⟩ := id hT
  refine lv_iconst (v := nI 0) hx hb dX9_unlikeRows_0 rfl ?_
  refine lv_istore_n (lv' := [(2, .int (nI 0)), (0, .ref (lo (b))), (1, .int (nI q))]) hx hb dX9_unlikeRows_1 rfl hl (by decide) rfl (fun ls hl => ?_)
  refine lv_iconst (v := nI 0) hx hb dX9_unlikeRows_2 rfl ?_
  refine lv_istore_n (lv' := [(3, .int (nI 0)), (2, .int (nI 0)), (0, .ref (lo (b))), (1, .int (nI q))]) hx hb dX9_unlikeRows_3 rfl hl (by decide) rfl (fun ls hl => ?_)
  have L4_1 : ∀ (n_ : Nat) (f : Nat) (k : Nat), (k ≤ T.1 3) → (f = cntN k (fun r => t_first T r q)) → T.1 3 - k < n_ → ∀ (ls : Array Slot), lv_has ls 4 [(3, .int (nI k)), (2, .int (nI f)), (0, .ref (lo (b))), (1, .int (nI q))] → x_w l 5 pp ee ss mm av bb mt cd vv 4 ls [] := by
    intro n_
    induction n_ with
    | zero => intro f k hv hf hm_ ls hl; exact absurd hm_ (Nat.not_lt_zero _)
    | succ n_ ih4_1 =>
      intro f k hv hf hm_ ls hl
      refine lv_iload_n hx hb dX9_unlikeRows_4 rfl (lv_at hl 0 rfl) ?_
      refine lv_aload_n hx hb dX9_unlikeRows_5 rfl (lv_at hl 2 rfl) ?_
      refine x_get cx hk hw (ht.1) f_RX9_46_8 rfl dX9_unlikeRows_6 ?_
      refine x_icmp_ge (tgt := 35) cx dX9_unlikeRows_9 (by decide) (by omega) (fun h9_2 => ?_) (fun h9_2 => ?_)
      · skip
        refine lv_iload_n hx hb dX9_unlikeRows_35 rfl (lv_at hl 1 rfl) ?_
        exact x_iret cx hr hlk dX9_unlikeRows_36 ((congrArg (fun z => some (Value.int (nI z))) (show f = t_unl T q from by rw [t_unl, hf, show T.1 3 = k by omega])).trans hvv)
      · skip
        refine lv_iload_n hx hb dX9_unlikeRows_12 rfl (lv_at hl 1 rfl) ?_
        refine lv_aload_n hx hb dX9_unlikeRows_13 rfl (lv_at hl 2 rfl) ?_
        refine lv_iload_n hx hb dX9_unlikeRows_14 rfl (lv_at hl 0 rfl) ?_
        refine lv_iload_n hx hb dX9_unlikeRows_15 rfl (lv_at hl 3 rfl) ?_
        refine x_rdV (av := [.int (nI k), .int (nI q)]) (rest := [.int (nI f)]) cx hk hw (ht.1) cv_RX9_85_8 (c_t_first0 b T ht hT k q (by omega) (by omega)) hl.1 rfl rfl (Nat.le_of_ble_eq_true rfl) ⟨by decide, by decide⟩ ⟨Nat.zero_le _, Nat.zero_le _⟩ dX9_unlikeRows_16 ?_
        have J27_3 : ∀ (y3_s0 : Nat) (ey3_s0 : y3_s0 = if (t_first T k q) = true then 1 else 0) (ls : Array Slot), lv_has ls 4 [(3, .int (nI k)), (2, .int (nI f)), (0, .ref (lo (b))), (1, .int (nI q))] → x_w l 5 pp ee ss mm av bb mt cd vv 27 ls [.int (nI y3_s0), .int (nI f)] := by
          intro y3_s0 ey3_s0 ls hl
          have dy3_s0 : ((t_first T k q) = true ∧ (y3_s0 = 1)) ∨ (¬ ((t_first T k q) = true) ∧ (y3_s0 = 0)) := by rw [ey3_s0]; repeat' (first | (exact rfl) | (split <;> first | (refine Or.inl ⟨by assumption, ?_⟩) | (refine Or.inr ⟨by assumption, ?_⟩)))
          refine x_iaddN cx dX9_unlikeRows_27 ?_
          refine lv_istore_n (lv' := [(2, .int (nI (f + y3_s0))), (3, .int (nI k)), (0, .ref (lo (b))), (1, .int (nI q))]) hx hb dX9_unlikeRows_28 rfl hl (by decide) rfl (fun ls hl => ?_)
          refine lv_iinc (v := nI (k + 1)) (lv' := [(3, .int (nI (k + 1))), (2, .int (nI (f + y3_s0))), (0, .ref (lo (b))), (1, .int (nI q))]) hx hb dX9_unlikeRows_29 hl (k := 1) rfl (nI_add _ 1) (by decide) rfl (fun ls hl => ?_)
          refine lv_goto (tgt := 4) hx hb dX9_unlikeRows_32 (by decide) ?_
          exact ih4_1 (f + y3_s0) (k + 1) (by omega) (by rw [cntN, ← hf]; simp only [*]) (by omega) _ (lv_sub hl [0, 1, 2, 3] rfl)
        refine x_if_eq (tgt := 26) cx dX9_unlikeRows_19 (by decide) (fun h19_4 => ?_) (fun h19_4 => ?_)
        · skip
          refine lv_iconst (v := nI 0) hx hb dX9_unlikeRows_26 rfl ?_
          exact J27_3 0 (by rw [if_neg (fun q => Bool.noConfusion (h19_4.symm.trans q))]) _ (lv_sub hl [0, 1, 2, 3] rfl)
        · skip
          refine lv_iconst (v := nI 1) hx hb dX9_unlikeRows_22 rfl ?_
          refine lv_goto (tgt := 27) hx hb dX9_unlikeRows_23 (by decide) ?_
          exact J27_3 1 (by rw [if_pos h19_4]) _ (lv_sub hl [0, 1, 2, 3] rfl)
  exact L4_1 (_ + 1) 0 0 (by omega) (by rfl) (Nat.lt_succ_self _) _ (lv_sub hl [0, 1, 2, 3] rfl)
set_option maxHeartbeats 4000000 in
set_option maxRecDepth 100000 in
theorem g_write {l : Launch} {G : x_G} {lo : x_L} {co : x_C} (b : Nat) (T : Tb) (ht : isTb G lo co b T) (hT : Tok0 T) (r c : Nat) (x : Int32) (hr_ : r < 2 ^ 20) (hc_ : c < 2 ^ 20) (hx_ : r < T.1 3 → c < T.1 1 → x = nI x.toNatClampNeg) : x_Wr l G lo (co) yX9_write cX9_write 4 none 3 0 0 [.ref (lo (b)), .int (nI r), .int (nI c), .int (x)] (fun (v : Option Value) (lo1 : x_L) (co1 : x_C) => v = none ∧ lo1 = lo ∧ isTb G lo co1 b (wrT T r c x.toNatClampNeg) ∧ ofr co co1 b 5) := by
  refine x_wenter RX9 rfl (by decide) (Nat.le_of_ble_eq_true rfl) ?_
  intro pp ee ss mm bb mt cd ls AA cx hk hW hA hr hlk hnm hl
  have hl : lv_has ls 4 [(0, .ref (lo (b))), (1, .int (nI r)), (2, .int (nI c)), (3, .int (x))] := hl
  generalize hav : ([.ref (lo (b)), .int (nI r), .int (nI c), .int (x)] : List Value).toArray = av at cx ⊢
  generalize hpo : (fun (v : Option Value) (lo1 : x_L) (co1 : x_C) => v = none ∧ lo1 = lo ∧ isTb G lo co1 b (wrT T r c x.toNatClampNeg) ∧ ofr co co1 b 5) = po
  have hx := cx.1
  have hb := cx.2.1
  have hown := cx.2.2.2.1
  have hts := cx.2.2.2.2
  have hw := hW.1
  obtain ⟨k1, k2, k3, k4, k5, k6, k7, k8, k9, k0⟩ := id hT
  refine lv_aload_n hx hb dX9_write_0 rfl (lv_at hl 0 rfl) ?_
  refine lv_iload_n hx hb dX9_write_1 rfl (lv_at hl 1 rfl) ?_
  refine lv_iload_n hx hb dX9_write_2 rfl (lv_at hl 2 rfl) ?_
  refine x_rdV (av := [.int (nI r), .int (nI c)]) (rest := []) cx hk hw (ht.1) cv_RX9_53_8 (c_t_cell0 b T ht hT r c (by omega) (by omega)) hl.1 rfl rfl (Nat.le_of_ble_eq_true rfl) ⟨by decide, by decide⟩ ⟨Nat.zero_le _, Nat.zero_le _⟩ dX9_write_3 ?_
  refine x_if_eq (tgt := 20) cx dX9_write_6 (by decide) (fun h6_1 => ?_) (fun h6_1 => ?_)
  · skip
    exact y_vret cx hW hr hlk ⟨by decide, by decide⟩ dX9_write_20 (by rw [← hpo]; first | (refine ⟨rfl, rfl, ?_, (ofr.rf _ _ _)⟩; rw [wrT, if_pos hrc]; exact ht) | (refine ⟨rfl, rfl, ?_, ofr.rf _ _ _⟩; rw [wrT, if_neg (of_decide_eq_false (by assumption))]; exact ht))
  · skip
    have hrc := of_decide_eq_true (by assumption : decide (r < T.1 3 ∧ c < T.1 1) = true)
    refine lv_aload_n hx hb dX9_write_9 rfl (lv_at hl 0 rfl) ?_
    refine x_get cx hk hw (ht.1) f_RX9_9_8 rfl dX9_write_10 ?_
    refine lv_iload_n hx hb dX9_write_13 rfl (lv_at hl 1 rfl) ?_
    refine lv_iconst (v := nI 4) hx hb dX9_write_14 rfl ?_
    refine x_imulN cx dX9_write_15 ?_
    refine lv_iload_n hx hb dX9_write_16 rfl (lv_at hl 2 rfl) ?_
    refine x_iaddN cx dX9_write_17 ?_
    refine lv_iload_n hx hb dX9_write_18 rfl (lv_at hl 3 rfl) ?_
    rw [hx_ hrc.1 hrc.2]
    refine t_st0 cx hk hW ht (by omega) dX9_write_19 (fun co2 H locs ht2 ho2 hW => ?_)
    have hw := hW.1
    exact y_vret cx hW hr hlk ⟨by decide, by decide⟩ dX9_write_20 (by rw [← hpo]; first | (refine ⟨rfl, rfl, ?_, ho2⟩; rw [wrT, if_pos hrc]; exact ht2) | (refine ⟨rfl, rfl, ?_, ofr.rf _ _ _⟩; rw [wrT, if_neg (of_decide_eq_false (by assumption))]; exact ht))
