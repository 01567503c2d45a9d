set_option maxHeartbeats 4000000 in
set_option maxRecDepth 100000 in
theorem c_t_cell1 {l : Launch} {G : x_G} {lo : x_L} {co : x_C} (b : Nat) (T : Tb) (ht : isTb G lo co b T) (hT : Tok1 T) (r c : Nat) (hr_ : r < 2 ^ 31) (hc_ : c < 2 ^ 31) : x_Rd l G lo co yX9_isCell cX9_isCell 3 (some .boolean) 1 [.ref (lo (b)), .int (nI r), .int (nI c)] (some (.int (bI (decide (r < T.1 3 ∧ c < T.1 1))))) := by
  refine x_enter RX9 rfl (by decide) (Nat.le_of_ble_eq_true rfl) ?_
  intro pp ee ss mm bb mt cd ls cx hk hw hr hlk hl
  have hl : lv_has ls 3 [(0, .ref (lo (b))), (1, .int (nI r)), (2, .int (nI c))] := hl
  generalize hav : ([.ref (lo (b)), .int (nI r), .int (nI c)] : List Value).toArray = av at cx ⊢
  generalize hvv : (some (.int (bI (decide (r < T.1 3 ∧ c < T.1 1)))) : Option Value) = vv
  have hx := cx.1
  have hb := cx.2.1
  have hown := cx.2.2.2.1
  have hts := cx.2.2.2.2
  obtain ⟨k1, k2, k3, k4, k5, k6, k7, k8, k9, k0⟩ := id hT
  refine lv_iload_n hx hb dX9_isCell_0 rfl (lv_at hl 1 rfl) ?_
  refine x_ifN_lt (tgt := 28) cx dX9_isCell_1 (by decide) (by omega) ?_
  refine lv_iload_n hx hb dX9_isCell_4 rfl (lv_at hl 1 rfl) ?_
  refine lv_aload_n hx hb dX9_isCell_5 rfl (lv_at hl 0 rfl) ?_
  refine x_get (v := .int (nI (T.1 3))) cx hk hw (ht.1) f_RX9_46_8 rfl dX9_isCell_6 ?_
  refine x_icmp_ge (tgt := 28) cx dX9_isCell_9 (by decide) (by omega) (fun h9_1 => ?_) (fun h9_1 => ?_)
  · skip
    refine lv_iconst (v := nI 0) hx hb dX9_isCell_28 rfl ?_
    exact x_zretF (b := decide (r < T.1 3 ∧ c < T.1 1)) cx hr hlk dX9_isCell_29 (by simp; omega) hvv
  · skip
    refine lv_iload_n hx hb dX9_isCell_12 rfl (lv_at hl 2 rfl) ?_
    refine x_ifN_lt (tgt := 28) cx dX9_isCell_13 (by decide) (by omega) ?_
    refine lv_iload_n hx hb dX9_isCell_16 rfl (lv_at hl 2 rfl) ?_
    refine lv_aload_n hx hb dX9_isCell_17 rfl (lv_at hl 0 rfl) ?_
    refine x_get (v := .int (nI (T.1 1))) cx hk hw (ht.1) f_RX9_28_8 rfl dX9_isCell_18 ?_
    refine x_icmp_ge (tgt := 28) cx dX9_isCell_21 (by decide) (by omega) (fun h21_2 => ?_) (fun h21_2 => ?_)
    · skip
      refine lv_iconst (v := nI 0) hx hb dX9_isCell_28 rfl ?_
      exact x_zretF (b := decide (r < T.1 3 ∧ c < T.1 1)) cx hr hlk dX9_isCell_29 (by simp; omega) hvv
    · skip
      refine lv_iconst (v := nI 1) hx hb dX9_isCell_24 rfl ?_
      refine lv_goto (tgt := 29) hx hb dX9_isCell_25 (by decide) ?_
      exact x_zretT (b := decide (r < T.1 3 ∧ c < T.1 1)) cx hr hlk dX9_isCell_29 (by simp; omega) hvv
set_option maxHeartbeats 4000000 in
set_option maxRecDepth 100000 in
theorem c_t_val1 {l : Launch} {G : x_G} {lo : x_L} {co : x_C} (b : Nat) (T : Tb) (ht : isTb G lo co b T) (hT : Tok1 T) (r c : Nat) (hr_ : r < 2 ^ 31) (hc_ : c < 2 ^ 31) : x_Rd l G lo co yX9_value cX9_value 3 (some .int) 2 [.ref (lo (b)), .int (nI r), .int (nI c)] (some (.int (nI (t_v T r c)))) := by
  refine x_enter RX9 rfl (by decide) (Nat.le_of_ble_eq_true rfl) ?_
  intro pp ee ss mm bb mt cd ls cx hk hw hr hlk hl
  have hl : lv_has ls 3 [(0, .ref (lo (b))), (1, .int (nI r)), (2, .int (nI c))] := hl
  generalize hav : ([.ref (lo (b)), .int (nI r), .int (nI c)] : List Value).toArray = av at cx ⊢
  generalize hvv : (some (.int (nI (t_v T r c))) : Option Value) = vv
  have hx := cx.1
  have hb := cx.2.1
  have hown := cx.2.2.2.1
  have hts := cx.2.2.2.2
  obtain ⟨k1, k2, k3, k4, k5, k6, k7, k8, k9, k0⟩ := id hT
  refine lv_aload_n hx hb dX9_value_0 rfl (lv_at hl 0 rfl) ?_
  refine lv_iload_n hx hb dX9_value_1 rfl (lv_at hl 1 rfl) ?_
  refine lv_iload_n hx hb dX9_value_2 rfl (lv_at hl 2 rfl) ?_
  refine x_rdV (av := [.int (nI r), .int (nI c)]) (rest := []) cx hk hw (ht.1) cv_RX9_53_8 (c_t_cell1 b T ht hT r c (by omega) (by omega)) hl.1 rfl rfl (Nat.le_of_ble_eq_true rfl) ⟨by decide, by decide⟩ ⟨Nat.zero_le _, Nat.zero_le _⟩ dX9_value_3 ?_
  refine x_if_eq (tgt := 22) cx dX9_value_6 (by decide) (fun h6_1 => ?_) (fun h6_1 => ?_)
  · skip
    refine lv_iconst (v := nI 0) hx hb dX9_value_22 rfl ?_
    exact x_iret cx hr hlk dX9_value_23 ((congrArg (fun z => some (Value.int (nI z))) (show 0 = t_v T r c from by first | (rw [t_v, if_pos (of_decide_eq_true (by assumption))]) | (rw [t_v, if_neg (of_decide_eq_false (by assumption))]))).trans hvv)
  · skip
    refine lv_aload_n hx hb dX9_value_9 rfl (lv_at hl 0 rfl) ?_
    refine x_get (v := .ref (lo (b + 1))) cx hk hw (ht.1) f_RX9_9_8 rfl dX9_value_10 ?_
    refine lv_iload_n hx hb dX9_value_13 rfl (lv_at hl 1 rfl) ?_
    refine lv_iconst (v := nI 4) hx hb dX9_value_14 rfl ?_
    refine x_imulN cx dX9_value_15 ?_
    refine lv_iload_n hx hb dX9_value_16 rfl (lv_at hl 2 rfl) ?_
    refine x_iaddN cx dX9_value_17 ?_
    refine x_ialdN cx hk hw (ht.2.1) (by simp_all; omega) (by decide) dX9_value_18 ?_
    refine lv_goto (tgt := 23) hx hb dX9_value_19 (by decide) ?_
    exact x_iret cx hr hlk dX9_value_23 ((congrArg (fun z => some (Value.int (nI z))) (show T.2 0 ((r * 4) + c) = t_v T r c from by first | (rw [t_v, if_pos (of_decide_eq_true (by assumption))]) | (rw [t_v, if_neg (of_decide_eq_false (by assumption))]))).trans hvv)
set_option maxHeartbeats 4000000 in
set_option maxRecDepth 100000 in
theorem c_t_cell0 {l : Launch} {G : x_G} {lo : x_L} {co : x_C} (b : Nat) (T : Tb) (ht : isTb G lo co b T) (hT : Tok0 T) (r c : Nat) (hr_ : r < 2 ^ 31) (hc_ : c < 2 ^ 31) : x_Rd l G lo co yX9_isCell cX9_isCell 3 (some .boolean) 1 [.ref (lo (b)), .int (nI r), .int (nI c)] (some (.int (bI (decide (r < T.1 3 ∧ c < T.1 1))))) := by
  refine x_enter RX9 rfl (by decide) (Nat.le_of_ble_eq_true rfl) ?_
  intro pp ee ss mm bb mt cd ls cx hk hw hr hlk hl
  have hl : lv_has ls 3 [(0, .ref (lo (b))), (1, .int (nI r)), (2, .int (nI c))] := hl
  generalize hav : ([.ref (lo (b)), .int (nI r), .int (nI c)] : List Value).toArray = av at cx ⊢
  generalize hvv : (some (.int (bI (decide (r < T.1 3 ∧ c < T.1 1)))) : Option Value) = vv
  have hx := cx.1
  have hb := cx.2.1
  have hown := cx.2.2.2.1
  have hts := cx.2.2.2.2
  obtain ⟨k1, k2, k3, k4, k5, k6, k7, k8, k9, k0⟩ := id hT
  refine lv_iload_n hx hb dX9_isCell_0 rfl (lv_at hl 1 rfl) ?_
  refine x_ifN_lt (tgt := 28) cx dX9_isCell_1 (by decide) (by omega) ?_
  refine lv_iload_n hx hb dX9_isCell_4 rfl (lv_at hl 1 rfl) ?_
  refine lv_aload_n hx hb dX9_isCell_5 rfl (lv_at hl 0 rfl) ?_
  refine x_get (v := .int (nI (T.1 3))) cx hk hw (ht.1) f_RX9_46_8 rfl dX9_isCell_6 ?_
  refine x_icmp_ge (tgt := 28) cx dX9_isCell_9 (by decide) (by omega) (fun h9_1 => ?_) (fun h9_1 => ?_)
  · skip
    refine lv_iconst (v := nI 0) hx hb dX9_isCell_28 rfl ?_
    exact x_zretF (b := decide (r < T.1 3 ∧ c < T.1 1)) cx hr hlk dX9_isCell_29 (by simp; omega) hvv
  · skip
    refine lv_iload_n hx hb dX9_isCell_12 rfl (lv_at hl 2 rfl) ?_
    refine x_ifN_lt (tgt := 28) cx dX9_isCell_13 (by decide) (by omega) ?_
    refine lv_iload_n hx hb dX9_isCell_16 rfl (lv_at hl 2 rfl) ?_
    refine lv_aload_n hx hb dX9_isCell_17 rfl (lv_at hl 0 rfl) ?_
    refine x_get (v := .int (nI (T.1 1))) cx hk hw (ht.1) f_RX9_28_8 rfl dX9_isCell_18 ?_
    refine x_icmp_ge (tgt := 28) cx dX9_isCell_21 (by decide) (by omega) (fun h21_2 => ?_) (fun h21_2 => ?_)
    · skip
      refine lv_iconst (v := nI 0) hx hb dX9_isCell_28 rfl ?_
      exact x_zretF (b := decide (r < T.1 3 ∧ c < T.1 1)) cx hr hlk dX9_isCell_29 (by simp; omega) hvv
    · skip
      refine lv_iconst (v := nI 1) hx hb dX9_isCell_24 rfl ?_
      refine lv_goto (tgt := 29) hx hb dX9_isCell_25 (by decide) ?_
      exact x_zretT (b := decide (r < T.1 3 ∧ c < T.1 1)) cx hr hlk dX9_isCell_29 (by simp; omega) hvv
set_option maxHeartbeats 4000000 in
set_option maxRecDepth 100000 in
theorem c_t_val0 {l : Launch} {G : x_G} {lo : x_L} {co : x_C} (b : Nat) (T : Tb) (ht : isTb G lo co b T) (hT : Tok0 T) (r c : Nat) (hr_ : r < 2 ^ 31) (hc_ : c < 2 ^ 31) : x_Rd l G lo co yX9_value cX9_value 3 (some .int) 2 [.ref (lo (b)), .int (nI r), .int (nI c)] (some (.int (nI (t_v T r c)))) := by
  refine x_enter RX9 rfl (by decide) (Nat.le_of_ble_eq_true rfl) ?_
  intro pp ee ss mm bb mt cd ls cx hk hw hr hlk hl
  have hl : lv_has ls 3 [(0, .ref (lo (b))), (1, .int (nI r)), (2, .int (nI c))] := hl
  generalize hav : ([.ref (lo (b)), .int (nI r), .int (nI c)] : List Value).toArray = av at cx ⊢
  generalize hvv : (some (.int (nI (t_v T r c))) : Option Value) = vv
  have hx := cx.1
  have hb := cx.2.1
  have hown := cx.2.2.2.1
  have hts := cx.2.2.2.2
  obtain ⟨k1, k2, k3, k4, k5, k6, k7, k8, k9, k0⟩ := id hT
  refine lv_aload_n hx hb dX9_value_0 rfl (lv_at hl 0 rfl) ?_
  refine lv_iload_n hx hb dX9_value_1 rfl (lv_at hl 1 rfl) ?_
  refine lv_iload_n hx hb dX9_value_2 rfl (lv_at hl 2 rfl) ?_
  refine x_rdV (av := [.int (nI r), .int (nI c)]) (rest := []) cx hk hw (ht.1) cv_RX9_53_8 (c_t_cell0 b T ht hT r c (by omega) (by omega)) hl.1 rfl rfl (Nat.le_of_ble_eq_true rfl) ⟨by decide, by decide⟩ ⟨Nat.zero_le _, Nat.zero_le _⟩ dX9_value_3 ?_
  refine x_if_eq (tgt := 22) cx dX9_value_6 (by decide) (fun h6_1 => ?_) (fun h6_1 => ?_)
  · skip
    refine lv_iconst (v := nI 0) hx hb dX9_value_22 rfl ?_
    exact x_iret cx hr hlk dX9_value_23 ((congrArg (fun z => some (Value.int (nI z))) (show 0 = t_v T r c from by first | (rw [t_v, if_pos (of_decide_eq_true (by assumption))]) | (rw [t_v, if_neg (of_decide_eq_false (by assumption))]))).trans hvv)
  · skip
    refine lv_aload_n hx hb dX9_value_9 rfl (lv_at hl 0 rfl) ?_
    refine x_get (v := .ref (lo (b + 1))) cx hk hw (ht.1) f_RX9_9_8 rfl dX9_value_10 ?_
    refine lv_iload_n hx hb dX9_value_13 rfl (lv_at hl 1 rfl) ?_
    refine lv_iconst (v := nI 4) hx hb dX9_value_14 rfl ?_
    refine x_imulN cx dX9_value_15 ?_
    refine lv_iload_n hx hb dX9_value_16 rfl (lv_at hl 2 rfl) ?_
    refine x_iaddN cx dX9_value_17 ?_
    refine x_ialdN cx hk hw (ht.2.1) (by simp_all; omega) (by decide) dX9_value_18 ?_
    refine lv_goto (tgt := 23) hx hb dX9_value_19 (by decide) ?_
    exact x_iret cx hr hlk dX9_value_23 ((congrArg (fun z => some (Value.int (nI z))) (show T.2 0 ((r * 4) + c) = t_v T r c from by first | (rw [t_v, if_pos (of_decide_eq_true (by assumption))]) | (rw [t_v, if_neg (of_decide_eq_false (by assumption))]))).trans hvv)
set_option maxHeartbeats 4000000 in
set_option maxRecDepth 100000 in
theorem c_t_like0 {l : Launch} {G : x_G} {lo : x_L} {co : x_C} (b : Nat) (T : Tb) (ht : isTb G lo co b T) (hT : Tok0 T) (r o : Nat) (q : Nat) (hr_ : r < 2 ^ 31) (ho_ : o < 2 ^ 31) (hq_ : q < 2 ^ 31) : x_Rd l G lo co yX9_areAlike cX9_areAlike 5 (some .boolean) 3 [.ref (lo (b)), .int (nI r), .int (nI o), .int (nI q)] (some (.int (bI (t_like T r o q)))) := by
  refine x_enter RX9 rfl (by decide) (Nat.le_of_ble_eq_true rfl) ?_
  intro pp ee ss mm bb mt cd ls cx hk hw hr hlk hl
  have hl : lv_has ls 5 [(0, .ref (lo (b))), (1, .int (nI r)), (2, .int (nI o)), (3, .int (nI q))] := hl
  generalize hav : ([.ref (lo (b)), .int (nI r), .int (nI o), .int (nI q)] : List Value).toArray = av at cx ⊢
  generalize hvv : (some (.int (bI (t_like T r o q))) : Option Value) = vv
  have hx := cx.1
  have hb := cx.2.1
  have hown := cx.2.2.2.1
  have hts := cx.2.2.2.2
  obtain ⟨k1, k2, k3, k4, k5, k6, k7, k8, k9, k0⟩ := id hT
  refine lv_iconst (v := nI 0) hx hb dX9_areAlike_0 rfl ?_
  refine lv_istore (lv' := [(4, .int (nI 0)), (0, .ref (lo (b))), (1, .int (nI r)), (2, .int (nI o)), (3, .int (nI q))]) hx hb dX9_areAlike_1 hl (by decide) rfl (fun ls hl => ?_)
  have L3_1 : ∀ (n_ : Nat) (k : Nat), (k ≤ T.1 1) → (allN k (fun c => !q.testBit c || decide (t_v T r c = t_v T o c)) = true) → T.1 1 - k < n_ → ∀ (ls : Array Slot), lv_has ls 5 [(4, .int (nI k)), (0, .ref (lo (b))), (1, .int (nI r)), (2, .int (nI o)), (3, .int (nI q))] → x_w l 3 pp ee ss mm av bb mt cd vv 3 ls [] := by
    intro n_
    induction n_ with
    | zero => intro k hv hall hm_ ls hl; exact absurd hm_ (Nat.not_lt_zero _)
    | succ n_ ih3_1 =>
      intro k hv hall hm_ ls hl
      refine lv_iload hx hb dX9_areAlike_3 (lv_at hl 0 rfl) ?_
      refine lv_aload_n hx hb dX9_areAlike_5 rfl (lv_at hl 1 rfl) ?_
      refine x_get (v := .int (nI (T.1 1))) cx hk hw (ht.1) f_RX9_28_8 rfl dX9_areAlike_6 ?_
      refine x_icmp_ge (tgt := 46) cx dX9_areAlike_9 (by decide) (by first | omega | (have f1 := t_v_le0 hT r k; have f2 := t_v_le0 hT o k; omega)) (fun h9_2 => ?_) (fun h9_2 => ?_)
      · skip
        refine lv_iconst (v := nI 1) hx hb dX9_areAlike_46 rfl ?_
        exact x_zretT (b := t_like T r o q) cx hr hlk dX9_areAlike_47 (by rw [t_like, show T.1 1 = k by omega]; exact hall) hvv
      · skip
        refine lv_iload hx hb dX9_areAlike_12 (lv_at hl 0 rfl) ?_
        refine lv_iload_n hx hb dX9_areAlike_14 rfl (lv_at hl 4 rfl) ?_
        refine x_rdSN (av := [.int (nI k), .int (nI q)]) (rest := []) cx hk hw cn_RX9_91 (c_isIn k q (by omega) (by omega)) hl.1 rfl rfl (Nat.le_of_ble_eq_true rfl) ⟨by decide, by decide⟩ ⟨Nat.zero_le _, Nat.zero_le _⟩ dX9_areAlike_15 ?_
        refine x_if_eq (tgt := 40) cx dX9_areAlike_18 (by decide) (fun h18_3 => ?_) (fun h18_3 => ?_)
        · skip
          refine lv_iinc (v := nI (k + 1)) (lv' := [(4, .int (nI (k + 1))), (0, .ref (lo (b))), (1, .int (nI r)), (2, .int (nI o)), (3, .int (nI q))]) hx hb dX9_areAlike_40 hl (k := 0) rfl (nI_add _ 1) (by decide) rfl (fun ls hl => ?_)
          refine lv_goto (tgt := 3) hx hb dX9_areAlike_43 (by decide) ?_
          exact ih3_1 (k + 1) (by omega) (by exact allN_step hall (by simp [*])) (by omega) _ (lv_sub hl [0, 1, 2, 3, 4] rfl)
        · skip
          refine lv_aload_n hx hb dX9_areAlike_21 rfl (lv_at hl 1 rfl) ?_
          refine lv_iload_n hx hb dX9_areAlike_22 rfl (lv_at hl 2 rfl) ?_
          refine lv_iload hx hb dX9_areAlike_23 (lv_at hl 0 rfl) ?_
          refine x_rdV (av := [.int (nI r), .int (nI k)]) (rest := []) cx hk hw (ht.1) cv_RX9_56_8 (c_t_val0 b T ht hT r k (by omega) (by omega)) hl.1 rfl rfl (Nat.le_of_ble_eq_true rfl) ⟨by decide, by decide⟩ ⟨Nat.zero_le _, Nat.zero_le _⟩ dX9_areAlike_25 ?_
          refine lv_aload_n hx hb dX9_areAlike_28 rfl (lv_at hl 1 rfl) ?_
          refine lv_iload_n hx hb dX9_areAlike_29 rfl (lv_at hl 3 rfl) ?_
          refine lv_iload hx hb dX9_areAlike_30 (lv_at hl 0 rfl) ?_
          refine x_rdV (av := [.int (nI o), .int (nI k)]) (rest := [.int (nI (t_v T r k))]) cx hk hw (ht.1) cv_RX9_56_8 (c_t_val0 b T ht hT o k (by omega) (by omega)) hl.1 rfl rfl (Nat.le_of_ble_eq_true rfl) ⟨by decide, by decide⟩ ⟨Nat.zero_le _, Nat.zero_le _⟩ dX9_areAlike_32 ?_
          refine x_icmp_eq (tgt := 40) cx dX9_areAlike_35 (by decide) (by first | omega | (have f1 := t_v_le0 hT r k; have f2 := t_v_le0 hT o k; omega)) (fun h35_4 => ?_) (fun h35_4 => ?_)
          · skip
            refine lv_iinc (v := nI (k + 1)) (lv' := [(4, .int (nI (k + 1))), (0, .ref (lo (b))), (1, .int (nI r)), (2, .int (nI o)), (3, .int (nI q))]) hx hb dX9_areAlike_40 hl (k := 0) rfl (nI_add _ 1) (by decide) rfl (fun ls hl => ?_)
            refine lv_goto (tgt := 3) hx hb dX9_areAlike_43 (by decide) ?_
            exact ih3_1 (k + 1) (by omega) (by exact allN_step hall (by simp [*])) (by omega) _ (lv_sub hl [0, 1, 2, 3, 4] rfl)
          · skip
            refine lv_iconst (v := nI 0) hx hb dX9_areAlike_38 rfl ?_
            exact x_zretF (b := t_like T r o q) cx hr hlk dX9_areAlike_39 (by exact allN_no (k := k) (by omega) (by simp [*])) hvv
  exact L3_1 (_ + 1) 0 (by omega) (by rfl) (Nat.lt_succ_self _) _ (lv_sub hl [0, 1, 2, 3, 4] rfl)
set_option maxHeartbeats 4000000 in
set_option maxRecDepth 100000 in
theorem c_t_first0 {l : Launch} {G : x_G} {lo : x_L} {co : x_C} (b : Nat) (T : Tb) (ht : isTb G lo co b T) (hT : Tok0 T) (r q : Nat) (hr_ : r < 2 ^ 31) (hq_ : q < 2 ^ 31) : x_Rd l G lo co yX9_isFirstOfItsLike cX9_isFirstOfItsLike 4 (some .boolean) 4 [.ref (lo (b)), .int (nI r), .int (nI q)] (some (.int (bI (t_first T r q)))) := by
  refine x_enter RX9 rfl (by decide) (Nat.le_of_ble_eq_true rfl) ?_
  intro pp ee ss mm bb mt cd ls cx hk hw hr hlk hl
  have hl : lv_has ls 4 [(0, .ref (lo (b))), (1, .int (nI r)), (2, .int (nI q))] := hl
  generalize hav : ([.ref (lo (b)), .int (nI r), .int (nI q)] : List Value).toArray = av at cx ⊢
  generalize hvv : (some (.int (bI (t_first T r q))) : Option Value) = vv
  have hx := cx.1
  have hb := cx.2.1
  have hown := cx.2.2.2.1
  have hts := cx.2.2.2.2
  obtain ⟨k1, k2, k3, k4, k5, k6, k7, k8, k9, k0⟩ := id hT
  refine lv_iconst (v := nI 0) hx hb dX9_isFirstOfItsLike_0 rfl ?_
  refine lv_istore_n (lv' := [(3, .int (nI 0)), (0, .ref (lo (b))), (1, .int (nI r)), (2, .int (nI q))]) hx hb dX9_isFirstOfItsLike_1 rfl hl (by decide) rfl (fun ls hl => ?_)
  have L2_1 : ∀ (n_ : Nat) (k : Nat), (k ≤ r) → (allN k (fun e => !t_like T e r q) = true) → r - k < n_ → ∀ (ls : Array Slot), lv_has ls 4 [(3, .int (nI k)), (0, .ref (lo (b))), (1, .int (nI r)), (2, .int (nI q))] → x_w l 4 pp ee ss mm av bb mt cd vv 2 ls [] := by
    intro n_
    induction n_ with
    | zero => intro k hv hall hm_ ls hl; exact absurd hm_ (Nat.not_lt_zero _)
    | succ n_ ih2_1 =>
      intro k hv hall hm_ ls hl
      refine lv_iload_n hx hb dX9_isFirstOfItsLike_2 rfl (lv_at hl 0 rfl) ?_
      refine lv_iload_n hx hb dX9_isFirstOfItsLike_3 rfl (lv_at hl 2 rfl) ?_
      refine x_icmp_ge (tgt := 25) cx dX9_isFirstOfItsLike_4 (by decide) (by omega) (fun h4_2 => ?_) (fun h4_2 => ?_)
      · skip
        refine lv_iconst (v := nI 1) hx hb dX9_isFirstOfItsLike_25 rfl ?_
        exact x_zretT (b := t_first T r q) cx hr hlk dX9_isFirstOfItsLike_26 (by rw [t_first, show r = k by omega]; rw [show r = k by omega] at hall; exact hall) hvv
      · skip
        refine lv_aload_n hx hb dX9_isFirstOfItsLike_7 rfl (lv_at hl 1 rfl) ?_
        refine lv_iload_n hx hb dX9_isFirstOfItsLike_8 rfl (lv_at hl 0 rfl) ?_
        refine lv_iload_n hx hb dX9_isFirstOfItsLike_9 rfl (lv_at hl 2 rfl) ?_
        refine lv_iload_n hx hb dX9_isFirstOfItsLike_10 rfl (lv_at hl 3 rfl) ?_
        refine x_rdV (av := [.int (nI k), .int (nI r), .int (nI q)]) (rest := []) cx hk hw (ht.1) cv_RX9_88_8 (c_t_like0 b T ht hT k r q (by omega) (by omega) (by omega)) hl.1 rfl rfl (Nat.le_of_ble_eq_true rfl) ⟨by decide, by decide⟩ ⟨Nat.zero_le _, Nat.zero_le _⟩ dX9_isFirstOfItsLike_11 ?_
        refine x_if_eq (tgt := 19) cx dX9_isFirstOfItsLike_14 (by decide) (fun h14_3 => ?_) (fun h14_3 => ?_)
        · skip
          refine lv_iinc (v := nI (k + 1)) (lv' := [(3, .int (nI (k + 1))), (0, .ref (lo (b))), (1, .int (nI r)), (2, .int (nI q))]) hx hb dX9_isFirstOfItsLike_19 hl (k := 0) rfl (nI_add _ 1) (by decide) rfl (fun ls hl => ?_)
          refine lv_goto (tgt := 2) hx hb dX9_isFirstOfItsLike_22 (by decide) ?_
          exact ih2_1 (k + 1) (by omega) (by exact allN_step hall (by simp [*])) (by omega) _ (lv_sub hl [0, 1, 2, 3] rfl)
        · skip
          refine lv_iconst (v := nI 0) hx hb dX9_isFirstOfItsLike_17 rfl ?_
          exact x_zretF (b := t_first T r q) cx hr hlk dX9_isFirstOfItsLike_18 (by exact allN_no (k := k) (by omega) (by simp [*])) hvv
  exact L2_1 (_ + 1) 0 (by omega) (by rfl) (Nat.lt_succ_self _) _ (lv_sub hl [0, 1, 2, 3] rfl)
set_option maxHeartbeats 4000000 in
set_option maxRecDepth 100000 in
theorem c_t_unl0 {l : Launch} {G : x_G} {lo : x_L} {co : x_C} (b : Nat) (T : Tb) (ht : isTb G lo co b T) (hT : Tok0 T) (q : Nat) (hq_ : q < 2 ^ 31) : x_Rd l G lo co yX9_unlikeRows cX9_unlikeRows 4 (some .int) 5 [.ref (lo (b)), .int (nI q)] (some (.int (nI (t_unl T q)))) := by
  refine x_enter RX9 rfl (by decide) (Nat.le_of_ble_eq_true rfl) ?_
  intro pp ee ss mm bb mt cd ls cx hk hw hr hlk hl
  have hl : lv_has ls 4 [(0, .ref (lo (b))), (1, .int (nI q))] := hl
  generalize hav : ([.ref (lo (b)), .int (nI q)] : List Value).toArray = av at cx ⊢
  generalize hvv : (some (.int (nI (t_unl T q))) : Option Value) = vv
  have hx := cx.1
  have hb := cx.2.1
  have hown := cx.2.2.2.1
  have hts := cx.2.2.2.2
  obtain ⟨k1, k2, k3, k4, k5, k6, k7, k8, k9, k0⟩ := id hT
  refine lv_iconst (v := nI 0) hx hb dX9_unlikeRows_0 rfl ?_
  refine lv_istore_n (lv' := [(2, .int (nI 0)), (0, .ref (lo (b))), (1, .int (nI q))]) hx hb dX9_unlikeRows_1 rfl hl (by decide) rfl (fun ls hl => ?_)
  refine lv_iconst (v := nI 0) hx hb dX9_unlikeRows_2 rfl ?_
  refine lv_istore_n (lv' := [(3, .int (nI 0)), (2, .int (nI 0)), (0, .ref (lo (b))), (1, .int (nI q))]) hx hb dX9_unlikeRows_3 rfl hl (by decide) rfl (fun ls hl => ?_)
  have L4_1 : ∀ (n_ : Nat) (f : Nat) (k : Nat), (k ≤ T.1 3) → (f = cntN k (fun r => t_first T r q)) → T.1 3 - k < n_ → ∀ (ls : Array Slot), lv_has ls 4 [(3, .int (nI k)), (2, .int (nI f)), (0, .ref (lo (b))), (1, .int (nI q))] → x_w l 5 pp ee ss mm av bb mt cd vv 4 ls [] := by
    intro n_
    induction n_ with
    | zero => intro f k hv hf hm_ ls hl; exact absurd hm_ (Nat.not_lt_zero _)
    | succ n_ ih4_1 =>
      intro f k hv hf hm_ ls hl
      refine lv_iload_n hx hb dX9_unlikeRows_4 rfl (lv_at hl 0 rfl) ?_
      refine lv_aload_n hx hb dX9_unlikeRows_5 rfl (lv_at hl 2 rfl) ?_
      refine x_get (v := .int (nI (T.1 3))) cx hk hw (ht.1) f_RX9_46_8 rfl dX9_unlikeRows_6 ?_
      refine x_icmp_ge (tgt := 35) cx dX9_unlikeRows_9 (by decide) (by omega) (fun h9_2 => ?_) (fun h9_2 => ?_)
      · skip
        refine lv_iload_n hx hb dX9_unlikeRows_35 rfl (lv_at hl 1 rfl) ?_
        exact x_iret cx hr hlk dX9_unlikeRows_36 ((congrArg (fun z => some (Value.int (nI z))) (show f = t_unl T q from by rw [t_unl, hf, show T.1 3 = k by omega])).trans hvv)
      · skip
        refine lv_iload_n hx hb dX9_unlikeRows_12 rfl (lv_at hl 1 rfl) ?_
        refine lv_aload_n hx hb dX9_unlikeRows_13 rfl (lv_at hl 2 rfl) ?_
        refine lv_iload_n hx hb dX9_unlikeRows_14 rfl (lv_at hl 0 rfl) ?_
        refine lv_iload_n hx hb dX9_unlikeRows_15 rfl (lv_at hl 3 rfl) ?_
        refine x_rdV (av := [.int (nI k), .int (nI q)]) (rest := [.int (nI f)]) cx hk hw (ht.1) cv_RX9_85_8 (c_t_first0 b T ht hT k q (by omega) (by omega)) hl.1 rfl rfl (Nat.le_of_ble_eq_true rfl) ⟨by decide, by decide⟩ ⟨Nat.zero_le _, Nat.zero_le _⟩ dX9_unlikeRows_16 ?_
        have J27_3 : ∀ (y3_s0 : Nat) (ey3_s0 : y3_s0 = if (t_first T k q) = true then 1 else 0) (ls : Array Slot), lv_has ls 4 [(3, .int (nI k)), (2, .int (nI f)), (0, .ref (lo (b))), (1, .int (nI q))] → x_w l 5 pp ee ss mm av bb mt cd vv 27 ls [.int (nI y3_s0), .int (nI f)] := by
          intro y3_s0 ey3_s0 ls hl
          have dy3_s0 : ((t_first T k q) = true ∧ (y3_s0 = 1)) ∨ (¬ ((t_first T k q) = true) ∧ (y3_s0 = 0)) := by rw [ey3_s0]; repeat' (first | (exact rfl) | (split <;> first | (refine Or.inl ⟨by assumption, ?_⟩) | (refine Or.inr ⟨by assumption, ?_⟩)))
          refine x_iaddN cx dX9_unlikeRows_27 ?_
          refine lv_istore_n (lv' := [(2, .int (nI (f + y3_s0))), (3, .int (nI k)), (0, .ref (lo (b))), (1, .int (nI q))]) hx hb dX9_unlikeRows_28 rfl hl (by decide) rfl (fun ls hl => ?_)
          refine lv_iinc (v := nI (k + 1)) (lv' := [(3, .int (nI (k + 1))), (2, .int (nI (f + y3_s0))), (0, .ref (lo (b))), (1, .int (nI q))]) hx hb dX9_unlikeRows_29 hl (k := 1) rfl (nI_add _ 1) (by decide) rfl (fun ls hl => ?_)
          refine lv_goto (tgt := 4) hx hb dX9_unlikeRows_32 (by decide) ?_
          exact ih4_1 (f + y3_s0) (k + 1) (by omega) (by rw [cntN, ← hf]; simp only [*]) (by omega) _ (lv_sub hl [0, 1, 2, 3] rfl)
        refine x_if_eq (tgt := 26) cx dX9_unlikeRows_19 (by decide) (fun h19_4 => ?_) (fun h19_4 => ?_)
        · skip
          refine lv_iconst (v := nI 0) hx hb dX9_unlikeRows_26 rfl ?_
          exact J27_3 0 (by rw [if_neg (fun q => Bool.noConfusion (h19_4.symm.trans q))]) _ (lv_sub hl [0, 1, 2, 3] rfl)
        · skip
          refine lv_iconst (v := nI 1) hx hb dX9_unlikeRows_22 rfl ?_
          refine lv_goto (tgt := 27) hx hb dX9_unlikeRows_23 (by decide) ?_
          exact J27_3 1 (by rw [if_pos h19_4]) _ (lv_sub hl [0, 1, 2, 3] rfl)
  exact L4_1 (_ + 1) 0 0 (by omega) (by rfl) (Nat.lt_succ_self _) _ (lv_sub hl [0, 1, 2, 3] rfl)
set_option maxHeartbeats 4000000 in
set_option maxRecDepth 100000 in
theorem g_write {l : Launch} {G : x_G} {lo : x_L} {co : x_C} (b : Nat) (T : Tb) (ht : isTb G lo co b T) (hT : Tok1 T) (r c : Nat) (x : Int32) (hr_ : r < 2 ^ 20) (hc_ : c < 2 ^ 20) (hx_ : r < T.1 3 → c < T.1 1 → x = nI x.toNatClampNeg) : x_Wr l G lo (co) yX9_write cX9_write 4 none 3 0 0 [.ref (lo (b)), .int (nI r), .int (nI c), .int (x)] (fun (v : Option Value) (lo1 : x_L) (co1 : x_C) => v = none ∧ lo1 = lo ∧ isTb G lo co1 b (wrT T r c x.toNatClampNeg) ∧ ofr co co1 b 5) := by
  refine x_wenter RX9 rfl (by decide) (Nat.le_of_ble_eq_true rfl) ?_
  intro pp ee ss mm bb mt cd ls AA cx hk hW hA hr hlk hnm hl
  have hl : lv_has ls 4 [(0, .ref (lo (b))), (1, .int (nI r)), (2, .int (nI c)), (3, .int (x))] := hl
  generalize hav : ([.ref (lo (b)), .int (nI r), .int (nI c), .int (x)] : List Value).toArray = av at cx ⊢
  generalize hpo : (fun (v : Option Value) (lo1 : x_L) (co1 : x_C) => v = none ∧ lo1 = lo ∧ isTb G lo co1 b (wrT T r c x.toNatClampNeg) ∧ ofr co co1 b 5) = po
  have hx := cx.1
  have hb := cx.2.1
  have hown := cx.2.2.2.1
  have hts := cx.2.2.2.2
  have hw := hW.1
  suffices key_ : ∀ (H : Heap) (locs : List Loc), x_D AA G ss.heap lo (co) H locs → x_ww l 3 0 0 pp ee ss mm av bb mt cd G po AA H locs 0 0 0 ls [] from key_ _ _ hW
  intro H locs hW
  have hw := hW.1
  obtain ⟨k1, k2, k3, k4, k5, k6, k7, k8, k9, k0⟩ := id hT
  refine lv_aload_n hx hb dX9_write_0 rfl (lv_at hl 0 rfl) ?_
  refine lv_iload_n hx hb dX9_write_1 rfl (lv_at hl 1 rfl) ?_
  refine lv_iload_n hx hb dX9_write_2 rfl (lv_at hl 2 rfl) ?_
  refine x_rdV (av := [.int (nI r), .int (nI c)]) (rest := []) cx hk hw (ht.1) cv_RX9_53_8 (c_t_cell1 b T ht hT r c (by omega) (by omega)) hl.1 rfl rfl (Nat.le_of_ble_eq_true rfl) ⟨by decide, by decide⟩ ⟨Nat.zero_le _, Nat.zero_le _⟩ dX9_write_3 ?_
  refine x_if_eq (tgt := 20) cx dX9_write_6 (by decide) (fun h6_1 => ?_) (fun h6_1 => ?_)
  · skip
    exact y_vret cx hW hr hlk ⟨by decide, by decide⟩ dX9_write_20 (by rw [← hpo]; first | (refine ⟨rfl, rfl, ?_, (ofr.rf _ _ _)⟩; rw [wrT, if_pos hrc]; exact ht) | (refine ⟨rfl, rfl, ?_, ofr.rf _ _ _⟩; rw [wrT, if_neg (of_decide_eq_false (by assumption))]; exact ht))
  · skip
    have hrc := of_decide_eq_true (by assumption : decide (r < T.1 3 ∧ c < T.1 1) = true)
    refine lv_aload_n hx hb dX9_write_9 rfl (lv_at hl 0 rfl) ?_
    refine x_get (v := .ref (lo (b + 1))) cx hk hw (ht.1) f_RX9_9_8 rfl dX9_write_10 ?_
    refine lv_iload_n hx hb dX9_write_13 rfl (lv_at hl 1 rfl) ?_
    refine lv_iconst (v := nI 4) hx hb dX9_write_14 rfl ?_
    refine x_imulN cx dX9_write_15 ?_
    refine lv_iload_n hx hb dX9_write_16 rfl (lv_at hl 2 rfl) ?_
    refine x_iaddN cx dX9_write_17 ?_
    refine lv_iload_n hx hb dX9_write_18 rfl (lv_at hl 3 rfl) ?_
    rw [hx_ hrc.1 hrc.2]
    refine t_st0 cx hk hW ht (by omega) dX9_write_19 (fun co2 H locs ht2 ho2 hW => ?_)
    have hw := hW.1
    exact y_vret cx hW hr hlk ⟨by decide, by decide⟩ dX9_write_20 (by rw [← hpo]; first | (refine ⟨rfl, rfl, ?_, ho2⟩; rw [wrT, if_pos hrc]; exact ht2) | (refine ⟨rfl, rfl, ?_, ofr.rf _ _ _⟩; rw [wrT, if_neg (of_decide_eq_false (by assumption))]; exact ht))
set_option maxHeartbeats 4000000 in
set_option maxRecDepth 100000 in
theorem g_append {l : Launch} {G : x_G} {lo : x_L} {co : x_C} (b : Nat) (T : Tb) (ht : isTb G lo co b T) (hT : Tok T) (hr60 : T.1 3 < 60) (a b_ c d : Int32) (hv_ : s_vals T a b_ c d = true) : x_Wr l G lo (co) yX9_append cX9_append 6 (some .int) 4 0 0 [.ref (lo (b)), .int (a), .int (b_), .int (c), .int (d)] (fun (v : Option Value) (lo1 : x_L) (co1 : x_C) => v = some (.int (nI (T.1 3))) ∧ lo1 = lo ∧ isTb G lo co1 b (putT T a b_ c d) ∧ ofr co co1 b 5) := by
  refine x_wenter RX9 rfl (by decide) (Nat.le_of_ble_eq_true rfl) ?_
  intro pp ee ss mm bb mt cd ls AA cx hk hW hA hr hlk hnm hl
  have hl : lv_has ls 6 [(0, .ref (lo (b))), (1, .int (a)), (2, .int (b_)), (3, .int (c)), (4, .int (d))] := hl
  generalize hav : ([.ref (lo (b)), .int (a), .int (b_), .int (c), .int (d)] : List Value).toArray = av at cx ⊢
  generalize hpo : (fun (v : Option Value) (lo1 : x_L) (co1 : x_C) => v = some (.int (nI (T.1 3))) ∧ lo1 = lo ∧ isTb G lo co1 b (putT T a b_ c d) ∧ ofr co co1 b 5) = po
  have hx := cx.1
  have hb := cx.2.1
  have hown := cx.2.2.2.1
  have hts := cx.2.2.2.2
  have hw := hW.1
  suffices key_ : ∀ (H : Heap) (locs : List Loc), x_D AA G ss.heap lo (co) H locs → x_ww l 4 0 0 pp ee ss mm av bb mt cd G po AA H locs 0 0 0 ls [] from key_ _ _ hW
  intro H locs hW
  have hw := hW.1
  obtain ⟨k1, k2, k3, k4, k5, k6, k7, k8, k9, k0⟩ := id hT
  refine lv_aload_n hx hb dX9_append_0 rfl (lv_at hl 0 rfl) ?_
  refine x_get (v := .int (nI (T.1 3))) cx hk hw (ht.1) f_RX9_46_8 rfl dX9_append_1 ?_
  refine lv_istore (lv' := [(5, .int (nI (T.1 3))), (0, .ref (lo (b))), (1, .int (a)), (2, .int (b_)), (3, .int (c)), (4, .int (d))]) hx hb dX9_append_4 hl (by decide) rfl (fun ls hl => ?_)
  refine lv_aload_n hx hb dX9_append_6 rfl (lv_at hl 1 rfl) ?_
  refine lv_dup hx hb dX9_append_7 rfl ?_
  refine x_get (v := .int (nI (T.1 3))) cx hk hw (ht.1) f_RX9_46_8 rfl dX9_append_8 ?_
  refine lv_iconst (v := nI 1) hx hb dX9_append_11 rfl ?_
  refine x_iaddN cx dX9_append_12 ?_
  refine t_pf3 cx hk hW ht p_RX9_46_8 dX9_append_13 (fun co1 H locs ht1 ho1 hW => ?_)
  have hw := hW.1
  have hti : isTb G lo _ b (incT T) := ht1
  have hT1 := Tok1_inc hT hr60
  refine lv_aload_n hx hb dX9_append_16 rfl (lv_at hl 1 rfl) ?_
  refine lv_iload hx hb dX9_append_17 (lv_at hl 0 rfl) ?_
  refine lv_iconst (v := nI 0) hx hb dX9_append_19 rfl ?_
  refine lv_iload_n hx hb dX9_append_20 rfl (lv_at hl 2 rfl) ?_
  refine y_wrV (av := [.int (nI (T.1 3)), .int (nI 0), .int (a)]) (rest := []) cx hk hW hA (hti.1) cv_RX9_49_8 (g_write b (incT T) hti hT1 (T.1 3) 0 a (by omega) (by omega) (fun _ h_ => wr_col (a := a) (b := b_) (c := c) (d := d) (k := 0) hv_ (by first | rfl | (simp only [wrT_1]; rfl) | simp only [wrT_1]) h_)) hl.1 rfl rfl (Nat.le_of_ble_eq_true rfl) ⟨by decide, by decide⟩ ⟨by decide, by decide⟩ dX9_append_21 (fun v_ lo2 co2 H locs hq_ hW => ?_)
  obtain ⟨hv_, hlo_, ht2, ho2⟩ := hq_
  have hlo2_ := hlo_.symm
  subst hv_ hlo2_
  have hw := hW.1
  have hT2 := Tok1_wr (T := (incT T)) (r := T.1 3) (c := 0) (v := (a).toNatClampNeg) hT1
  refine lv_aload_n hx hb dX9_append_24 rfl (lv_at hl 1 rfl) ?_
  refine lv_iload hx hb dX9_append_25 (lv_at hl 0 rfl) ?_
  refine lv_iconst (v := nI 1) hx hb dX9_append_27 rfl ?_
  refine lv_iload_n hx hb dX9_append_28 rfl (lv_at hl 3 rfl) ?_
  refine y_wrV (av := [.int (nI (T.1 3)), .int (nI 1), .int (b_)]) (rest := []) cx hk hW hA (ht2.1) cv_RX9_49_8 (g_write b (wrT (incT T) (T.1 3) 0 (a).toNatClampNeg) ht2 hT2 (T.1 3) 1 b_ (by omega) (by omega) (fun _ h_ => wr_col (a := a) (b := b_) (c := c) (d := d) (k := 1) hv_ (by first | rfl | (simp only [wrT_1]; rfl) | simp only [wrT_1]) h_)) hl.1 rfl rfl (Nat.le_of_ble_eq_true rfl) ⟨by decide, by decide⟩ ⟨by decide, by decide⟩ dX9_append_29 (fun v_ lo3 co3 H locs hq_ hW => ?_)
  obtain ⟨hv_, hlo_, ht3, ho3⟩ := hq_
  have hlo2_ := hlo_.symm
  subst hv_ hlo2_
  have hw := hW.1
  have hT3 := Tok1_wr (T := (wrT (incT T) (T.1 3) 0 (a).toNatClampNeg)) (r := T.1 3) (c := 1) (v := (b_).toNatClampNeg) hT2
  refine lv_aload_n hx hb dX9_append_32 rfl (lv_at hl 1 rfl) ?_
  refine lv_iload hx hb dX9_append_33 (lv_at hl 0 rfl) ?_
  refine lv_iconst (v := nI 2) hx hb dX9_append_35 rfl ?_
  refine lv_iload_n hx hb dX9_append_36 rfl (lv_at hl 4 rfl) ?_
  refine y_wrV (av := [.int (nI (T.1 3)), .int (nI 2), .int (c)]) (rest := []) cx hk hW hA (ht3.1) cv_RX9_49_8 (g_write b (wrT (wrT (incT T) (T.1 3) 0 (a).toNatClampNeg) (T.1 3) 1 (b_).toNatClampNeg) ht3 hT3 (T.1 3) 2 c (by omega) (by omega) (fun _ h_ => wr_col (a := a) (b := b_) (c := c) (d := d) (k := 2) hv_ (by first | rfl | (simp only [wrT_1]; rfl) | simp only [wrT_1]) h_)) hl.1 rfl rfl (Nat.le_of_ble_eq_true rfl) ⟨by decide, by decide⟩ ⟨by decide, by decide⟩ dX9_append_37 (fun v_ lo4 co4 H locs hq_ hW => ?_)
  obtain ⟨hv_, hlo_, ht4, ho4⟩ := hq_
  have hlo2_ := hlo_.symm
  subst hv_ hlo2_
  have hw := hW.1
  have hT4 := Tok1_wr (T := (wrT (wrT (incT T) (T.1 3) 0 (a).toNatClampNeg) (T.1 3) 1 (b_).toNatClampNeg)) (r := T.1 3) (c := 2) (v := (c).toNatClampNeg) hT3
  refine lv_aload_n hx hb dX9_append_40 rfl (lv_at hl 1 rfl) ?_
  refine lv_iload hx hb dX9_append_41 (lv_at hl 0 rfl) ?_
  refine lv_iconst (v := nI 3) hx hb dX9_append_43 rfl ?_
  refine lv_iload hx hb dX9_append_44 (lv_at hl 5 rfl) ?_
  refine y_wrV (av := [.int (nI (T.1 3)), .int (nI 3), .int (d)]) (rest := []) cx hk hW hA (ht4.1) cv_RX9_49_8 (g_write b (wrT (wrT (wrT (incT T) (T.1 3) 0 (a).toNatClampNeg) (T.1 3) 1 (b_).toNatClampNeg) (T.1 3) 2 (c).toNatClampNeg) ht4 hT4 (T.1 3) 3 d (by omega) (by omega) (fun _ h_ => wr_col (a := a) (b := b_) (c := c) (d := d) (k := 3) hv_ (by first | rfl | (simp only [wrT_1]; rfl) | simp only [wrT_1]) h_)) hl.1 rfl rfl (Nat.le_of_ble_eq_true rfl) ⟨by decide, by decide⟩ ⟨by decide, by decide⟩ dX9_append_46 (fun v_ lo5 co5 H locs hq_ hW => ?_)
  obtain ⟨hv_, hlo_, ht5, ho5⟩ := hq_
  have hlo2_ := hlo_.symm
  subst hv_ hlo2_
  have hw := hW.1
  have hT5 := Tok1_wr (T := (wrT (wrT (wrT (incT T) (T.1 3) 0 (a).toNatClampNeg) (T.1 3) 1 (b_).toNatClampNeg) (T.1 3) 2 (c).toNatClampNeg)) (r := T.1 3) (c := 3) (v := (d).toNatClampNeg) hT4
  refine lv_iload hx hb dX9_append_49 (lv_at hl 0 rfl) ?_
  exact y_iret cx hW hr hlk ⟨by decide, by decide⟩ dX9_append_51 (by rw [← hpo]; exact ⟨rfl, rfl, by rw [← wr_put hT]; exact ht5, ((((ho1).tr ho2).tr ho3).tr ho4).tr ho5⟩)
set_option maxHeartbeats 4000000 in
set_option maxRecDepth 100000 in
theorem g_remove {l : Launch} {G : x_G} {lo : x_L} {co : x_C} (b : Nat) (T : Tb) (ht : isTb G lo co b T) (hT : Tok T) (hz : Tz4 T) (r : Nat) (hr_ : r < T.1 3) : x_Wr l G lo (co) yX9_remove cX9_remove 4 none 4 0 0 [.ref (lo (b)), .int (nI r)] (fun (v : Option Value) (lo1 : x_L) (co1 : x_C) => v = none ∧ lo1 = lo ∧ isTb G lo co1 b (strT T r) ∧ ofr co co1 b 5) := by
  refine x_wenter RX9 rfl (by decide) (Nat.le_of_ble_eq_true rfl) ?_
  intro pp ee ss mm bb mt cd ls AA cx hk hW hA hr hlk hnm hl
  have hl : lv_has ls 4 [(0, .ref (lo (b))), (1, .int (nI r))] := hl
  generalize hav : ([.ref (lo (b)), .int (nI r)] : List Value).toArray = av at cx ⊢
  generalize hpo : (fun (v : Option Value) (lo1 : x_L) (co1 : x_C) => v = none ∧ lo1 = lo ∧ isTb G lo co1 b (strT T r) ∧ ofr co co1 b 5) = po
  have hx := cx.1
  have hb := cx.2.1
  have hown := cx.2.2.2.1
  have hts := cx.2.2.2.2
  have hw := hW.1
  suffices key_ : ∀ (H : Heap) (locs : List Loc), x_D AA G ss.heap lo (co) H locs → x_ww l 4 0 0 pp ee ss mm av bb mt cd G po AA H locs 0 0 0 ls [] from key_ _ _ hW
  intro H locs hW
  have hw := hW.1
  obtain ⟨k1, k2, k3, k4, k5, k6, k7, k8, k9, k0⟩ := id hT
  refine lv_iload_n hx hb dX9_remove_0 rfl (lv_at hl 1 rfl) ?_
  refine lv_iconst (v := nI 1) hx hb dX9_remove_1 rfl ?_
  refine x_iaddN cx dX9_remove_2 ?_
  refine lv_istore_n (lv' := [(2, .int (nI (r + 1))), (0, .ref (lo (b))), (1, .int (nI r))]) hx hb dX9_remove_3 rfl hl (by decide) rfl (fun ls hl => ?_)
  have L4_1 : ∀ (n_ : Nat) (k : Nat) (cw1 : x_C), (r < k ∧ k ≤ T.1 3) → (isTb G lo cw1 b (rmT T r k 0)) → (ofr co cw1 b 5) → T.1 3 - k < n_ → ∀ (H : Heap) (locs : List Loc) (ls : Array Slot), x_D AA G ss.heap lo cw1 H locs → lv_has ls 4 [(2, .int (nI k)), (0, .ref (lo (b))), (1, .int (nI r))] → x_ww l 4 0 0 pp ee ss mm av bb mt cd G po AA H locs 0 0 4 ls [] := by
    intro n_
    induction n_ with
    | zero => intro k cw1 hv htk hof hm_ H locs ls hW hl; exact absurd hm_ (Nat.not_lt_zero _)
    | succ n_ ih4_1 =>
      intro k cw1 hv htk hof hm_1 H locs ls hW hl
      have hw := hW.1
      refine lv_iload_n hx hb dX9_remove_4 rfl (lv_at hl 0 rfl) ?_
      refine lv_aload_n hx hb dX9_remove_5 rfl (lv_at hl 1 rfl) ?_
      refine x_get (v := .int (nI (T.1 3))) cx hk hw (htk.1) f_RX9_46_8 rfl dX9_remove_6 ?_
      refine x_icmp_ge (tgt := 48) cx dX9_remove_9 (by decide) (by omega) (fun h9_2 => ?_) (fun h9_2 => ?_)
      · skip
        refine lv_aload_n hx hb dX9_remove_48 rfl (lv_at hl 1 rfl) ?_
        refine lv_dup hx hb dX9_remove_49 rfl ?_
        refine x_get (v := .int (nI (T.1 3))) cx hk hw (htk.1) f_RX9_46_8 rfl dX9_remove_50 ?_
        refine lv_iconst (v := nI 1) hx hb dX9_remove_53 rfl ?_
        refine x_isubN cx (by omega) dX9_remove_54 ?_
        refine t_pf3 cx hk hW htk p_RX9_46_8 dX9_remove_55 (fun co3 H locs ht3 ho3 hW => ?_)
        have hw := hW.1
        exact y_vret cx hW hr hlk ⟨by decide, by decide⟩ dX9_remove_58 (by rw [← hpo]; exact ⟨rfl, rfl, by rw [← rmT_e (b := k) hz (by omega) hr_]; exact ht3, (hof).tr ho3⟩)
      · skip
        refine lv_iconst (v := nI 0) hx hb dX9_remove_12 rfl ?_
        refine lv_istore_n (lv' := [(3, .int (nI 0)), (2, .int (nI k)), (0, .ref (lo (b))), (1, .int (nI r))]) hx hb dX9_remove_13 rfl hl (by decide) rfl (fun ls hl => ?_)
        have L14_4 : ∀ (n_ : Nat) (j : Nat) (cw4 : x_C), (j ≤ T.1 1) → (isTb G lo cw4 b (rmT T r k j)) → (ofr co cw4 b 5) → T.1 1 - j < n_ → ∀ (H : Heap) (locs : List Loc) (ls : Array Slot), x_D AA G ss.heap lo cw4 H locs → lv_has ls 4 [(3, .int (nI j)), (2, .int (nI k)), (0, .ref (lo (b))), (1, .int (nI r))] → x_ww l 4 0 0 pp ee ss mm av bb mt cd G po AA H locs 0 0 14 ls [] := by
          intro n_
          induction n_ with
          | zero => intro j cw4 hj htj hof hm_ H locs ls hW hl; exact absurd hm_ (Nat.not_lt_zero _)
          | succ n_ ih14_4 =>
            intro j cw4 hj htj hof hm_4 H locs ls hW hl
            have hw := hW.1
            refine lv_iload_n hx hb dX9_remove_14 rfl (lv_at hl 0 rfl) ?_
            refine lv_aload_n hx hb dX9_remove_15 rfl (lv_at hl 2 rfl) ?_
            refine x_get (v := .int (nI (T.1 1))) cx hk hw (htj.1) f_RX9_28_8 rfl dX9_remove_16 ?_
            refine x_icmp_ge (tgt := 42) cx dX9_remove_19 (by decide) (by omega) (fun h19_5 => ?_) (fun h19_5 => ?_)
            · skip
              refine lv_iinc (v := nI (k + 1)) (lv' := [(2, .int (nI (k + 1))), (3, .int (nI j)), (0, .ref (lo (b))), (1, .int (nI r))]) hx hb dX9_remove_42 hl (k := 1) rfl (nI_add _ 1) (by decide) rfl (fun ls hl => ?_)
              refine lv_goto (tgt := 4) hx hb dX9_remove_45 (by decide) ?_
              exact ih4_1 (k + 1) _ (by omega) (by rw [← rmT_n (by omega)]; exact htj) (by exact hof) (by omega) _ _ _ hW (lv_sub hl [0, 2, 3] rfl)
            · skip
              refine lv_aload_n hx hb dX9_remove_22 rfl (lv_at hl 2 rfl) ?_
              refine lv_iload_n hx hb dX9_remove_23 rfl (lv_at hl 1 rfl) ?_
              refine lv_iconst (v := nI 1) hx hb dX9_remove_24 rfl ?_
              refine x_isubN cx (by omega) dX9_remove_25 ?_
              refine lv_iload_n hx hb dX9_remove_26 rfl (lv_at hl 0 rfl) ?_
              refine lv_aload_n hx hb dX9_remove_27 rfl (lv_at hl 2 rfl) ?_
              refine lv_iload_n hx hb dX9_remove_28 rfl (lv_at hl 1 rfl) ?_
              refine lv_iload_n hx hb dX9_remove_29 rfl (lv_at hl 0 rfl) ?_
              refine x_rdV (av := [.int (nI k), .int (nI j)]) (rest := [.int (nI j), .int (nI (k - 1)), .ref (lo (b))]) cx hk hw (htj.1) cv_RX9_56_8 (c_t_val1 b (rmT T r k j) htj (Tok1_rm hT) k j (by omega) (by omega)) hl.1 rfl rfl (Nat.le_of_ble_eq_true rfl) ⟨by decide, by decide⟩ ⟨Nat.zero_le _, Nat.zero_le _⟩ dX9_remove_30 ?_
              rw [show t_v (rmT T r k j) k j = T.2 0 (k * 4 + j) from rmT_v hT (by omega) (by omega)]
              have hc9 := k8 k j (by omega) (by omega)
              refine y_wrV (av := [.int (nI (k - 1)), .int (nI j), .int (nI (T.2 0 (k * 4 + j)))]) (rest := []) cx hk hW hA (htj.1) cv_RX9_49_8 (g_write b (rmT T r k j) htj (Tok1_rm hT) (k - 1) j (nI (T.2 0 (k * 4 + j))) (by omega) (by omega) (fun _ _ => by rw [nI_clamp (by omega)])) hl.1 rfl rfl (Nat.le_of_ble_eq_true rfl) ⟨by decide, by decide⟩ ⟨by decide, by decide⟩ dX9_remove_33 (fun v_ lo6 co6 H locs hq_ hW => ?_)
              obtain ⟨hv_, hlo_, ht6, ho6⟩ := hq_
              have hlo2_ := hlo_.symm
              subst hv_ hlo2_
              have hw := hW.1
              have hT6 := Tok1_wr (T := (rmT T r k j)) (r := k - 1) (c := j) (v := (nI (T.2 0 (k * 4 + j))).toNatClampNeg) (Tok1_rm hT)
              refine lv_iinc (v := nI (j + 1)) (lv' := [(3, .int (nI (j + 1))), (2, .int (nI k)), (0, .ref (lo (b))), (1, .int (nI r))]) hx hb dX9_remove_36 hl (k := 0) rfl (nI_add _ 1) (by decide) rfl (fun ls hl => ?_)
              refine lv_goto (tgt := 14) hx hb dX9_remove_39 (by decide) ?_
              exact ih14_4 (j + 1) _ (by omega) (by rw [← rmT_s hT hv.1 (by omega) (by omega) (nI_clamp (n := T.2 0 (k * 4 + j)) (by omega))]; exact ht6) (by exact (hof).tr ho6) (by omega) _ _ _ hW (lv_sub hl [0, 1, 2, 3] rfl)
        exact L14_4 (_ + 1) 0 _ (by omega) (by exact htk) (by exact hof) (Nat.lt_succ_self _) _ _ _ hW (lv_sub hl [0, 1, 2, 3] rfl)
  exact L4_1 (_ + 1) (r + 1) _ (by omega) (by rw [rmT_0]; exact ht) (by exact ofr.rf _ _ _) (Nat.lt_succ_self _) _ _ _ hW (lv_sub hl [0, 1, 2] rfl)
set_option maxHeartbeats 4000000 in
set_option maxRecDepth 100000 in
theorem g_ends {l : Launch} {G : x_G} {lo : x_L} {co : x_C} (b : Nat) (T : Tb) (ht : isTb G lo co b T) (hT : Tok0 T) (c : Nat) (hc_ : c < T.1 1) : x_Wr l G lo (co) yX9_takeEnds cX9_takeEnds 5 none 3 0 0 [.ref (lo (b)), .int (nI c)] (fun (v : Option Value) (lo1 : x_L) (co1 : x_C) => v = none ∧ lo1 = lo ∧ isTb G lo co1 b (endT T c) ∧ ofr co co1 b 5) := by
  refine x_wenter RX9 rfl (by decide) (Nat.le_of_ble_eq_true rfl) ?_
  intro pp ee ss mm bb mt cd ls AA cx hk hW hA hr hlk hnm hl
  have hl : lv_has ls 5 [(0, .ref (lo (b))), (1, .int (nI c))] := hl
  generalize hav : ([.ref (lo (b)), .int (nI c)] : List Value).toArray = av at cx ⊢
  generalize hpo : (fun (v : Option Value) (lo1 : x_L) (co1 : x_C) => v = none ∧ lo1 = lo ∧ isTb G lo co1 b (endT T c) ∧ ofr co co1 b 5) = po
  have hx := cx.1
  have hb := cx.2.1
  have hown := cx.2.2.2.1
  have hts := cx.2.2.2.2
  have hw := hW.1
  suffices key_ : ∀ (H : Heap) (locs : List Loc), x_D AA G ss.heap lo (co) H locs → x_ww l 3 0 0 pp ee ss mm av bb mt cd G po AA H locs 0 0 0 ls [] from key_ _ _ hW
  intro H locs hW
  have hw := hW.1
  obtain ⟨k1, k2, k3, k4, k5, k6, k7, k8, k9, k0⟩ := id hT
  refine lv_aload_n hx hb dX9_takeEnds_0 rfl (lv_at hl 0 rfl) ?_
  refine lv_iconst (v := nI 0) hx hb dX9_takeEnds_1 rfl ?_
  refine lv_iload_n hx hb dX9_takeEnds_2 rfl (lv_at hl 1 rfl) ?_
  refine x_rdV (av := [.int (nI 0), .int (nI c)]) (rest := []) cx hk hw (ht.1) cv_RX9_56_8 (c_t_val0 b T ht hT 0 c (by omega) (by omega)) hl.1 rfl rfl (Nat.le_of_ble_eq_true rfl) ⟨by decide, by decide⟩ ⟨Nat.zero_le _, Nat.zero_le _⟩ dX9_takeEnds_3 ?_
  refine lv_istore_n (lv' := [(2, .int (nI (t_v T 0 c))), (0, .ref (lo (b))), (1, .int (nI c))]) hx hb dX9_takeEnds_6 rfl hl (by decide) rfl (fun ls hl => ?_)
  refine lv_iload_n hx hb dX9_takeEnds_7 rfl (lv_at hl 0 rfl) ?_
  refine lv_istore_n (lv' := [(3, .int (nI (t_v T 0 c))), (2, .int (nI (t_v T 0 c))), (0, .ref (lo (b))), (1, .int (nI c))]) hx hb dX9_takeEnds_8 rfl hl (by decide) rfl (fun ls hl => ?_)
  refine lv_iconst (v := nI 1) hx hb dX9_takeEnds_9 rfl ?_
  refine lv_istore (lv' := [(4, .int (nI 1)), (3, .int (nI (t_v T 0 c))), (2, .int (nI (t_v T 0 c))), (0, .ref (lo (b))), (1, .int (nI c))]) hx hb dX9_takeEnds_10 hl (by decide) rfl (fun ls hl => ?_)
  have L12_1 : ∀ (n_ : Nat) (lw : Nat) (hg : Nat) (k : Nat), (1 ≤ k ∧ (k ≤ T.1 3 ∨ k = 1)) → (lw = t_min T c k) → (hg = t_max T c k) → T.1 3 - k < n_ → ∀ (ls : Array Slot), lv_has ls 5 [(4, .int (nI k)), (3, .int (nI hg)), (2, .int (nI lw)), (0, .ref (lo (b))), (1, .int (nI c))] → x_ww l 3 0 0 pp ee ss mm av bb mt cd G po AA H locs 0 0 12 ls [] := by
    intro n_
    induction n_ with
    | zero => intro lw hg k hv hlw hhg hm_ ls hl; exact absurd hm_ (Nat.not_lt_zero _)
    | succ n_ ih12_1 =>
      intro lw hg k hv hlw hhg hm_ ls hl
      have hb1 : lw ≤ 999 := by rw [hlw]; exact t_min_le0 hT c k
      have hb2 : hg ≤ 999 := by rw [hhg]; exact t_max_le0 hT c k
      have hb3 := t_v_le0 hT k c
      refine lv_iload hx hb dX9_takeEnds_12 (lv_at hl 0 rfl) ?_
      refine lv_aload_n hx hb dX9_takeEnds_14 rfl (lv_at hl 3 rfl) ?_
      refine x_get (v := .int (nI (T.1 3))) cx hk hw (ht.1) f_RX9_46_8 rfl dX9_takeEnds_15 ?_
      refine x_icmp_ge (tgt := 51) cx dX9_takeEnds_18 (by decide) (by omega) (fun h18_2 => ?_) (fun h18_2 => ?_)
      · skip
        refine lv_aload_n hx hb dX9_takeEnds_51 rfl (lv_at hl 3 rfl) ?_
        refine x_get (v := .ref (lo (b + 3))) cx hk hw (ht.1) f_RX9_18_8 rfl dX9_takeEnds_52 ?_
        refine lv_iload_n hx hb dX9_takeEnds_55 rfl (lv_at hl 4 rfl) ?_
        refine lv_iload_n hx hb dX9_takeEnds_56 rfl (lv_at hl 2 rfl) ?_
        refine t_st2 cx hk hW ht (by omega) dX9_takeEnds_57 (fun co3 H locs ht3 ho3 hW => ?_)
        have hw := hW.1
        refine lv_aload_n hx hb dX9_takeEnds_58 rfl (lv_at hl 3 rfl) ?_
        refine x_get (v := .ref (lo (b + 4))) cx hk hw (ht3.1) f_RX9_21_8 rfl dX9_takeEnds_59 ?_
        refine lv_iload_n hx hb dX9_takeEnds_62 rfl (lv_at hl 4 rfl) ?_
        refine lv_iload_n hx hb dX9_takeEnds_63 rfl (lv_at hl 1 rfl) ?_
        refine t_st3 cx hk hW ht3 (by omega) dX9_takeEnds_64 (fun co4 H locs ht4 ho4 hW => ?_)
        have hw := hW.1
        exact y_vret cx hW hr hlk ⟨by decide, by decide⟩ dX9_takeEnds_65 (by rw [← hpo]; refine ⟨rfl, rfl, ?_, (ho3).tr ho4⟩; rw [endT, ← t_min_end hv.1 (by omega) hv.2, ← t_max_end hv.1 (by omega) hv.2, ← hlw, ← hhg]; exact ht4)
      · skip
        refine lv_iload_n hx hb dX9_takeEnds_21 rfl (lv_at hl 2 rfl) ?_
        refine lv_aload_n hx hb dX9_takeEnds_22 rfl (lv_at hl 3 rfl) ?_
        refine lv_iload hx hb dX9_takeEnds_23 (lv_at hl 0 rfl) ?_
        refine lv_iload_n hx hb dX9_takeEnds_25 rfl (lv_at hl 4 rfl) ?_
        refine x_rdV (av := [.int (nI k), .int (nI c)]) (rest := [.int (nI lw)]) cx hk hw (ht.1) cv_RX9_56_8 (c_t_val0 b T ht hT k c (by omega) (by omega)) hl.1 rfl rfl (Nat.le_of_ble_eq_true rfl) ⟨by decide, by decide⟩ ⟨Nat.zero_le _, Nat.zero_le _⟩ dX9_takeEnds_26 ?_
        refine x_mmin cx hl.1 w_243 (by omega) w_244 w_8 w_245 ⟨Nat.le_of_ble_eq_true rfl, Nat.le_of_ble_eq_true rfl⟩ ⟨Nat.zero_le _, Nat.zero_le _⟩ dX9_takeEnds_29 ?_
        refine lv_istore_n (lv' := [(2, .int (nI (min lw (t_v T k c)))), (4, .int (nI k)), (3, .int (nI hg)), (0, .ref (lo (b))), (1, .int (nI c))]) hx hb dX9_takeEnds_32 rfl hl (by decide) rfl (fun ls hl => ?_)
        refine lv_iload_n hx hb dX9_takeEnds_33 rfl (lv_at hl 2 rfl) ?_
        refine lv_aload_n hx hb dX9_takeEnds_34 rfl (lv_at hl 3 rfl) ?_
        refine lv_iload hx hb dX9_takeEnds_35 (lv_at hl 1 rfl) ?_
        refine lv_iload_n hx hb dX9_takeEnds_37 rfl (lv_at hl 4 rfl) ?_
        refine x_rdV (av := [.int (nI k), .int (nI c)]) (rest := [.int (nI hg)]) cx hk hw (ht.1) cv_RX9_56_8 (c_t_val0 b T ht hT k c (by omega) (by omega)) hl.1 rfl rfl (Nat.le_of_ble_eq_true rfl) ⟨by decide, by decide⟩ ⟨Nat.zero_le _, Nat.zero_le _⟩ dX9_takeEnds_38 ?_
        refine x_mmax cx hl.1 w_246 (by omega) w_247 w_8 w_248 ⟨Nat.le_of_ble_eq_true rfl, Nat.le_of_ble_eq_true rfl⟩ ⟨Nat.zero_le _, Nat.zero_le _⟩ dX9_takeEnds_41 ?_
        refine lv_istore_n (lv' := [(3, .int (nI (max hg (t_v T k c)))), (2, .int (nI (min lw (t_v T k c)))), (4, .int (nI k)), (0, .ref (lo (b))), (1, .int (nI c))]) hx hb dX9_takeEnds_44 rfl hl (by decide) rfl (fun ls hl => ?_)
        refine lv_iinc (v := nI (k + 1)) (lv' := [(4, .int (nI (k + 1))), (3, .int (nI (max hg (t_v T k c)))), (2, .int (nI (min lw (t_v T k c)))), (0, .ref (lo (b))), (1, .int (nI c))]) hx hb dX9_takeEnds_45 hl (k := 2) rfl (nI_add _ 1) (by decide) rfl (fun ls hl => ?_)
        refine lv_goto (tgt := 12) hx hb dX9_takeEnds_48 (by decide) ?_
        exact ih12_1 (min lw (t_v T k c)) (max hg (t_v T k c)) (k + 1) (by omega) (by rw [hlw, t_min_s hv.1]) (by rw [hhg, t_max_s hv.1]) (by omega) _ (lv_sub hl [0, 1, 2, 3, 4] rfl)
  exact L12_1 (_ + 1) (t_v T 0 c) (t_v T 0 c) 1 (by omega) (by rfl) (by rfl) (Nat.lt_succ_self _) _ (lv_sub hl [0, 1, 2, 3, 4] rfl)
set_option maxHeartbeats 4000000 in
set_option maxRecDepth 100000 in
theorem g_counts {l : Launch} {G : x_G} {lo : x_L} {co : x_C} (b : Nat) (T : Tb) (ht : isTb G lo co b T) (hT : Tok T) : x_Wr l G lo (co) yX9_takeCounts cX9_takeCounts 2 none 6 0 0 [.ref (lo (b))] (fun (v : Option Value) (lo1 : x_L) (co1 : x_C) => v = none ∧ lo1 = lo ∧ isTb G lo co1 b (recT T) ∧ ofr co co1 b 5) := by
  refine x_wenter RX9 rfl (by decide) (Nat.le_of_ble_eq_true rfl) ?_
  intro pp ee ss mm bb mt cd ls AA cx hk hW hA hr hlk hnm hl
  have hl : lv_has ls 2 [(0, .ref (lo (b)))] := hl
  generalize hav : ([.ref (lo (b))] : List Value).toArray = av at cx ⊢
  generalize hpo : (fun (v : Option Value) (lo1 : x_L) (co1 : x_C) => v = none ∧ lo1 = lo ∧ isTb G lo co1 b (recT T) ∧ ofr co co1 b 5) = po
  have hx := cx.1
  have hb := cx.2.1
  have hown := cx.2.2.2.1
  have hts := cx.2.2.2.2
  have hw := hW.1
  suffices key_ : ∀ (H : Heap) (locs : List Loc), x_D AA G ss.heap lo (co) H locs → x_ww l 6 0 0 pp ee ss mm av bb mt cd G po AA H locs 0 0 0 ls [] from key_ _ _ hW
  intro H locs hW
  have hw := hW.1
  obtain ⟨k1, k2, k3, k4, k5, k6, k7, k8, k9, k0⟩ := id hT
  refine lv_aload_n hx hb dX9_takeCounts_0 rfl (lv_at hl 0 rfl) ?_
  refine lv_aload_n hx hb dX9_takeCounts_1 rfl (lv_at hl 0 rfl) ?_
  refine x_get (v := .int (nI (T.1 3))) cx hk hw (ht.1) f_RX9_46_8 rfl dX9_takeCounts_2 ?_
  refine t_pf5 cx hk hW ht p_RX9_63_8 dX9_takeCounts_5 (fun co1 H locs ht1 ho1 hW => ?_)
  have hw := hW.1
  refine lv_iconst (v := nI 0) hx hb dX9_takeCounts_8 rfl ?_
  refine lv_istore_n (lv' := [(1, .int (nI 0)), (0, .ref (lo (b)))]) hx hb dX9_takeCounts_9 rfl hl (by decide) rfl (fun ls hl => ?_)
  have L10_2 : ∀ (n_ : Nat) (c : Nat) (cw2 : x_C), (c ≤ T.1 1) → (isTb G lo cw2 b (rcT T c)) → (ofr co cw2 b 5) → T.1 1 - c < n_ → ∀ (H : Heap) (locs : List Loc) (ls : Array Slot), x_D AA G ss.heap lo cw2 H locs → lv_has ls 2 [(1, .int (nI c)), (0, .ref (lo (b)))] → x_ww l 6 0 0 pp ee ss mm av bb mt cd G po AA H locs 0 0 10 ls [] := by
    intro n_
    induction n_ with
    | zero => intro c cw2 hv htc hof hm_ H locs ls hW hl; exact absurd hm_ (Nat.not_lt_zero _)
    | succ n_ ih10_2 =>
      intro c cw2 hv htc hof hm_2 H locs ls hW hl
      have hw := hW.1
      refine lv_iload_n hx hb dX9_takeCounts_10 rfl (lv_at hl 0 rfl) ?_
      refine lv_aload_n hx hb dX9_takeCounts_11 rfl (lv_at hl 1 rfl) ?_
      refine x_get (v := .int (nI (T.1 1))) cx hk hw (htc.1) f_RX9_28_8 rfl dX9_takeCounts_12 ?_
      refine x_icmp_ge (tgt := 43) cx dX9_takeCounts_15 (by decide) (by omega) (fun h15_3 => ?_) (fun h15_3 => ?_)
      · skip
        exact y_vret cx hW hr hlk ⟨by decide, by decide⟩ dX9_takeCounts_43 (by rw [← hpo]; refine ⟨rfl, rfl, ?_, hof⟩; rw [← rcT_e, ← show c = T.1 1 by omega]; exact htc)
      · skip
        refine lv_aload_n hx hb dX9_takeCounts_18 rfl (lv_at hl 1 rfl) ?_
        refine x_get (v := .ref (lo (b + 2))) cx hk hw (htc.1) f_RX9_15_8 rfl dX9_takeCounts_19 ?_
        refine lv_iload_n hx hb dX9_takeCounts_22 rfl (lv_at hl 0 rfl) ?_
        refine lv_aload_n hx hb dX9_takeCounts_23 rfl (lv_at hl 1 rfl) ?_
        refine lv_iload_n hx hb dX9_takeCounts_24 rfl (lv_at hl 0 rfl) ?_
        refine x_rdSN (av := [.int (nI c)]) (rest := [.ref (lo (b)), .int (nI c), .ref (lo (b + 2))]) cx hk hw cn_RX9_66 (c_bitN c (by omega)) hl.1 rfl rfl (Nat.le_of_ble_eq_true rfl) ⟨by decide, by decide⟩ ⟨Nat.zero_le _, Nat.zero_le _⟩ dX9_takeCounts_25 ?_
        have hp16 := Nat.pow_le_pow_right (n := 2) (by decide) (show c ≤ 4 by omega)
        have hp17 : 2 ^ c ≤ 16 := hp16
        refine x_rdV (av := [.int (nI (2 ^ c))]) (rest := [.int (nI c), .ref (lo (b + 2))]) cx hk hw (htc.1) cv_RX9_70_8 (c_t_unl0 b (rcT T c) htc (Tok0_rc hT) (2 ^ c) (by omega)) hl.1 rfl rfl (Nat.le_of_ble_eq_true rfl) ⟨by decide, by decide⟩ ⟨Nat.zero_le _, Nat.zero_le _⟩ dX9_takeCounts_28 ?_
        refine t_st1 cx hk hW htc (by omega) dX9_takeCounts_31 (fun co4 H locs ht4 ho4 hW => ?_)
        have hw := hW.1
        have htu : isTb G lo _ b (unlT (rcT T c) c) := ht4
        refine lv_aload_n hx hb dX9_takeCounts_32 rfl (lv_at hl 1 rfl) ?_
        refine lv_iload_n hx hb dX9_takeCounts_33 rfl (lv_at hl 0 rfl) ?_
        refine y_wrV (av := [.int (nI c)]) (rest := []) cx hk hW hA (htu.1) cv_RX9_73_8 (g_ends b (unlT (rcT T c) c) htu (Tok0_unl (Tok0_rc hT)) c (show c < T.1 1 by omega)) hl.1 rfl rfl (Nat.le_of_ble_eq_true rfl) ⟨by decide, by decide⟩ ⟨by decide, by decide⟩ dX9_takeCounts_34 (fun v_ lo5 co5 H locs hq_ hW => ?_)
        obtain ⟨hv_, hlo_, ht5, ho5⟩ := hq_
        have hlo2_ := hlo_.symm
        subst hv_ hlo2_
        have hw := hW.1
        refine lv_iinc (v := nI (c + 1)) (lv' := [(1, .int (nI (c + 1))), (0, .ref (lo (b)))]) hx hb dX9_takeCounts_37 hl (k := 0) rfl (nI_add _ 1) (by decide) rfl (fun ls hl => ?_)
        refine lv_goto (tgt := 10) hx hb dX9_takeCounts_40 (by decide) ?_
        exact ih10_2 (c + 1) _ (by omega) (by rw [← rcT_next (by omega)]; exact ht5) (by exact ((hof).tr ho4).tr ho5) (by omega) _ _ _ hW (lv_sub hl [0, 1] rfl)
  exact L10_2 (_ + 1) 0 _ (by omega) (by rw [rcT_0]; exact ht1) (by exact ho1) (Nat.lt_succ_self _) _ _ _ hW (lv_sub hl [0, 1] rfl)
set_option maxHeartbeats 4000000 in
set_option maxRecDepth 100000 in
theorem g_limit {l : Launch} {G : x_G} {lo : x_L} {co : x_C} (b tb : Nat) (Q : Qn) (hq : isQn G lo co b tb Q) (c f t : Nat) (hc_ : c < 4) : x_Wr l G lo (co) yX6_limit cX6_limit 4 none 2 0 0 [.ref (lo (b)), .int (nI c), .int (nI f), .int (nI t)] (fun (v : Option Value) (lo1 : x_L) (co1 : x_C) => v = none ∧ lo1 = lo ∧ isQn G lo co1 b tb (tstQ Q c f t) ∧ ofr co co1 b 3) := by
  refine x_wenter RX6 rfl (by decide) (Nat.le_of_ble_eq_true rfl) ?_
  intro pp ee ss mm bb mt cd ls AA cx hk hW hA hr hlk hnm hl
  have hl : lv_has ls 4 [(0, .ref (lo (b))), (1, .int (nI c)), (2, .int (nI f)), (3, .int (nI t))] := hl
  generalize hav : ([.ref (lo (b)), .int (nI c), .int (nI f), .int (nI t)] : List Value).toArray = av at cx ⊢
  generalize hpo : (fun (v : Option Value) (lo1 : x_L) (co1 : x_C) => v = none ∧ lo1 = lo ∧ isQn G lo co1 b tb (tstQ Q c f t) ∧ ofr co co1 b 3) = po
  have hx := cx.1
  have hb := cx.2.1
  have hown := cx.2.2.2.1
  have hts := cx.2.2.2.2
  have hw := hW.1
  suffices key_ : ∀ (H : Heap) (locs : List Loc), x_D AA G ss.heap lo (co) H locs → x_ww l 2 0 0 pp ee ss mm av bb mt cd G po AA H locs 0 0 0 ls [] from key_ _ _ hW
  intro H locs hW
  have hw := hW.1
  refine lv_iload_n hx hb dX6_limit_0 rfl (lv_at hl 1 rfl) ?_
  refine lv_iconst (v := nI 0) hx hb dX6_limit_1 rfl ?_
  refine lv_iconst (v := nI 3) hx hb dX6_limit_2 rfl ?_
  refine x_rdSN (av := [.int (nI c), .int (nI 0), .int (nI 3)]) (rest := []) cx hk hw cn_RX6_32 (c_btw (nI c) (nI 0) (nI 3)) hl.1 rfl rfl (Nat.le_of_ble_eq_true rfl) ⟨by decide, by decide⟩ ⟨Nat.zero_le _, Nat.zero_le _⟩ dX6_limit_3 ?_
  rw [s_btw_nI (by omega) (by decide) (by decide), decide_eq_true (Nat.zero_le c), decide_eq_true (by omega : c ≤ 3)]
  refine x_if_eq (tgt := 36) cx dX6_limit_6 (by decide) (fun h6_1 => ?_) (fun h6_1 => ?_)
  · skip
    exact y_vret cx hW hr hlk ⟨by decide, by decide⟩ dX6_limit_36 (by rw [← hpo]; first | (exact absurd (by assumption : (true && true) = false) (by decide)) | exact ⟨rfl, rfl, hq, (ofr.rf _ _ _)⟩)
  · skip
    refine lv_aload_n hx hb dX6_limit_9 rfl (lv_at hl 0 rfl) ?_
    refine lv_dup hx hb dX6_limit_10 rfl ?_
    refine x_get (v := .int (nI (Q.1 2))) cx hk hw (hq.1) f_RX6_36_5 rfl dX6_limit_11 ?_
    refine lv_iload_n hx hb dX6_limit_14 rfl (lv_at hl 1 rfl) ?_
    refine x_rdSN (av := [.int (nI c)]) (rest := [.int (nI (Q.1 2)), .ref (lo (b))]) cx hk hw cn_RX6_39 (c_bitN c (by omega)) hl.1 rfl rfl (Nat.le_of_ble_eq_true rfl) ⟨by decide, by decide⟩ ⟨Nat.zero_le _, Nat.zero_le _⟩ dX6_limit_15 ?_
    refine x_iorB cx dX6_limit_18 ?_
    refine q_pf cx hk hW hq p_RX6_36_5 dX6_limit_19 (fun co2 H locs hq2 ho2 hW => ?_)
    have hw := hW.1
    refine lv_aload_n hx hb dX6_limit_22 rfl (lv_at hl 0 rfl) ?_
    refine x_get (v := .ref (lo (b + 1))) cx hk hw (hq2.1) f_RX6_9_5 rfl dX6_limit_23 ?_
    refine lv_iload_n hx hb dX6_limit_26 rfl (lv_at hl 1 rfl) ?_
    refine lv_iload_n hx hb dX6_limit_27 rfl (lv_at hl 2 rfl) ?_
    refine q_st0 cx hk hW hq2 (by omega) dX6_limit_28 (fun co3 H locs hq3 ho3 hW => ?_)
    have hw := hW.1
    refine lv_aload_n hx hb dX6_limit_29 rfl (lv_at hl 0 rfl) ?_
    refine x_get (v := .ref (lo (b + 2))) cx hk hw (hq3.1) f_RX6_15_5 rfl dX6_limit_30 ?_
    refine lv_iload_n hx hb dX6_limit_33 rfl (lv_at hl 1 rfl) ?_
    refine lv_iload_n hx hb dX6_limit_34 rfl (lv_at hl 3 rfl) ?_
    refine q_st1 cx hk hW hq3 (by omega) dX6_limit_35 (fun co4 H locs hq4 ho4 hW => ?_)
    have hw := hW.1
    exact y_vret cx hW hr hlk ⟨by decide, by decide⟩ dX6_limit_36 (by rw [← hpo]; first | (exact absurd (by assumption : (true && true) = false) (by decide)) | exact ⟨rfl, rfl, hq4, ((ho2).tr ho3).tr ho4⟩)
