set_option maxHeartbeats 4000000 in
set_option maxRecDepth 100000 in
theorem l_size {l : Launch} {G : x_G} {lo : x_L} {co : x_C} (b : Nat) (mc : Int32) (e : Value) (n : Nat) (h : co b = some (.inr (0, [.int mc, e, .int (nI n)]))) : x_Rd l G lo co yJx4a65c_size_8abf5 cJx4a65c_size_8abf5 1 (some .int) 1 [.ref (lo (b))] (some (.int (nI n))) := by
  refine x_enter RJx4a65c rfl (by decide) (Nat.le_of_ble_eq_true rfl) ?_
  intro pp ee ss mm bb mt cd ls cx hk hw hr hlk hl
  have hl : lv_has ls 1 [(0, .ref (lo (b)))] := hl
  generalize hav : ([.ref (lo (b))] : List Value).toArray = av at cx ⊢
  generalize hvv : (some (.int (nI n)) : Option Value) = vv
  have hx := cx.1
  have hb := cx.2.1
  have hown := cx.2.2.2.1
  have hts := cx.2.2.2.2
  refine lv_aload_n hx hb dJx4a65c_size_8abf5_0 rfl (lv_at hl 0 rfl) ?_
  refine x_get (v := .int (nI n)) cx hk hw (h) f_RJx4a65c_48_0 rfl dJx4a65c_size_8abf5_1 ?_
  exact x_iret cx hr hlk dJx4a65c_size_8abf5_4 ((congrArg (fun z => some (Value.int (nI z))) (show n = n from by rfl)).trans hvv)
set_option maxHeartbeats 4000000 in
set_option maxRecDepth 100000 in
theorem l_chk {l : Launch} {G : x_G} {lo : x_L} {co : x_C} (i n : Nat) (hi : i < n) (hn : n < 2 ^ 31) : x_Rd l G lo co yJ3_checkIndex_8e157 cJ3_checkIndex_8e157 3 (some .int) 1 [.int (nI i), .int (nI n), .null] (some (.int (nI i))) := by
  refine x_enter RJ3 rfl (by decide) (Nat.le_of_ble_eq_true rfl) ?_
  intro pp ee ss mm bb mt cd ls cx hk hw hr hlk hl
  have hl : lv_has ls 3 [(0, .int (nI i)), (1, .int (nI n)), (2, .null)] := hl
  generalize hav : ([.int (nI i), .int (nI n), .null] : List Value).toArray = av at cx ⊢
  generalize hvv : (some (.int (nI i)) : Option Value) = vv
  have hx := cx.1
  have hb := cx.2.1
  have hown := cx.2.2.2.1
  have hts := cx.2.2.2.2
  refine lv_iload_n hx hb dJ3_checkIndex_8e157_0 rfl (lv_at hl 0 rfl) ?_
  refine x_ifN_lt (tgt := 9) cx dJ3_checkIndex_8e157_1 (by decide) (by omega) ?_
  refine lv_iload_n hx hb dJ3_checkIndex_8e157_4 rfl (lv_at hl 0 rfl) ?_
  refine lv_iload_n hx hb dJ3_checkIndex_8e157_5 rfl (lv_at hl 1 rfl) ?_
  refine x_icmp_lt (tgt := 16) cx dJ3_checkIndex_8e157_6 (by decide) (by omega) (fun h6_1 => ?_) (fun h6_1 => ?_)
  · skip
    refine lv_iload_n hx hb dJ3_checkIndex_8e157_16 rfl (lv_at hl 0 rfl) ?_
    exact x_iret cx hr hlk dJ3_checkIndex_8e157_17 ((congrArg (fun z => some (Value.int (nI z))) (show i = i from by rfl)).trans hvv)
  · skip
    exact absurd hi (by omega)
set_option maxHeartbeats 4000000 in
set_option maxRecDepth 100000 in
theorem l_chk2 {l : Launch} {G : x_G} {lo : x_L} {co : x_C} (i n : Nat) (hi : i < n) (hn : n < 2 ^ 31) : x_Rd l G lo co yJ15_checkIndex_7cf53 cJ15_checkIndex_7cf53 2 (some .int) 2 [.int (nI i), .int (nI n)] (some (.int (nI i))) := by
  refine x_enter RJ15 rfl (by decide) (Nat.le_of_ble_eq_true rfl) ?_
  intro pp ee ss mm bb mt cd ls cx hk hw hr hlk hl
  have hl : lv_has ls 2 [(0, .int (nI i)), (1, .int (nI n))] := hl
  generalize hav : ([.int (nI i), .int (nI n)] : List Value).toArray = av at cx ⊢
  generalize hvv : (some (.int (nI i)) : Option Value) = vv
  have hx := cx.1
  have hb := cx.2.1
  have hown := cx.2.2.2.1
  have hts := cx.2.2.2.2
  refine lv_iload_n hx hb dJ15_checkIndex_7cf53_0 rfl (lv_at hl 0 rfl) ?_
  refine lv_iload_n hx hb dJ15_checkIndex_7cf53_1 rfl (lv_at hl 1 rfl) ?_
  refine lv_null hx hb dJ15_checkIndex_7cf53_2 ?_
  refine x_rdS (av := [.int (nI i), .int (nI n), .null]) (rest := []) cx hk hw cs_RJ15_105 (l_chk i n (by omega) (by omega)) hl.1 rfl rfl (Nat.le_of_ble_eq_true rfl) ⟨by decide, by decide⟩ ⟨Nat.zero_le _, Nat.zero_le _⟩ dJ15_checkIndex_7cf53_3 ?_
  exact x_iret cx hr hlk dJ15_checkIndex_7cf53_6 ((congrArg (fun z => some (Value.int (nI z))) (show i = i from by rfl)).trans hvv)
set_option maxHeartbeats 4000000 in
set_option maxRecDepth 100000 in
theorem l_el {l : Launch} {G : x_G} {lo : x_L} {co : x_C} (dd b d n : Nat) (f : Nat → Nat) (h : isL G lo co dd b d n f) (i : Nat) (hi : i < n) (hn : n < 2 ^ 31) : x_Rd l G lo co yJx4a65c_elementData_915e3 cJx4a65c_elementData_915e3 2 (some (.object "java/lang/Object")) 1 [.ref (lo (b)), .int (nI i)] (some (.ref (f i))) := by
  refine x_enter RJx4a65c rfl (by decide) (Nat.le_of_ble_eq_true rfl) ?_
  intro pp ee ss mm bb mt cd ls cx hk hw hr hlk hl
  have hl : lv_has ls 2 [(0, .ref (lo (b))), (1, .int (nI i))] := hl
  generalize hav : ([.ref (lo (b)), .int (nI i)] : List Value).toArray = av at cx ⊢
  generalize hvv : (some (.ref (f i)) : Option Value) = vv
  have hx := cx.1
  have hb := cx.2.1
  have hown := cx.2.2.2.1
  have hts := cx.2.2.2.2
  obtain ⟨mc, cap, g, r1, r2, r3, r4, r5⟩ := h.row (by omega)
  refine lv_aload_n hx hb dJx4a65c_elementData_915e3_0 rfl (lv_at hl 0 rfl) ?_
  refine x_get (v := .ref (lo (d))) cx hk hw (r4) f_RJx4a65c_9_0 rfl dJx4a65c_elementData_915e3_1 ?_
  refine lv_iload_n hx hb dJx4a65c_elementData_915e3_4 rfl (lv_at hl 1 rfl) ?_
  refine x_aaldON cx hk hw (r5) (by omega) (by first | decide | omega) (congrArg va_rf (r3 _ (by omega))) dJx4a65c_elementData_915e3_5 ?_
  exact x_aret cx hr hlk (Or.inr ⟨_, rfl⟩) dJx4a65c_elementData_915e3_6 ((show (some (.ref (f i)) : Option Value) = some (.ref (f i)) from by rfl).trans hvv)
set_option maxHeartbeats 4000000 in
set_option maxRecDepth 100000 in
theorem l_get {l : Launch} {G : x_G} {lo : x_L} {co : x_C} (dd b d n : Nat) (f : Nat → Nat) (h : isL G lo co dd b d n f) (i : Nat) (hi : i < n) (hn : n < 2 ^ 31) : x_Rd l G lo co yJx4a65c_get_915e3 cJx4a65c_get_915e3 2 (some (.object "java/lang/Object")) 3 [.ref (lo (b)), .int (nI i)] (some (.ref (f i))) := by
  refine x_enter RJx4a65c rfl (by decide) (Nat.le_of_ble_eq_true rfl) ?_
  intro pp ee ss mm bb mt cd ls cx hk hw hr hlk hl
  have hl : lv_has ls 2 [(0, .ref (lo (b))), (1, .int (nI i))] := hl
  generalize hav : ([.ref (lo (b)), .int (nI i)] : List Value).toArray = av at cx ⊢
  generalize hvv : (some (.ref (f i)) : Option Value) = vv
  have hx := cx.1
  have hb := cx.2.1
  have hown := cx.2.2.2.1
  have hts := cx.2.2.2.2
  obtain ⟨mc, cap, g, r1, r2, r3, r4, r5⟩ := h.row (by omega)
  refine lv_iload_n hx hb dJx4a65c_get_915e3_0 rfl (lv_at hl 1 rfl) ?_
  refine lv_aload_n hx hb dJx4a65c_get_915e3_1 rfl (lv_at hl 0 rfl) ?_
  refine x_get (v := .int (nI n)) cx hk hw (r4) f_RJx4a65c_48_0 rfl dJx4a65c_get_915e3_2 ?_
  refine x_rdS (av := [.int (nI i), .int (nI n)]) (rest := []) cx hk hw cs_RJx4a65c_118 (l_chk2 i n (by omega) (by omega)) hl.1 rfl rfl (Nat.le_of_ble_eq_true rfl) ⟨by decide, by decide⟩ ⟨Nat.zero_le _, Nat.zero_le _⟩ dJx4a65c_get_915e3_5 ?_
  refine lv_pop hx hb dJx4a65c_get_915e3_8 rfl ?_
  refine lv_aload_n hx hb dJx4a65c_get_915e3_9 rfl (lv_at hl 0 rfl) ?_
  refine lv_iload_n hx hb dJx4a65c_get_915e3_10 rfl (lv_at hl 1 rfl) ?_
  refine x_rdV (av := [.int (nI i)]) (rest := []) cx hk hw (r4) cv_RJx4a65c_123_0 (l_el dd b d n f h i (by omega) (by omega)) hl.1 rfl rfl (Nat.le_of_ble_eq_true rfl) ⟨by decide, by decide⟩ ⟨Nat.zero_le _, Nat.zero_le _⟩ dJx4a65c_get_915e3_11 ?_
  exact x_aret cx hr hlk (Or.inr ⟨_, rfl⟩) dJx4a65c_get_915e3_14 ((show (some (.ref (f i)) : Option Value) = some (.ref (f i)) from by rfl).trans hvv)
