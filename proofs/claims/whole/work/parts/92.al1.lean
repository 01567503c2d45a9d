/-! ArrayList's growing: newLength, the two copyOf -/
set_option maxHeartbeats 4000000 in
theorem c_newLen {l : Launch} {G : x_G} {lo : x_L} {co : x_C} (a b c : Nat) (ha : a < 2 ^ 20) (hb_ : b < 2 ^ 20) (hc : c < 2 ^ 20) (h0 : 0 < b) : x_Rd l G lo co yJ8_newLength_cabcc cJ8_newLength_cabcc 4 (some .int) 1 [.int (nI a), .int (nI b), .int (nI c)] (some (.int (nI (a + max b c)))) := by
  refine x_enter RJ8 rfl (by decide) (Nat.le_of_ble_eq_true rfl) ?_
  intro pp ee ss mm bb mt cd ls cx hk hw hr hlk hl
  have hl : lv_has ls 4 [(0, .int (nI a)), (1, .int (nI b)), (2, .int (nI c))] := hl
  generalize hav : ([.int (nI a), .int (nI b), .int (nI c)] : List Value).toArray = av at cx ⊢
  generalize hvv : (some (.int (nI (a + max b c))) : Option Value) = vv
  have hx := cx.1
  have hb := cx.2.1
  have hown := cx.2.2.2.1
  have hts := cx.2.2.2.2
  have hm : 0 < max b c := Nat.lt_of_lt_of_le h0 (Nat.le_max_left _ _)
  have hM : max b c < 2 ^ 20 := Nat.max_lt.mpr ⟨hb_, hc⟩
  refine lv_iload_n hx hb dJ8_newLength_cabcc_0 rfl (lv_at hl 0 rfl) ?_
  refine lv_iload_n hx hb dJ8_newLength_cabcc_1 rfl (lv_at hl 1 rfl) ?_
  refine lv_iload_n hx hb dJ8_newLength_cabcc_2 rfl (lv_at hl 2 rfl) ?_
  refine x_mmax cx hl.1 w_337 (by omega) w_247 w_8 w_248 ⟨Nat.le_of_ble_eq_true rfl, Nat.le_of_ble_eq_true rfl⟩ ⟨Nat.zero_le _, Nat.zero_le _⟩ dJ8_newLength_cabcc_3 ?_
  refine x_iaddN cx dJ8_newLength_cabcc_6 ?_
  refine lv_istore_n (lv' := [(3, .int (nI (a + max b c))), (0, .int (nI a)), (1, .int (nI b)), (2, .int (nI c))]) hx hb dJ8_newLength_cabcc_7 rfl hl (by decide) rfl (fun ls hl => ?_)
  refine lv_iconst (v := nI 0) hx hb dJ8_newLength_cabcc_8 rfl ?_
  refine lv_iload_n hx hb dJ8_newLength_cabcc_9 rfl (lv_at hl 0 rfl) ?_
  refine x_icmp_ge (tgt := 21) cx dJ8_newLength_cabcc_10 (by decide) (by omega) (fun q => absurd q (by omega)) (fun q => ?_)
  refine lv_iload_n hx hb dJ8_newLength_cabcc_13 rfl (lv_at hl 0 rfl) ?_
  refine lv_ldc (v := nI 2147483639) hx hb hown (hts _ w_338) dJ8_newLength_cabcc_14 ?_
  refine x_icmp_gt (tgt := 21) cx dJ8_newLength_cabcc_16 (by decide) (by omega) (fun q => absurd q (by omega)) (fun q => ?_)
  refine lv_iload_n hx hb dJ8_newLength_cabcc_19 rfl (lv_at hl 0 rfl) ?_
  exact x_iret cx hr hlk dJ8_newLength_cabcc_20 hvv
