set_option maxHeartbeats 4000000 in
set_option maxRecDepth 100000 in
theorem c_bitCount {l : Launch} {G : x_G} {lo : x_L} {co : x_C} (n : Nat) (hn : n < 4096) : x_Rd l G lo co yJ6_bitCount_0f7a4 cJ6_bitCount_0f7a4 1 (some .int) 1 [.int (nI n)] (some (.int (nI (pop n)))) := by
  refine x_enter RJ6 rfl (by decide) (Nat.le_of_ble_eq_true rfl) ?_
  intro pp ee ss mm bb mt cd ls cx hk hw hr hlk hl
  have hl : lv_has ls 1 [(0, .int (nI n))] := hl
  generalize hav : ([.int (nI n)] : List Value).toArray = av at cx ⊢
  generalize hvv : (some (.int (nI (pop n))) : Option Value) = vv
  have hx := cx.1
  have hb := cx.2.1
  have hown := cx.2.2.2.1
  have hts := cx.2.2.2.2
  refine lv_iload_n hx hb dJ6_bitCount_0f7a4_0 rfl (lv_at hl 0 rfl) ?_
  refine lv_iload_n hx hb dJ6_bitCount_0f7a4_1 rfl (lv_at hl 0 rfl) ?_
  refine lv_iconst (v := nI 1) hx hb dJ6_bitCount_0f7a4_2 rfl ?_
  refine lv_iushr hx hb dJ6_bitCount_0f7a4_3 rfl ?_
  refine lv_ldcw (v := (1431655765)) hx hb hown (hts _ w_523) dJ6_bitCount_0f7a4_4 ?_
  refine lv_iand hx hb dJ6_bitCount_0f7a4_7 ?_
  refine lv_isub hx hb dJ6_bitCount_0f7a4_8 ?_
  refine lv_istore_n (lv' := [(0, .int ((nI n) - ((((nI n).toUInt32 >>> ((nI 1).toUInt32 &&& Int32.toUInt32 31)).toInt32) &&& (1431655765))))]) hx hb dJ6_bitCount_0f7a4_9 rfl hl (by decide) rfl (fun ls hl => ?_)
  refine lv_iload_n hx hb dJ6_bitCount_0f7a4_10 rfl (lv_at hl 0 rfl) ?_
  refine lv_ldcw (v := (858993459)) hx hb hown (hts _ w_524) dJ6_bitCount_0f7a4_11 ?_
  refine lv_iand hx hb dJ6_bitCount_0f7a4_14 ?_
  refine lv_iload_n hx hb dJ6_bitCount_0f7a4_15 rfl (lv_at hl 0 rfl) ?_
  refine lv_iconst (v := nI 2) hx hb dJ6_bitCount_0f7a4_16 rfl ?_
  refine lv_iushr hx hb dJ6_bitCount_0f7a4_17 rfl ?_
  refine lv_ldcw (v := (858993459)) hx hb hown (hts _ w_524) dJ6_bitCount_0f7a4_18 ?_
  refine lv_iand hx hb dJ6_bitCount_0f7a4_21 ?_
  refine lv_iadd hx hb dJ6_bitCount_0f7a4_22 ?_
  refine lv_istore_n (lv' := [(0, .int ((((nI n) - ((((nI n).toUInt32 >>> ((nI 1).toUInt32 &&& Int32.toUInt32 31)).toInt32) &&& (1431655765))) &&& (858993459)) + (((((nI n) - ((((nI n).toUInt32 >>> ((nI 1).toUInt32 &&& Int32.toUInt32 31)).toInt32) &&& (1431655765))).toUInt32 >>> ((nI 2).toUInt32 &&& Int32.toUInt32 31)).toInt32) &&& (858993459))))]) hx hb dJ6_bitCount_0f7a4_23 rfl hl (by decide) rfl (fun ls hl => ?_)
  refine lv_iload_n hx hb dJ6_bitCount_0f7a4_24 rfl (lv_at hl 0 rfl) ?_
  refine lv_iload_n hx hb dJ6_bitCount_0f7a4_25 rfl (lv_at hl 0 rfl) ?_
  refine lv_iconst (v := nI 4) hx hb dJ6_bitCount_0f7a4_26 rfl ?_
  refine lv_iushr hx hb dJ6_bitCount_0f7a4_27 rfl ?_
  refine lv_iadd hx hb dJ6_bitCount_0f7a4_28 ?_
  refine lv_ldcw (v := (252645135)) hx hb hown (hts _ w_525) dJ6_bitCount_0f7a4_29 ?_
  refine lv_iand hx hb dJ6_bitCount_0f7a4_32 ?_
  refine lv_istore_n (lv' := [(0, .int ((((((nI n) - ((((nI n).toUInt32 >>> ((nI 1).toUInt32 &&& Int32.toUInt32 31)).toInt32) &&& (1431655765))) &&& (858993459)) + (((((nI n) - ((((nI n).toUInt32 >>> ((nI 1).toUInt32 &&& Int32.toUInt32 31)).toInt32) &&& (1431655765))).toUInt32 >>> ((nI 2).toUInt32 &&& Int32.toUInt32 31)).toInt32) &&& (858993459))) + ((((((nI n) - ((((nI n).toUInt32 >>> ((nI 1).toUInt32 &&& Int32.toUInt32 31)).toInt32) &&& (1431655765))) &&& (858993459)) + (((((nI n) - ((((nI n).toUInt32 >>> ((nI 1).toUInt32 &&& Int32.toUInt32 31)).toInt32) &&& (1431655765))).toUInt32 >>> ((nI 2).toUInt32 &&& Int32.toUInt32 31)).toInt32) &&& (858993459))).toUInt32 >>> ((nI 4).toUInt32 &&& Int32.toUInt32 31)).toInt32)) &&& (252645135)))]) hx hb dJ6_bitCount_0f7a4_33 rfl hl (by decide) rfl (fun ls hl => ?_)
  refine lv_iload_n hx hb dJ6_bitCount_0f7a4_34 rfl (lv_at hl 0 rfl) ?_
  refine lv_iload_n hx hb dJ6_bitCount_0f7a4_35 rfl (lv_at hl 0 rfl) ?_
  refine lv_bipush (v := nI 8) hx hb dJ6_bitCount_0f7a4_36 rfl ?_
  refine lv_iushr hx hb dJ6_bitCount_0f7a4_38 rfl ?_
  refine lv_iadd hx hb dJ6_bitCount_0f7a4_39 ?_
  refine lv_istore_n (lv' := [(0, .int (((((((nI n) - ((((nI n).toUInt32 >>> ((nI 1).toUInt32 &&& Int32.toUInt32 31)).toInt32) &&& (1431655765))) &&& (858993459)) + (((((nI n) - ((((nI n).toUInt32 >>> ((nI 1).toUInt32 &&& Int32.toUInt32 31)).toInt32) &&& (1431655765))).toUInt32 >>> ((nI 2).toUInt32 &&& Int32.toUInt32 31)).toInt32) &&& (858993459))) + ((((((nI n) - ((((nI n).toUInt32 >>> ((nI 1).toUInt32 &&& Int32.toUInt32 31)).toInt32) &&& (1431655765))) &&& (858993459)) + (((((nI n) - ((((nI n).toUInt32 >>> ((nI 1).toUInt32 &&& Int32.toUInt32 31)).toInt32) &&& (1431655765))).toUInt32 >>> ((nI 2).toUInt32 &&& Int32.toUInt32 31)).toInt32) &&& (858993459))).toUInt32 >>> ((nI 4).toUInt32 &&& Int32.toUInt32 31)).toInt32)) &&& (252645135)) + ((((((((nI n) - ((((nI n).toUInt32 >>> ((nI 1).toUInt32 &&& Int32.toUInt32 31)).toInt32) &&& (1431655765))) &&& (858993459)) + (((((nI n) - ((((nI n).toUInt32 >>> ((nI 1).toUInt32 &&& Int32.toUInt32 31)).toInt32) &&& (1431655765))).toUInt32 >>> ((nI 2).toUInt32 &&& Int32.toUInt32 31)).toInt32) &&& (858993459))) + ((((((nI n) - ((((nI n).toUInt32 >>> ((nI 1).toUInt32 &&& Int32.toUInt32 31)).toInt32) &&& (1431655765))) &&& (858993459)) + (((((nI n) - ((((nI n).toUInt32 >>> ((nI 1).toUInt32 &&& Int32.toUInt32 31)).toInt32) &&& (1431655765))).toUInt32 >>> ((nI 2).toUInt32 &&& Int32.toUInt32 31)).toInt32) &&& (858993459))).toUInt32 >>> ((nI 4).toUInt32 &&& Int32.toUInt32 31)).toInt32)) &&& (252645135)).toUInt32 >>> ((nI 8).toUInt32 &&& Int32.toUInt32 31)).toInt32)))]) hx hb dJ6_bitCount_0f7a4_40 rfl hl (by decide) rfl (fun ls hl => ?_)
  refine lv_iload_n hx hb dJ6_bitCount_0f7a4_41 rfl (lv_at hl 0 rfl) ?_
  refine lv_iload_n hx hb dJ6_bitCount_0f7a4_42 rfl (lv_at hl 0 rfl) ?_
  refine lv_bipush (v := nI 16) hx hb dJ6_bitCount_0f7a4_43 rfl ?_
  refine lv_iushr hx hb dJ6_bitCount_0f7a4_45 rfl ?_
  refine lv_iadd hx hb dJ6_bitCount_0f7a4_46 ?_
  refine lv_istore_n (lv' := [(0, .int ((((((((nI n) - ((((nI n).toUInt32 >>> ((nI 1).toUInt32 &&& Int32.toUInt32 31)).toInt32) &&& (1431655765))) &&& (858993459)) + (((((nI n) - ((((nI n).toUInt32 >>> ((nI 1).toUInt32 &&& Int32.toUInt32 31)).toInt32) &&& (1431655765))).toUInt32 >>> ((nI 2).toUInt32 &&& Int32.toUInt32 31)).toInt32) &&& (858993459))) + ((((((nI n) - ((((nI n).toUInt32 >>> ((nI 1).toUInt32 &&& Int32.toUInt32 31)).toInt32) &&& (1431655765))) &&& (858993459)) + (((((nI n) - ((((nI n).toUInt32 >>> ((nI 1).toUInt32 &&& Int32.toUInt32 31)).toInt32) &&& (1431655765))).toUInt32 >>> ((nI 2).toUInt32 &&& Int32.toUInt32 31)).toInt32) &&& (858993459))).toUInt32 >>> ((nI 4).toUInt32 &&& Int32.toUInt32 31)).toInt32)) &&& (252645135)) + ((((((((nI n) - ((((nI n).toUInt32 >>> ((nI 1).toUInt32 &&& Int32.toUInt32 31)).toInt32) &&& (1431655765))) &&& (858993459)) + (((((nI n) - ((((nI n).toUInt32 >>> ((nI 1).toUInt32 &&& Int32.toUInt32 31)).toInt32) &&& (1431655765))).toUInt32 >>> ((nI 2).toUInt32 &&& Int32.toUInt32 31)).toInt32) &&& (858993459))) + ((((((nI n) - ((((nI n).toUInt32 >>> ((nI 1).toUInt32 &&& Int32.toUInt32 31)).toInt32) &&& (1431655765))) &&& (858993459)) + (((((nI n) - ((((nI n).toUInt32 >>> ((nI 1).toUInt32 &&& Int32.toUInt32 31)).toInt32) &&& (1431655765))).toUInt32 >>> ((nI 2).toUInt32 &&& Int32.toUInt32 31)).toInt32) &&& (858993459))).toUInt32 >>> ((nI 4).toUInt32 &&& Int32.toUInt32 31)).toInt32)) &&& (252645135)).toUInt32 >>> ((nI 8).toUInt32 &&& Int32.toUInt32 31)).toInt32)) + (((((((((nI n) - ((((nI n).toUInt32 >>> ((nI 1).toUInt32 &&& Int32.toUInt32 31)).toInt32) &&& (1431655765))) &&& (858993459)) + (((((nI n) - ((((nI n).toUInt32 >>> ((nI 1).toUInt32 &&& Int32.toUInt32 31)).toInt32) &&& (1431655765))).toUInt32 >>> ((nI 2).toUInt32 &&& Int32.toUInt32 31)).toInt32) &&& (858993459))) + ((((((nI n) - ((((nI n).toUInt32 >>> ((nI 1).toUInt32 &&& Int32.toUInt32 31)).toInt32) &&& (1431655765))) &&& (858993459)) + (((((nI n) - ((((nI n).toUInt32 >>> ((nI 1).toUInt32 &&& Int32.toUInt32 31)).toInt32) &&& (1431655765))).toUInt32 >>> ((nI 2).toUInt32 &&& Int32.toUInt32 31)).toInt32) &&& (858993459))).toUInt32 >>> ((nI 4).toUInt32 &&& Int32.toUInt32 31)).toInt32)) &&& (252645135)) + ((((((((nI n) - ((((nI n).toUInt32 >>> ((nI 1).toUInt32 &&& Int32.toUInt32 31)).toInt32) &&& (1431655765))) &&& (858993459)) + (((((nI n) - ((((nI n).toUInt32 >>> ((nI 1).toUInt32 &&& Int32.toUInt32 31)).toInt32) &&& (1431655765))).toUInt32 >>> ((nI 2).toUInt32 &&& Int32.toUInt32 31)).toInt32) &&& (858993459))) + ((((((nI n) - ((((nI n).toUInt32 >>> ((nI 1).toUInt32 &&& Int32.toUInt32 31)).toInt32) &&& (1431655765))) &&& (858993459)) + (((((nI n) - ((((nI n).toUInt32 >>> ((nI 1).toUInt32 &&& Int32.toUInt32 31)).toInt32) &&& (1431655765))).toUInt32 >>> ((nI 2).toUInt32 &&& Int32.toUInt32 31)).toInt32) &&& (858993459))).toUInt32 >>> ((nI 4).toUInt32 &&& Int32.toUInt32 31)).toInt32)) &&& (252645135)).toUInt32 >>> ((nI 8).toUInt32 &&& Int32.toUInt32 31)).toInt32)).toUInt32 >>> ((nI 16).toUInt32 &&& Int32.toUInt32 31)).toInt32)))]) hx hb dJ6_bitCount_0f7a4_47 rfl hl (by decide) rfl (fun ls hl => ?_)
  refine lv_iload_n hx hb dJ6_bitCount_0f7a4_48 rfl (lv_at hl 0 rfl) ?_
  refine lv_bipush (v := nI 63) hx hb dJ6_bitCount_0f7a4_49 rfl ?_
  refine lv_iand hx hb dJ6_bitCount_0f7a4_51 ?_
  exact x_iret cx hr hlk dJ6_bitCount_0f7a4_52 ((congrArg (fun z => some (Value.int z)) (show ((((((((nI n) - ((((nI n).toUInt32 >>> ((nI 1).toUInt32 &&& Int32.toUInt32 31)).toInt32) &&& (1431655765))) &&& (858993459)) + (((((nI n) - ((((nI n).toUInt32 >>> ((nI 1).toUInt32 &&& Int32.toUInt32 31)).toInt32) &&& (1431655765))).toUInt32 >>> ((nI 2).toUInt32 &&& Int32.toUInt32 31)).toInt32) &&& (858993459))) + ((((((nI n) - ((((nI n).toUInt32 >>> ((nI 1).toUInt32 &&& Int32.toUInt32 31)).toInt32) &&& (1431655765))) &&& (858993459)) + (((((nI n) - ((((nI n).toUInt32 >>> ((nI 1).toUInt32 &&& Int32.toUInt32 31)).toInt32) &&& (1431655765))).toUInt32 >>> ((nI 2).toUInt32 &&& Int32.toUInt32 31)).toInt32) &&& (858993459))).toUInt32 >>> ((nI 4).toUInt32 &&& Int32.toUInt32 31)).toInt32)) &&& (252645135)) + ((((((((nI n) - ((((nI n).toUInt32 >>> ((nI 1).toUInt32 &&& Int32.toUInt32 31)).toInt32) &&& (1431655765))) &&& (858993459)) + (((((nI n) - ((((nI n).toUInt32 >>> ((nI 1).toUInt32 &&& Int32.toUInt32 31)).toInt32) &&& (1431655765))).toUInt32 >>> ((nI 2).toUInt32 &&& Int32.toUInt32 31)).toInt32) &&& (858993459))) + ((((((nI n) - ((((nI n).toUInt32 >>> ((nI 1).toUInt32 &&& Int32.toUInt32 31)).toInt32) &&& (1431655765))) &&& (858993459)) + (((((nI n) - ((((nI n).toUInt32 >>> ((nI 1).toUInt32 &&& Int32.toUInt32 31)).toInt32) &&& (1431655765))).toUInt32 >>> ((nI 2).toUInt32 &&& Int32.toUInt32 31)).toInt32) &&& (858993459))).toUInt32 >>> ((nI 4).toUInt32 &&& Int32.toUInt32 31)).toInt32)) &&& (252645135)).toUInt32 >>> ((nI 8).toUInt32 &&& Int32.toUInt32 31)).toInt32)) + (((((((((nI n) - ((((nI n).toUInt32 >>> ((nI 1).toUInt32 &&& Int32.toUInt32 31)).toInt32) &&& (1431655765))) &&& (858993459)) + (((((nI n) - ((((nI n).toUInt32 >>> ((nI 1).toUInt32 &&& Int32.toUInt32 31)).toInt32) &&& (1431655765))).toUInt32 >>> ((nI 2).toUInt32 &&& Int32.toUInt32 31)).toInt32) &&& (858993459))) + ((((((nI n) - ((((nI n).toUInt32 >>> ((nI 1).toUInt32 &&& Int32.toUInt32 31)).toInt32) &&& (1431655765))) &&& (858993459)) + (((((nI n) - ((((nI n).toUInt32 >>> ((nI 1).toUInt32 &&& Int32.toUInt32 31)).toInt32) &&& (1431655765))).toUInt32 >>> ((nI 2).toUInt32 &&& Int32.toUInt32 31)).toInt32) &&& (858993459))).toUInt32 >>> ((nI 4).toUInt32 &&& Int32.toUInt32 31)).toInt32)) &&& (252645135)) + ((((((((nI n) - ((((nI n).toUInt32 >>> ((nI 1).toUInt32 &&& Int32.toUInt32 31)).toInt32) &&& (1431655765))) &&& (858993459)) + (((((nI n) - ((((nI n).toUInt32 >>> ((nI 1).toUInt32 &&& Int32.toUInt32 31)).toInt32) &&& (1431655765))).toUInt32 >>> ((nI 2).toUInt32 &&& Int32.toUInt32 31)).toInt32) &&& (858993459))) + ((((((nI n) - ((((nI n).toUInt32 >>> ((nI 1).toUInt32 &&& Int32.toUInt32 31)).toInt32) &&& (1431655765))) &&& (858993459)) + (((((nI n) - ((((nI n).toUInt32 >>> ((nI 1).toUInt32 &&& Int32.toUInt32 31)).toInt32) &&& (1431655765))).toUInt32 >>> ((nI 2).toUInt32 &&& Int32.toUInt32 31)).toInt32) &&& (858993459))).toUInt32 >>> ((nI 4).toUInt32 &&& Int32.toUInt32 31)).toInt32)) &&& (252645135)).toUInt32 >>> ((nI 8).toUInt32 &&& Int32.toUInt32 31)).toInt32)).toUInt32 >>> ((nI 16).toUInt32 &&& Int32.toUInt32 31)).toInt32)) &&& (nI 63) = nI (pop n) from by exact bc_ok ⟨n, hn⟩)).trans hvv)
set_option maxHeartbeats 4000000 in
set_option maxRecDepth 100000 in
theorem c_o1_uses {l : Launch} {G : x_G} {lo : x_L} {co : x_C} (b tb : Nat) (A : Ad) (T : Tb) (ha : isO1 G lo co b tb A) (ht : isTb G lo co tb T) (hT : Tok T) (hA : Aok T A) (hkd : A.1 0 = 4) (bq : Nat) (Q : Qn) (hq : isQn G lo co bq tb Q) (hQ : Qok T Q) : x_Rd l G lo co yX4_usedBy cX4_usedBy 3 (some .int) 3 [.ref (lo (b)), .ref (lo (bq))] (some (.int (nI (a_uses Q A)))) := by
  refine x_enter RX4 rfl (by decide) (Nat.le_of_ble_eq_true rfl) ?_
  intro pp ee ss mm bb mt cd ls cx hk hw hr hlk hl
  have hl : lv_has ls 3 [(0, .ref (lo (b))), (1, .ref (lo (bq)))] := hl
  generalize hav : ([.ref (lo (b)), .ref (lo (bq))] : List Value).toArray = av at cx ⊢
  generalize hvv : (some (.int (nI (a_uses Q A))) : Option Value) = vv
  have hx := cx.1
  have hb := cx.2.1
  have hown := cx.2.2.2.1
  have hts := cx.2.2.2.2
  obtain ⟨k1, k2, k3, k4, k5, k6, k7, k8, k9, k0⟩ := id hT
  obtain ⟨m1, m2, m3, m4, m5, m6, m7, m8, m9, m10, m11⟩ := id hA
  obtain ⟨j1, j2, j3, j4, j5, j6⟩ := id hQ
  have h16 := Qok.t16 hT hQ
  have hby := a_by_le hT hA
  refine lv_iconst (v := nI 0) hx hb dX4_usedBy_0 rfl ?_
  refine lv_istore_n (lv' := [(2, .int (nI 0)), (0, .ref (lo (b))), (1, .ref (lo (bq)))]) hx hb dX4_usedBy_1 rfl hl (by decide) rfl (fun ls hl => ?_)
  have L2_1 : ∀ (n_ : Nat) (k : Nat), (k ≤ 3) → (∀ j, j < k → q_like Q (a_by A j) = true) → 3 - k < n_ → ∀ (ls : Array Slot), lv_has ls 3 [(2, .int (nI k)), (0, .ref (lo (b))), (1, .ref (lo (bq)))] → x_w l 3 pp ee ss mm av bb mt cd vv 2 ls [] := by
    intro n_
    induction n_ with
    | zero => intro k hv hall hm_ ls hl; exact absurd hm_ (Nat.not_lt_zero _)
    | succ n_ ih2_1 =>
      intro k hv hall hm_ ls hl
      refine lv_iload_n hx hb dX4_usedBy_2 rfl (lv_at hl 0 rfl) ?_
      refine lv_aload_n hx hb dX4_usedBy_3 rfl (lv_at hl 1 rfl) ?_
      refine x_get cx hk hw (ha.1) f_RX4_19_1 rfl dX4_usedBy_4 ?_
      refine x_alenI cx hk hw (ha.2) dX4_usedBy_7 ?_
      refine x_icmp_ge (tgt := 30) cx dX4_usedBy_8 (by decide) (by first | omega | (have q1 := hby k; omega)) (fun h8_2 => ?_) (fun h8_2 => ?_)
      · skip
        refine lv_iload_n hx hb dX4_usedBy_30 rfl (lv_at hl 0 rfl) ?_
        refine lv_aload_n hx hb dX4_usedBy_31 rfl (lv_at hl 1 rfl) ?_
        refine x_get cx hk hw (ha.1) f_RX4_19_1 rfl dX4_usedBy_32 ?_
        refine x_alenI cx hk hw (ha.2) dX4_usedBy_35 ?_
        refine x_icmp_ge (tgt := 55) cx dX4_usedBy_36 (by decide) (by first | omega | (have q1 := hby k; omega)) (fun h36_3 => ?_) (fun h36_3 => ?_)
        · skip
          refine lv_iload_n hx hb dX4_usedBy_55 rfl (lv_at hl 0 rfl) ?_
          exact x_iret cx hr hlk dX4_usedBy_56 ((congrArg (fun z => some (Value.int (nI z))) (show k = a_uses Q A from by have e := a_lead_eq hv hall (by first | exact Or.inl (by omega) | exact Or.inr (by assumption)); unfold a_uses; rw [e]; first | (rw [if_pos ⟨by omega, by assumption⟩]) | (rw [if_neg (fun q => absurd q.1 (by omega))]) | (rw [if_neg (fun q => Bool.noConfusion (q.2.symm.trans (by assumption)))]))).trans hvv)
        · skip
          refine lv_aload_n hx hb dX4_usedBy_39 rfl (lv_at hl 2 rfl) ?_
          refine lv_aload_n hx hb dX4_usedBy_40 rfl (lv_at hl 1 rfl) ?_
          refine x_get cx hk hw (ha.1) f_RX4_19_1 rfl dX4_usedBy_41 ?_
          refine lv_iload_n hx hb dX4_usedBy_44 rfl (lv_at hl 0 rfl) ?_
          refine x_ialdN cx hk hw (ha.2) (by first | omega | (have q1 := hby k; omega)) (by decide) dX4_usedBy_45 ?_
          have q1 := hby k
          refine x_rdV (av := [.int (nO (a_by A k))]) (rest := []) cx hk hw (hq.1) cv_RX4_29_5 (c_q_tests bq tb Q T hq ht hT hQ (a_by A k) (by omega)) hl.1 rfl rfl (Nat.le_of_ble_eq_true rfl) ⟨by decide, by decide⟩ ⟨Nat.zero_le _, Nat.zero_le _⟩ dX4_usedBy_46 ?_
          refine x_if_eq (tgt := 55) cx dX4_usedBy_49 (by decide) (fun h49_4 => ?_) (fun h49_4 => ?_)
          · skip
            refine lv_iload_n hx hb dX4_usedBy_55 rfl (lv_at hl 0 rfl) ?_
            exact x_iret cx hr hlk dX4_usedBy_56 ((congrArg (fun z => some (Value.int (nI z))) (show k = a_uses Q A from by have e := a_lead_eq hv hall (by first | exact Or.inl (by omega) | exact Or.inr (by assumption)); unfold a_uses; rw [e]; first | (rw [if_pos ⟨by omega, by assumption⟩]) | (rw [if_neg (fun q => absurd q.1 (by omega))]) | (rw [if_neg (fun q => Bool.noConfusion (q.2.symm.trans (by assumption)))]))).trans hvv)
          · skip
            refine lv_iinc (v := nI (k + 1)) (lv' := [(2, .int (nI (k + 1))), (0, .ref (lo (b))), (1, .ref (lo (bq)))]) hx hb dX4_usedBy_52 hl (k := 0) rfl (nI_add _ 1) (by decide) rfl (fun ls hl => ?_)
            refine lv_iload_n hx hb dX4_usedBy_55 rfl (lv_at hl 0 rfl) ?_
            exact x_iret cx hr hlk dX4_usedBy_56 ((congrArg (fun z => some (Value.int (nI z))) (show k + 1 = a_uses Q A from by have e := a_lead_eq hv hall (by first | exact Or.inl (by omega) | exact Or.inr (by assumption)); unfold a_uses; rw [e]; first | (rw [if_pos ⟨by omega, by assumption⟩]) | (rw [if_neg (fun q => absurd q.1 (by omega))]) | (rw [if_neg (fun q => Bool.noConfusion (q.2.symm.trans (by assumption)))]))).trans hvv)
      · skip
        refine lv_aload_n hx hb dX4_usedBy_11 rfl (lv_at hl 2 rfl) ?_
        refine lv_aload_n hx hb dX4_usedBy_12 rfl (lv_at hl 1 rfl) ?_
        refine x_get cx hk hw (ha.1) f_RX4_19_1 rfl dX4_usedBy_13 ?_
        refine lv_iload_n hx hb dX4_usedBy_16 rfl (lv_at hl 0 rfl) ?_
        refine x_ialdN cx hk hw (ha.2) (by first | omega | (have q1 := hby k; omega)) (by decide) dX4_usedBy_17 ?_
        have q1 := hby k
        refine x_rdV (av := [.int (nO (a_by A k))]) (rest := []) cx hk hw (hq.1) cv_RX4_23_5 (c_q_like bq tb Q T hq ht hT hQ (a_by A k) (by omega)) hl.1 rfl rfl (Nat.le_of_ble_eq_true rfl) ⟨by decide, by decide⟩ ⟨Nat.zero_le _, Nat.zero_le _⟩ dX4_usedBy_18 ?_
        refine x_if_eq (tgt := 30) cx dX4_usedBy_21 (by decide) (fun h21_5 => ?_) (fun h21_5 => ?_)
        · skip
          refine lv_iload_n hx hb dX4_usedBy_30 rfl (lv_at hl 0 rfl) ?_
          refine lv_aload_n hx hb dX4_usedBy_31 rfl (lv_at hl 1 rfl) ?_
          refine x_get cx hk hw (ha.1) f_RX4_19_1 rfl dX4_usedBy_32 ?_
          refine x_alenI cx hk hw (ha.2) dX4_usedBy_35 ?_
          refine x_icmp_ge (tgt := 55) cx dX4_usedBy_36 (by decide) (by first | omega | (have q1 := hby k; omega)) (fun h36_6 => ?_) (fun h36_6 => ?_)
          · skip
            refine lv_iload_n hx hb dX4_usedBy_55 rfl (lv_at hl 0 rfl) ?_
            exact x_iret cx hr hlk dX4_usedBy_56 ((congrArg (fun z => some (Value.int (nI z))) (show k = a_uses Q A from by have e := a_lead_eq hv hall (by first | exact Or.inl (by omega) | exact Or.inr (by assumption)); unfold a_uses; rw [e]; first | (rw [if_pos ⟨by omega, by assumption⟩]) | (rw [if_neg (fun q => absurd q.1 (by omega))]) | (rw [if_neg (fun q => Bool.noConfusion (q.2.symm.trans (by assumption)))]))).trans hvv)
          · skip
            refine lv_aload_n hx hb dX4_usedBy_39 rfl (lv_at hl 2 rfl) ?_
            refine lv_aload_n hx hb dX4_usedBy_40 rfl (lv_at hl 1 rfl) ?_
            refine x_get cx hk hw (ha.1) f_RX4_19_1 rfl dX4_usedBy_41 ?_
            refine lv_iload_n hx hb dX4_usedBy_44 rfl (lv_at hl 0 rfl) ?_
            refine x_ialdN cx hk hw (ha.2) (by first | omega | (have q1 := hby k; omega)) (by decide) dX4_usedBy_45 ?_
            have q1 := hby k
            refine x_rdV (av := [.int (nO (a_by A k))]) (rest := []) cx hk hw (hq.1) cv_RX4_29_5 (c_q_tests bq tb Q T hq ht hT hQ (a_by A k) (by omega)) hl.1 rfl rfl (Nat.le_of_ble_eq_true rfl) ⟨by decide, by decide⟩ ⟨Nat.zero_le _, Nat.zero_le _⟩ dX4_usedBy_46 ?_
            refine x_if_eq (tgt := 55) cx dX4_usedBy_49 (by decide) (fun h49_7 => ?_) (fun h49_7 => ?_)
            · skip
              refine lv_iload_n hx hb dX4_usedBy_55 rfl (lv_at hl 0 rfl) ?_
              exact x_iret cx hr hlk dX4_usedBy_56 ((congrArg (fun z => some (Value.int (nI z))) (show k = a_uses Q A from by have e := a_lead_eq hv hall (by first | exact Or.inl (by omega) | exact Or.inr (by assumption)); unfold a_uses; rw [e]; first | (rw [if_pos ⟨by omega, by assumption⟩]) | (rw [if_neg (fun q => absurd q.1 (by omega))]) | (rw [if_neg (fun q => Bool.noConfusion (q.2.symm.trans (by assumption)))]))).trans hvv)
            · skip
              refine lv_iinc (v := nI (k + 1)) (lv' := [(2, .int (nI (k + 1))), (0, .ref (lo (b))), (1, .ref (lo (bq)))]) hx hb dX4_usedBy_52 hl (k := 0) rfl (nI_add _ 1) (by decide) rfl (fun ls hl => ?_)
              refine lv_iload_n hx hb dX4_usedBy_55 rfl (lv_at hl 0 rfl) ?_
              exact x_iret cx hr hlk dX4_usedBy_56 ((congrArg (fun z => some (Value.int (nI z))) (show k + 1 = a_uses Q A from by have e := a_lead_eq hv hall (by first | exact Or.inl (by omega) | exact Or.inr (by assumption)); unfold a_uses; rw [e]; first | (rw [if_pos ⟨by omega, by assumption⟩]) | (rw [if_neg (fun q => absurd q.1 (by omega))]) | (rw [if_neg (fun q => Bool.noConfusion (q.2.symm.trans (by assumption)))]))).trans hvv)
        · skip
          refine lv_iinc (v := nI (k + 1)) (lv' := [(2, .int (nI (k + 1))), (0, .ref (lo (b))), (1, .ref (lo (bq)))]) hx hb dX4_usedBy_24 hl (k := 0) rfl (nI_add _ 1) (by decide) rfl (fun ls hl => ?_)
          refine lv_goto (tgt := 2) hx hb dX4_usedBy_27 (by decide) ?_
          exact ih2_1 (k + 1) (by omega) (by intro j hj; rcases Nat.lt_succ_iff_lt_or_eq.mp hj with q | q; exact hall j q; rw [q]; assumption) (by omega) _ (lv_sub hl [0, 1, 2] rfl)
  exact L2_1 (_ + 1) 0 (by omega) (by exact fun j h => absurd h (Nat.not_lt_zero j)) (Nat.lt_succ_self _) _ (lv_sub hl [0, 1, 2] rfl)
set_option maxHeartbeats 4000000 in
set_option maxRecDepth 100000 in
theorem c_o1_rows {l : Launch} {G : x_G} {lo : x_L} {co : x_C} (b tb : Nat) (A : Ad) (T : Tb) (ha : isO1 G lo co b tb A) (ht : isTb G lo co tb T) (hT : Tok T) (hA : Aok T A) (hkd : A.1 0 = 4) : x_Rd l G lo co yX4_foretoldRows cX4_foretoldRows 1 (some .int) 1 [.ref (lo (b))] (some (.int (nI (a_rows T A)))) := by
  refine x_enter RX4 rfl (by decide) (Nat.le_of_ble_eq_true rfl) ?_
  intro pp ee ss mm bb mt cd ls cx hk hw hr hlk hl
  have hl : lv_has ls 1 [(0, .ref (lo (b)))] := hl
  generalize hav : ([.ref (lo (b))] : List Value).toArray = av at cx ⊢
  generalize hvv : (some (.int (nI (a_rows T A))) : Option Value) = vv
  have hx := cx.1
  have hb := cx.2.1
  have hown := cx.2.2.2.1
  have hts := cx.2.2.2.2
  obtain ⟨k1, k2, k3, k4, k5, k6, k7, k8, k9, k0⟩ := id hT
  obtain ⟨m1, m2, m3, m4, m5, m6, m7, m8, m9, m10, m11⟩ := id hA
  refine lv_aload_n hx hb dX4_foretoldRows_0 rfl (lv_at hl 0 rfl) ?_
  refine x_get cx hk hw (ha.1) f_RX4_36_1 rfl dX4_foretoldRows_1 ?_
  refine x_get cx hk hw (ht.1) f_RX4_40_8 rfl dX4_foretoldRows_4 ?_
  exact x_iret cx hr hlk dX4_foretoldRows_7 ((congrArg (fun z => some (Value.int (nI z))) (show T.1 5 = a_rows T A from by rw [a_rows, if_neg (by omega)])).trans hvv)
set_option maxHeartbeats 4000000 in
set_option maxRecDepth 100000 in
theorem c_o1_holds {l : Launch} {G : x_G} {lo : x_L} {co : x_C} (b tb : Nat) (A : Ad) (T : Tb) (ha : isO1 G lo co b tb A) (ht : isTb G lo co tb T) (hT : Tok T) (hA : Aok T A) (hkd : A.1 0 = 4) (r : Nat) : x_Rd l G lo co yX4_holds cX4_holds 2 (some .boolean) 1 [.ref (lo (b)), .int (nI r)] (some (.int (bI (true)))) := by
  refine x_enter RX4 rfl (by decide) (Nat.le_of_ble_eq_true rfl) ?_
  intro pp ee ss mm bb mt cd ls cx hk hw hr hlk hl
  have hl : lv_has ls 2 [(0, .ref (lo (b))), (1, .int (nI r))] := hl
  generalize hav : ([.ref (lo (b)), .int (nI r)] : List Value).toArray = av at cx ⊢
  generalize hvv : (some (.int (bI (true))) : Option Value) = vv
  have hx := cx.1
  have hb := cx.2.1
  have hown := cx.2.2.2.1
  have hts := cx.2.2.2.2
  refine lv_iconst (v := nI 1) hx hb dX4_holds_0 rfl ?_
  exact x_zretT (b := true) cx hr hlk dX4_holds_1 (by rfl) hvv
set_option maxHeartbeats 4000000 in
set_option maxRecDepth 100000 in
theorem c_o1_must {l : Launch} {G : x_G} {lo : x_L} {co : x_C} (b tb : Nat) (A : Ad) (T : Tb) (ha : isO1 G lo co b tb A) (ht : isTb G lo co tb T) (hT : Tok T) (hA : Aok T A) (hkd : A.1 0 = 4) (bq : Nat) (Q : Qn) (hq : isQn G lo co bq tb Q) (hQ : Qok T Q) : x_Rd l G lo co yX1_mustFetch cX1_mustFetch 2 (some .boolean) 1 [.ref (lo (b)), .ref (lo (bq))] (some (.int (bI (false)))) := by
  refine x_enter RX1 rfl (by decide) (Nat.le_of_ble_eq_true rfl) ?_
  intro pp ee ss mm bb mt cd ls cx hk hw hr hlk hl
  have hl : lv_has ls 2 [(0, .ref (lo (b))), (1, .ref (lo (bq)))] := hl
  generalize hav : ([.ref (lo (b)), .ref (lo (bq))] : List Value).toArray = av at cx ⊢
  generalize hvv : (some (.int (bI (false))) : Option Value) = vv
  have hx := cx.1
  have hb := cx.2.1
  have hown := cx.2.2.2.1
  have hts := cx.2.2.2.2
  refine lv_iconst (v := nI 0) hx hb dX1_mustFetch_0 rfl ?_
  exact x_zretF (b := false) cx hr hlk dX1_mustFetch_1 (by rfl) hvv
set_option maxHeartbeats 4000000 in
set_option maxRecDepth 100000 in
theorem c_o1_ent {l : Launch} {G : x_G} {lo : x_L} {co : x_C} (b tb : Nat) (A : Ad) (T : Tb) (ha : isO1 G lo co b tb A) (ht : isTb G lo co tb T) (hT : Tok T) (hA : Aok T A) (hkd : A.1 0 = 4) : x_Rd l G lo co yX1_entriesOnPage cX1_entriesOnPage 1 (some .int) 1 [.ref (lo (b))] (some (.int (nI (a_ent T A)))) := by
  refine x_enter RX1 rfl (by decide) (Nat.le_of_ble_eq_true rfl) ?_
  intro pp ee ss mm bb mt cd ls cx hk hw hr hlk hl
  have hl : lv_has ls 1 [(0, .ref (lo (b)))] := hl
  generalize hav : ([.ref (lo (b))] : List Value).toArray = av at cx ⊢
  generalize hvv : (some (.int (nI (a_ent T A))) : Option Value) = vv
  have hx := cx.1
  have hb := cx.2.1
  have hown := cx.2.2.2.1
  have hts := cx.2.2.2.2
  obtain ⟨k1, k2, k3, k4, k5, k6, k7, k8, k9, k0⟩ := id hT
  obtain ⟨m1, m2, m3, m4, m5, m6, m7, m8, m9, m10, m11⟩ := id hA
  refine lv_aload_n hx hb dX1_entriesOnPage_0 rfl (lv_at hl 0 rfl) ?_
  refine x_get cx hk hw (ha.1) f_RX1_9_1 rfl dX1_entriesOnPage_1 ?_
  refine x_get cx hk hw (ht.1) f_RX1_15_8 rfl dX1_entriesOnPage_4 ?_
  exact x_iret cx hr hlk dX1_entriesOnPage_7 ((congrArg (fun z => some (Value.int (nI z))) (show T.1 2 = a_ent T A from by simp [a_ent, hkd])).trans hvv)
set_option maxHeartbeats 4000000 in
set_option maxRecDepth 100000 in
theorem c_o1_cost {l : Launch} {G : x_G} {lo : x_L} {co : x_C} (b tb : Nat) (A : Ad) (T : Tb) (ha : isO1 G lo co b tb A) (ht : isTb G lo co tb T) (hT : Tok T) (hA : Aok T A) (hkd : A.1 0 = 4) (bq : Nat) (Q : Qn) (hq : isQn G lo co bq tb Q) (hQ : Qok T Q) : x_Rd l G lo co yX4_foretold cX4_foretold 5 (some .int) 4 [.ref (lo (b)), .ref (lo (bq))] (some (.int (nI (a_cost T Q A)))) := by
  refine x_enter RX4 rfl (by decide) (Nat.le_of_ble_eq_true rfl) ?_
  intro pp ee ss mm bb mt cd ls cx hk hw hr hlk hl
  have hl : lv_has ls 5 [(0, .ref (lo (b))), (1, .ref (lo (bq)))] := hl
  generalize hav : ([.ref (lo (b)), .ref (lo (bq))] : List Value).toArray = av at cx ⊢
  generalize hvv : (some (.int (nI (a_cost T Q A))) : Option Value) = vv
  have hx := cx.1
  have hb := cx.2.1
  have hown := cx.2.2.2.1
  have hts := cx.2.2.2.2
  obtain ⟨k1, k2, k3, k4, k5, k6, k7, k8, k9, k0⟩ := id hT
  obtain ⟨m1, m2, m3, m4, m5, m6, m7, m8, m9, m10, m11⟩ := id hA
  obtain ⟨j1, j2, j3, j4, j5, j6⟩ := id hQ
  have h16 := Qok.t16 hT hQ
  have hby := a_by_le hT hA
  have hu := a_uses_le Q A
  have hrw := a_rows_le hT hA
  have hent : a_ent T A ≤ 16 ∧ 2 ≤ a_ent T A := by unfold a_ent; split <;> omega
  have hpg := s_up_60 (n := T.1 5) (d := T.1 2) (by omega) (by omega)
  refine lv_aload_n hx hb dX4_foretold_0 rfl (lv_at hl 0 rfl) ?_
  refine x_rdU (av := []) (rest := []) cx hk hw (ha.1) cu_RX4_48_1 (c_o1_rows b tb A T ha ht hT hA hkd) hl.1 rfl rfl (Nat.le_of_ble_eq_true rfl) ⟨by decide, by decide⟩ ⟨Nat.zero_le _, Nat.zero_le _⟩ dX4_foretold_1 ?_
  refine lv_istore_n (lv' := [(2, .int (nI (a_rows T A))), (0, .ref (lo (b))), (1, .ref (lo (bq)))]) hx hb dX4_foretold_4 rfl hl (by decide) rfl (fun ls hl => ?_)
  refine lv_aload_n hx hb dX4_foretold_5 rfl (lv_at hl 1 rfl) ?_
  refine lv_aload_n hx hb dX4_foretold_6 rfl (lv_at hl 2 rfl) ?_
  refine x_rdU (av := [.ref (lo (bq))]) (rest := []) cx hk hw (ha.1) cu_RX4_32_1 (c_o1_uses b tb A T ha ht hT hA hkd bq Q hq hQ) hl.1 rfl rfl (Nat.le_of_ble_eq_true rfl) ⟨by decide, by decide⟩ ⟨Nat.zero_le _, Nat.zero_le _⟩ dX4_foretold_7 ?_
  refine lv_istore_n (lv' := [(3, .int (nI (a_uses Q A))), (2, .int (nI (a_rows T A))), (0, .ref (lo (b))), (1, .ref (lo (bq)))]) hx hb dX4_foretold_10 rfl hl (by decide) rfl (fun ls hl => ?_)
  refine lv_iconst (v := nI 0) hx hb dX4_foretold_11 rfl ?_
  refine lv_istore (lv' := [(4, .int (nI 0)), (3, .int (nI (a_uses Q A))), (2, .int (nI (a_rows T A))), (0, .ref (lo (b))), (1, .ref (lo (bq)))]) hx hb dX4_foretold_12 hl (by decide) rfl (fun ls hl => ?_)
  have L14_1 : ∀ (n_ : Nat) (f : Nat) (k : Nat), (k ≤ a_uses Q A) → (f = a_fold T Q A (a_rows T A) k) → a_uses Q A - k < n_ → ∀ (ls : Array Slot), lv_has ls 5 [(4, .int (nI k)), (3, .int (nI (a_uses Q A))), (2, .int (nI f)), (0, .ref (lo (b))), (1, .ref (lo (bq)))] → x_w l 4 pp ee ss mm av bb mt cd vv 14 ls [] := by
    intro n_
    induction n_ with
    | zero => intro f k hv hf hm_ ls hl; exact absurd hm_ (Nat.not_lt_zero _)
    | succ n_ ih14_1 =>
      intro f k hv hf hm_ ls hl
      have fb0 : f ≤ 60 := by rw [hf]; have := a_fold_le (A := A) hT hQ (a_rows T A) k; omega
      refine lv_iload hx hb dX4_foretold_14 (lv_at hl 0 rfl) ?_
      refine lv_iload_n hx hb dX4_foretold_16 rfl (lv_at hl 1 rfl) ?_
      refine x_icmp_ge (tgt := 49) cx dX4_foretold_17 (by decide) (by omega) (fun h17_2 => ?_) (fun h17_2 => ?_)
      · skip
        have fb : f ≤ 60 := by rw [hf]; have := a_fold_le (A := A) hT hQ (a_rows T A) k; omega
        refine lv_aload_n hx hb dX4_foretold_49 rfl (lv_at hl 3 rfl) ?_
        refine lv_aload_n hx hb dX4_foretold_50 rfl (lv_at hl 4 rfl) ?_
        refine x_rdU (av := [.ref (lo (bq))]) (rest := []) cx hk hw (ha.1) cu_RX4_56_1 (c_o1_must b tb A T ha ht hT hA hkd bq Q hq hQ) hl.1 rfl rfl (Nat.le_of_ble_eq_true rfl) ⟨by decide, by decide⟩ ⟨Nat.zero_le _, Nat.zero_le _⟩ dX4_foretold_51 ?_
        have J72_3 : ∀ (y3_s0 : Nat) (ey3_s0 : y3_s0 = if false = true then (min f (s_up (T.1 5) (T.1 2))) else 0) (ls : Array Slot), lv_has ls 5 [(4, .int (nI k)), (3, .int (nI (a_uses Q A))), (2, .int (nI f)), (0, .ref (lo (b))), (1, .ref (lo (bq)))] → x_w l 4 pp ee ss mm av bb mt cd vv 72 ls [.int (nI y3_s0)] := by
          intro y3_s0 ey3_s0 ls hl
          refine lv_istore (lv' := [(4, .int (nI y3_s0)), (3, .int (nI (a_uses Q A))), (2, .int (nI f)), (0, .ref (lo (b))), (1, .ref (lo (bq)))]) hx hb dX4_foretold_72 hl (by decide) rfl (fun ls hl => ?_)
          refine lv_iconst (v := nI 1) hx hb dX4_foretold_74 rfl ?_
          refine lv_iload_n hx hb dX4_foretold_75 rfl (lv_at hl 2 rfl) ?_
          refine lv_aload_n hx hb dX4_foretold_76 rfl (lv_at hl 3 rfl) ?_
          refine x_rdU (av := []) (rest := [.int (nI f), .int (nI 1)]) cx hk hw (ha.1) cu_RX4_68_1 (c_o1_ent b tb A T ha ht hT hA hkd) hl.1 rfl rfl (Nat.le_of_ble_eq_true rfl) ⟨by decide, by decide⟩ ⟨Nat.zero_le _, Nat.zero_le _⟩ dX4_foretold_77 ?_
          refine x_rdSN (av := [.int (nI f), .int (nI (a_ent T A))]) (rest := [.int (nI 1)]) cx hk hw cn_RX4_71 (c_up f (a_ent T A) (by omega) (by omega)) hl.1 rfl rfl (Nat.le_of_ble_eq_true rfl) ⟨by decide, by decide⟩ ⟨Nat.zero_le _, Nat.zero_le _⟩ dX4_foretold_80 ?_
          refine x_iaddN cx dX4_foretold_83 ?_
          refine lv_iload hx hb dX4_foretold_84 (lv_at hl 0 rfl) ?_
          refine x_iaddN cx dX4_foretold_86 ?_
          exact x_iret cx hr hlk dX4_foretold_87 ((congrArg (fun z => some (Value.int (nI z))) (show (1 + (s_up f (a_ent T A))) + y3_s0 = a_cost T Q A from by have ek : k = a_uses Q A := (by omega); rw [ek] at hf; have hm : f = a_mat T Q A := hf; unfold a_cost; rw [← hm]; simp_all [a_cov, a_ent])).trans hvv)
        refine x_if_eq (tgt := 71) cx dX4_foretold_54 (by decide) (fun h54_4 => ?_) (fun h54_4 => ?_)
        · skip
          refine lv_iconst (v := nI 0) hx hb dX4_foretold_71 rfl ?_
          exact J72_3 0 (by rw [if_neg (fun q => Bool.noConfusion (h54_4.symm.trans q))]) _ (lv_sub hl [0, 1, 2, 3, 4] rfl)
        · skip
          refine lv_iload_n hx hb dX4_foretold_57 rfl (lv_at hl 2 rfl) ?_
          refine lv_aload_n hx hb dX4_foretold_58 rfl (lv_at hl 3 rfl) ?_
          refine x_get cx hk hw (ha.1) f_RX4_36_1 rfl dX4_foretold_59 ?_
          refine x_rdV (av := []) (rest := [.int (nI f)]) cx hk hw (ht.1) cv_RX4_60_8 (c_t_cpages tb T ht hT) hl.1 rfl rfl (Nat.le_of_ble_eq_true rfl) ⟨by decide, by decide⟩ ⟨Nat.zero_le _, Nat.zero_le _⟩ dX4_foretold_62 ?_
          refine x_mmin cx hl.1 w_694 (by omega) w_244 w_8 w_245 ⟨Nat.le_of_ble_eq_true rfl, Nat.le_of_ble_eq_true rfl⟩ ⟨Nat.zero_le _, Nat.zero_le _⟩ dX4_foretold_65 ?_
          refine lv_goto (tgt := 72) hx hb dX4_foretold_68 (by decide) ?_
          exact J72_3 (min f (s_up (T.1 5) (T.1 2))) (by rw [if_pos h54_4]) _ (lv_sub hl [0, 1, 2, 3, 4] rfl)
      · skip
        refine lv_iload hx hb dX4_foretold_20 (lv_at hl 0 rfl) ?_
        refine lv_aload_n hx hb dX4_foretold_22 rfl (lv_at hl 3 rfl) ?_
        refine x_get cx hk hw (ha.1) f_RX4_19_1 rfl dX4_foretold_23 ?_
        refine x_alenI cx hk hw (ha.2) dX4_foretold_26 ?_
        refine x_icmp_ge (tgt := 49) cx dX4_foretold_27 (by decide) (by omega) (fun h27_5 => ?_) (fun h27_5 => ?_)
        · skip
          have fb : f ≤ 60 := by rw [hf]; have := a_fold_le (A := A) hT hQ (a_rows T A) k; omega
          refine lv_aload_n hx hb dX4_foretold_49 rfl (lv_at hl 3 rfl) ?_
          refine lv_aload_n hx hb dX4_foretold_50 rfl (lv_at hl 4 rfl) ?_
          refine x_rdU (av := [.ref (lo (bq))]) (rest := []) cx hk hw (ha.1) cu_RX4_56_1 (c_o1_must b tb A T ha ht hT hA hkd bq Q hq hQ) hl.1 rfl rfl (Nat.le_of_ble_eq_true rfl) ⟨by decide, by decide⟩ ⟨Nat.zero_le _, Nat.zero_le _⟩ dX4_foretold_51 ?_
          have J72_6 : ∀ (y6_s0 : Nat) (ey6_s0 : y6_s0 = if false = true then (min f (s_up (T.1 5) (T.1 2))) else 0) (ls : Array Slot), lv_has ls 5 [(4, .int (nI k)), (3, .int (nI (a_uses Q A))), (2, .int (nI f)), (0, .ref (lo (b))), (1, .ref (lo (bq)))] → x_w l 4 pp ee ss mm av bb mt cd vv 72 ls [.int (nI y6_s0)] := by
            intro y6_s0 ey6_s0 ls hl
            refine lv_istore (lv' := [(4, .int (nI y6_s0)), (3, .int (nI (a_uses Q A))), (2, .int (nI f)), (0, .ref (lo (b))), (1, .ref (lo (bq)))]) hx hb dX4_foretold_72 hl (by decide) rfl (fun ls hl => ?_)
            refine lv_iconst (v := nI 1) hx hb dX4_foretold_74 rfl ?_
            refine lv_iload_n hx hb dX4_foretold_75 rfl (lv_at hl 2 rfl) ?_
            refine lv_aload_n hx hb dX4_foretold_76 rfl (lv_at hl 3 rfl) ?_
            refine x_rdU (av := []) (rest := [.int (nI f), .int (nI 1)]) cx hk hw (ha.1) cu_RX4_68_1 (c_o1_ent b tb A T ha ht hT hA hkd) hl.1 rfl rfl (Nat.le_of_ble_eq_true rfl) ⟨by decide, by decide⟩ ⟨Nat.zero_le _, Nat.zero_le _⟩ dX4_foretold_77 ?_
            refine x_rdSN (av := [.int (nI f), .int (nI (a_ent T A))]) (rest := [.int (nI 1)]) cx hk hw cn_RX4_71 (c_up f (a_ent T A) (by omega) (by omega)) hl.1 rfl rfl (Nat.le_of_ble_eq_true rfl) ⟨by decide, by decide⟩ ⟨Nat.zero_le _, Nat.zero_le _⟩ dX4_foretold_80 ?_
            refine x_iaddN cx dX4_foretold_83 ?_
            refine lv_iload hx hb dX4_foretold_84 (lv_at hl 0 rfl) ?_
            refine x_iaddN cx dX4_foretold_86 ?_
            exact x_iret cx hr hlk dX4_foretold_87 ((congrArg (fun z => some (Value.int (nI z))) (show (1 + (s_up f (a_ent T A))) + y6_s0 = a_cost T Q A from by have ek : k = a_uses Q A := (by omega); rw [ek] at hf; have hm : f = a_mat T Q A := hf; unfold a_cost; rw [← hm]; simp_all [a_cov, a_ent])).trans hvv)
          refine x_if_eq (tgt := 71) cx dX4_foretold_54 (by decide) (fun h54_7 => ?_) (fun h54_7 => ?_)
          · skip
            refine lv_iconst (v := nI 0) hx hb dX4_foretold_71 rfl ?_
            exact J72_6 0 (by rw [if_neg (fun q => Bool.noConfusion (h54_7.symm.trans q))]) _ (lv_sub hl [0, 1, 2, 3, 4] rfl)
          · skip
            refine lv_iload_n hx hb dX4_foretold_57 rfl (lv_at hl 2 rfl) ?_
            refine lv_aload_n hx hb dX4_foretold_58 rfl (lv_at hl 3 rfl) ?_
            refine x_get cx hk hw (ha.1) f_RX4_36_1 rfl dX4_foretold_59 ?_
            refine x_rdV (av := []) (rest := [.int (nI f)]) cx hk hw (ht.1) cv_RX4_60_8 (c_t_cpages tb T ht hT) hl.1 rfl rfl (Nat.le_of_ble_eq_true rfl) ⟨by decide, by decide⟩ ⟨Nat.zero_le _, Nat.zero_le _⟩ dX4_foretold_62 ?_
            refine x_mmin cx hl.1 w_694 (by omega) w_244 w_8 w_245 ⟨Nat.le_of_ble_eq_true rfl, Nat.le_of_ble_eq_true rfl⟩ ⟨Nat.zero_le _, Nat.zero_le _⟩ dX4_foretold_65 ?_
            refine lv_goto (tgt := 72) hx hb dX4_foretold_68 (by decide) ?_
            exact J72_6 (min f (s_up (T.1 5) (T.1 2))) (by rw [if_pos h54_7]) _ (lv_sub hl [0, 1, 2, 3, 4] rfl)
        · skip
          refine lv_aload_n hx hb dX4_foretold_30 rfl (lv_at hl 4 rfl) ?_
          refine lv_iload_n hx hb dX4_foretold_31 rfl (lv_at hl 2 rfl) ?_
          refine lv_aload_n hx hb dX4_foretold_32 rfl (lv_at hl 3 rfl) ?_
          refine x_get cx hk hw (ha.1) f_RX4_19_1 rfl dX4_foretold_33 ?_
          refine lv_iload hx hb dX4_foretold_36 (lv_at hl 0 rfl) ?_
          refine x_ialdN cx hk hw (ha.2) (by omega) (by decide) dX4_foretold_38 ?_
          have q1 := hby k
          refine x_rdV (av := [.int (nI f), .int (nO (a_by A k))]) (rest := []) cx hk hw (hq.1) cv_RX4_52_5 (c_q_pass bq tb Q T hq ht hT hQ f (a_by A k) (by omega) (by omega)) hl.1 rfl rfl (Nat.le_of_ble_eq_true rfl) ⟨by decide, by decide⟩ ⟨Nat.zero_le _, Nat.zero_le _⟩ dX4_foretold_39 ?_
          refine lv_istore_n (lv' := [(2, .int (nI (q_pass T Q f (a_by A k)))), (4, .int (nI k)), (3, .int (nI (a_uses Q A))), (0, .ref (lo (b))), (1, .ref (lo (bq)))]) hx hb dX4_foretold_42 rfl hl (by decide) rfl (fun ls hl => ?_)
          refine lv_iinc (v := nI (k + 1)) (lv' := [(4, .int (nI (k + 1))), (2, .int (nI (q_pass T Q f (a_by A k)))), (3, .int (nI (a_uses Q A))), (0, .ref (lo (b))), (1, .ref (lo (bq)))]) hx hb dX4_foretold_43 hl (k := 1) rfl (nI_add _ 1) (by decide) rfl (fun ls hl => ?_)
          refine lv_goto (tgt := 14) hx hb dX4_foretold_46 (by decide) ?_
          exact ih14_1 (q_pass T Q f (a_by A k)) (k + 1) (by omega) (by rw [a_fold, ← hf]) (by omega) _ (lv_sub hl [0, 2, 1, 3, 4] rfl)
  exact L14_1 (_ + 1) (a_rows T A) 0 (by omega) (by rfl) (Nat.lt_succ_self _) _ (lv_sub hl [0, 1, 2, 3, 4] rfl)
set_option maxHeartbeats 4000000 in
set_option maxRecDepth 100000 in
theorem c_o1_finds {l : Launch} {G : x_G} {lo : x_L} {co : x_C} (b tb : Nat) (A : Ad) (T : Tb) (ha : isO1 G lo co b tb A) (ht : isTb G lo co tb T) (hT : Tok T) (hA : Aok T A) (hkd : A.1 0 = 4) (bq : Nat) (Q : Qn) (hq : isQn G lo co bq tb Q) (hQ : Qok T Q) (n r : Nat) (hn_ : n ≤ 3) (hr_ : r < 2 ^ 31) : x_Rd l G lo co yX4_finds cX4_finds 5 (some .boolean) 4 [.ref (lo (b)), .ref (lo (bq)), .int (nI n), .int (nI r)] (some (.int (bI (allN n (fun i => q_pat T Q r (a_by A i)))))) := by
  refine x_enter RX4 rfl (by decide) (Nat.le_of_ble_eq_true rfl) ?_
  intro pp ee ss mm bb mt cd ls cx hk hw hr hlk hl
  have hl : lv_has ls 5 [(0, .ref (lo (b))), (1, .ref (lo (bq))), (2, .int (nI n)), (3, .int (nI r))] := hl
  generalize hav : ([.ref (lo (b)), .ref (lo (bq)), .int (nI n), .int (nI r)] : List Value).toArray = av at cx ⊢
  generalize hvv : (some (.int (bI (allN n (fun i => q_pat T Q r (a_by A i))))) : Option Value) = vv
  have hx := cx.1
  have hb := cx.2.1
  have hown := cx.2.2.2.1
  have hts := cx.2.2.2.2
  obtain ⟨k1, k2, k3, k4, k5, k6, k7, k8, k9, k0⟩ := id hT
  obtain ⟨m1, m2, m3, m4, m5, m6, m7, m8, m9, m10, m11⟩ := id hA
  obtain ⟨j1, j2, j3, j4, j5, j6⟩ := id hQ
  have h16 := Qok.t16 hT hQ
  have hby := a_by_le hT hA
  refine lv_iconst (v := nI 0) hx hb dX4_finds_0 rfl ?_
  refine lv_istore (lv' := [(4, .int (nI 0)), (0, .ref (lo (b))), (1, .ref (lo (bq))), (2, .int (nI n)), (3, .int (nI r))]) hx hb dX4_finds_1 hl (by decide) rfl (fun ls hl => ?_)
  have L3_1 : ∀ (n_ : Nat) (k : Nat), (k ≤ n) → (allN k (fun i => q_pat T Q r (a_by A i)) = true) → n - k < n_ → ∀ (ls : Array Slot), lv_has ls 5 [(4, .int (nI k)), (0, .ref (lo (b))), (1, .ref (lo (bq))), (2, .int (nI n)), (3, .int (nI r))] → x_w l 4 pp ee ss mm av bb mt cd vv 3 ls [] := by
    intro n_
    induction n_ with
    | zero => intro k hv hall hm_ ls hl; exact absurd hm_ (Nat.not_lt_zero _)
    | succ n_ ih3_1 =>
      intro k hv hall hm_ ls hl
      refine lv_iload hx hb dX4_finds_3 (lv_at hl 0 rfl) ?_
      refine lv_iload_n hx hb dX4_finds_5 rfl (lv_at hl 3 rfl) ?_
      refine x_icmp_ge (tgt := 42) cx dX4_finds_6 (by decide) (by omega) (fun h6_2 => ?_) (fun h6_2 => ?_)
      · skip
        refine lv_iconst (v := nI 1) hx hb dX4_finds_42 rfl ?_
        exact x_zretT (b := allN n (fun i => q_pat T Q r (a_by A i))) cx hr hlk dX4_finds_43 (by rw [show n = k by omega]; exact hall) hvv
      · skip
        refine lv_iload hx hb dX4_finds_9 (lv_at hl 0 rfl) ?_
        refine lv_aload_n hx hb dX4_finds_11 rfl (lv_at hl 1 rfl) ?_
        refine x_get cx hk hw (ha.1) f_RX4_19_1 rfl dX4_finds_12 ?_
        refine x_alenI cx hk hw (ha.2) dX4_finds_15 ?_
        refine x_icmp_ge (tgt := 42) cx dX4_finds_16 (by decide) (by omega) (fun h16_3 => ?_) (fun h16_3 => ?_)
        · skip
          refine lv_iconst (v := nI 1) hx hb dX4_finds_42 rfl ?_
          exact x_zretT (b := allN n (fun i => q_pat T Q r (a_by A i))) cx hr hlk dX4_finds_43 (by rw [show n = k by omega]; exact hall) hvv
        · skip
          refine lv_aload_n hx hb dX4_finds_19 rfl (lv_at hl 2 rfl) ?_
          refine lv_iload_n hx hb dX4_finds_20 rfl (lv_at hl 4 rfl) ?_
          refine lv_aload_n hx hb dX4_finds_21 rfl (lv_at hl 1 rfl) ?_
          refine x_get cx hk hw (ha.1) f_RX4_19_1 rfl dX4_finds_22 ?_
          refine lv_iload hx hb dX4_finds_25 (lv_at hl 0 rfl) ?_
          refine x_ialdN cx hk hw (ha.2) (by omega) (by decide) dX4_finds_27 ?_
          have q1 := hby k
          refine x_rdV (av := [.int (nI r), .int (nO (a_by A k))]) (rest := []) cx hk hw (hq.1) cv_RX4_87_5 (c_q_pat bq tb Q T hq ht hT hQ r (a_by A k) (by omega) (by omega)) hl.1 rfl rfl (Nat.le_of_ble_eq_true rfl) ⟨by decide, by decide⟩ ⟨Nat.zero_le _, Nat.zero_le _⟩ dX4_finds_28 ?_
          refine x_if_ne (tgt := 36) cx dX4_finds_31 (by decide) (fun h31_4 => ?_) (fun h31_4 => ?_)
          · skip
            refine lv_iinc (v := nI (k + 1)) (lv' := [(4, .int (nI (k + 1))), (0, .ref (lo (b))), (1, .ref (lo (bq))), (2, .int (nI n)), (3, .int (nI r))]) hx hb dX4_finds_36 hl (k := 0) rfl (nI_add _ 1) (by decide) rfl (fun ls hl => ?_)
            refine lv_goto (tgt := 3) hx hb dX4_finds_39 (by decide) ?_
            exact ih3_1 (k + 1) (by omega) (by exact allN_step hall (by assumption)) (by omega) _ (lv_sub hl [0, 1, 2, 3, 4] rfl)
          · skip
            refine lv_iconst (v := nI 0) hx hb dX4_finds_34 rfl ?_
            exact x_zretF (b := allN n (fun i => q_pat T Q r (a_by A i))) cx hr hlk dX4_finds_35 (by exact allN_no (k := k) (by omega) (by assumption)) hvv
  exact L3_1 (_ + 1) 0 (by omega) (by rfl) (Nat.lt_succ_self _) _ (lv_sub hl [0, 1, 2, 3, 4] rfl)
set_option maxHeartbeats 4000000 in
set_option maxRecDepth 100000 in
theorem c_o1_fetch {l : Launch} {G : x_G} {lo : x_L} {co : x_C} (b tb : Nat) (A : Ad) (T : Tb) (ha : isO1 G lo co b tb A) (ht : isTb G lo co tb T) (hT : Tok T) (hA : Aok T A) (hkd : A.1 0 = 4) (bq : Nat) (Q : Qn) (hq : isQn G lo co bq tb Q) (hQ : Qok T Q) : x_Rd l G lo co yX4_fetched cX4_fetched 7 (some .int) 5 [.ref (lo (b)), .ref (lo (bq))] (some (.int (nI (a_fetch T Q A)))) := by
  refine x_enter RX4 rfl (by decide) (Nat.le_of_ble_eq_true rfl) ?_
  intro pp ee ss mm bb mt cd ls cx hk hw hr hlk hl
  have hl : lv_has ls 7 [(0, .ref (lo (b))), (1, .ref (lo (bq)))] := hl
  generalize hav : ([.ref (lo (b)), .ref (lo (bq))] : List Value).toArray = av at cx ⊢
  generalize hvv : (some (.int (nI (a_fetch T Q A))) : Option Value) = vv
  have hx := cx.1
  have hb := cx.2.1
  have hown := cx.2.2.2.1
  have hts := cx.2.2.2.2
  obtain ⟨k1, k2, k3, k4, k5, k6, k7, k8, k9, k0⟩ := id hT
  obtain ⟨m1, m2, m3, m4, m5, m6, m7, m8, m9, m10, m11⟩ := id hA
  obtain ⟨j1, j2, j3, j4, j5, j6⟩ := id hQ
  have h16 := Qok.t16 hT hQ
  have hby := a_by_le hT hA
  have hu := a_uses_le Q A
  have hent : a_ent T A ≤ 16 ∧ 2 ≤ a_ent T A := by unfold a_ent; split <;> omega
  have hnO : ∀ x y : Nat, x < 2 ^ 31 → y < 2 ^ 31 → (nI x = nO y ↔ x + 1 = y) := nO_eq
  refine lv_aload_n hx hb dX4_fetched_0 rfl (lv_at hl 0 rfl) ?_
  refine lv_aload_n hx hb dX4_fetched_1 rfl (lv_at hl 1 rfl) ?_
  refine x_rdU (av := [.ref (lo (bq))]) (rest := []) cx hk hw (ha.1) cu_RX4_32_1 (c_o1_uses b tb A T ha ht hT hA hkd bq Q hq hQ) hl.1 rfl rfl (Nat.le_of_ble_eq_true rfl) ⟨by decide, by decide⟩ ⟨Nat.zero_le _, Nat.zero_le _⟩ dX4_fetched_2 ?_
  refine lv_istore_n (lv' := [(2, .int (nI (a_uses Q A))), (0, .ref (lo (b))), (1, .ref (lo (bq)))]) hx hb dX4_fetched_5 rfl hl (by decide) rfl (fun ls hl => ?_)
  refine lv_iconst (v := nI 0) hx hb dX4_fetched_6 rfl ?_
  refine lv_istore_n (lv' := [(3, .int (nI 0)), (2, .int (nI (a_uses Q A))), (0, .ref (lo (b))), (1, .ref (lo (bq)))]) hx hb dX4_fetched_7 rfl hl (by decide) rfl (fun ls hl => ?_)
  refine lv_iconst (v := nI 0) hx hb dX4_fetched_8 rfl ?_
  refine lv_istore (lv' := [(4, .int (nI 0)), (3, .int (nI 0)), (2, .int (nI (a_uses Q A))), (0, .ref (lo (b))), (1, .ref (lo (bq)))]) hx hb dX4_fetched_9 hl (by decide) rfl (fun ls hl => ?_)
  refine lv_iconst (v := (-1)) hx hb dX4_fetched_11 rfl ?_
  refine lv_istore (lv' := [(5, .int ((-1))), (4, .int (nI 0)), (3, .int (nI 0)), (2, .int (nI (a_uses Q A))), (0, .ref (lo (b))), (1, .ref (lo (bq)))]) hx hb dX4_fetched_12 hl (by decide) rfl (fun ls hl => ?_)
  refine lv_iconst (v := nI 0) hx hb dX4_fetched_14 rfl ?_
  refine lv_istore (lv' := [(6, .int (nI 0)), (5, .int ((-1))), (4, .int (nI 0)), (3, .int (nI 0)), (2, .int (nI (a_uses Q A))), (0, .ref (lo (b))), (1, .ref (lo (bq)))]) hx hb dX4_fetched_15 hl (by decide) rfl (fun ls hl => ?_)
  have L17_1 : ∀ (n_ : Nat) (f : Nat) (g : Nat) (z : Nat) (k : Nat), (k ≤ T.1 3) → (a_run T Q A k = (f, g, z)) → T.1 3 - k < n_ → ∀ (ls : Array Slot), lv_has ls 7 [(6, .int (nI k)), (5, .int (nO z)), (4, .int (nI g)), (3, .int (nI f)), (2, .int (nI (a_uses Q A))), (0, .ref (lo (b))), (1, .ref (lo (bq)))] → x_w l 5 pp ee ss mm av bb mt cd vv 17 ls [] := by
    intro n_
    induction n_ with
    | zero => intro f g z k hv hf hm_ ls hl; exact absurd hm_ (Nat.not_lt_zero _)
    | succ n_ ih17_1 =>
      intro f g z k hv hf hm_ ls hl
      have hrl := a_run_le T Q A k
      rw [hf] at hrl
      have hrl1 : f ≤ k ∧ g ≤ k ∧ z ≤ k + 1 := hrl
      have hpo : k / T.1 2 ≤ k := Nat.div_le_self _ _
      refine lv_iload hx hb dX4_fetched_17 (lv_at hl 0 rfl) ?_
      refine lv_aload_n hx hb dX4_fetched_19 rfl (lv_at hl 5 rfl) ?_
      refine x_get cx hk hw (ha.1) f_RX4_36_1 rfl dX4_fetched_20 ?_
      refine x_get cx hk hw (ht.1) f_RX4_74_8 rfl dX4_fetched_23 ?_
      refine x_icmp_ge (tgt := 93) cx dX4_fetched_26 (by decide) (by omega) (fun h26_2 => ?_) (fun h26_2 => ?_)
      · skip
        refine lv_iconst (v := nI 1) hx hb dX4_fetched_93 rfl ?_
        refine lv_iload_n hx hb dX4_fetched_94 rfl (lv_at hl 3 rfl) ?_
        refine lv_aload_n hx hb dX4_fetched_95 rfl (lv_at hl 5 rfl) ?_
        refine x_rdU (av := []) (rest := [.int (nI f), .int (nI 1)]) cx hk hw (ha.1) cu_RX4_68_1 (c_o1_ent b tb A T ha ht hT hA hkd) hl.1 rfl rfl (Nat.le_of_ble_eq_true rfl) ⟨by decide, by decide⟩ ⟨Nat.zero_le _, Nat.zero_le _⟩ dX4_fetched_96 ?_
        refine x_rdSN (av := [.int (nI f), .int (nI (a_ent T A))]) (rest := [.int (nI 1)]) cx hk hw cn_RX4_71 (c_up f (a_ent T A) (by omega) (by omega)) hl.1 rfl rfl (Nat.le_of_ble_eq_true rfl) ⟨by decide, by decide⟩ ⟨Nat.zero_le _, Nat.zero_le _⟩ dX4_fetched_99 ?_
        refine x_iaddN cx dX4_fetched_102 ?_
        refine lv_aload_n hx hb dX4_fetched_103 rfl (lv_at hl 5 rfl) ?_
        refine lv_aload_n hx hb dX4_fetched_104 rfl (lv_at hl 6 rfl) ?_
        refine x_rdU (av := [.ref (lo (bq))]) (rest := [.int (nI (1 + (s_up f (a_ent T A))))]) cx hk hw (ha.1) cu_RX4_56_1 (c_o1_must b tb A T ha ht hT hA hkd bq Q hq hQ) hl.1 rfl rfl (Nat.le_of_ble_eq_true rfl) ⟨by decide, by decide⟩ ⟨Nat.zero_le _, Nat.zero_le _⟩ dX4_fetched_105 ?_
        have J117_3 : ∀ (y3_s0 : Nat) (ey3_s0 : y3_s0 = if false = true then g else 0) (ls : Array Slot), lv_has ls 7 [(6, .int (nI k)), (5, .int (nO z)), (4, .int (nI g)), (3, .int (nI f)), (2, .int (nI (a_uses Q A))), (0, .ref (lo (b))), (1, .ref (lo (bq)))] → x_w l 5 pp ee ss mm av bb mt cd vv 117 ls [.int (nI y3_s0), .int (nI (1 + (s_up f (a_ent T A))))] := by
          intro y3_s0 ey3_s0 ls hl
          refine x_iaddN cx dX4_fetched_117 ?_
          exact x_iret cx hr hlk dX4_fetched_118 ((congrArg (fun z => some (Value.int (nI z))) (show (1 + (s_up f (a_ent T A))) + y3_s0 = a_fetch T Q A from by have ek : T.1 3 = k := (by omega); unfold a_fetch; rw [ek, hf]; simp_all [a_cov, a_ent])).trans hvv)
        refine x_if_eq (tgt := 116) cx dX4_fetched_108 (by decide) (fun h108_4 => ?_) (fun h108_4 => ?_)
        · skip
          refine lv_iconst (v := nI 0) hx hb dX4_fetched_116 rfl ?_
          exact J117_3 0 (by rw [if_neg (fun q => Bool.noConfusion (h108_4.symm.trans q))]) _ (lv_sub hl [0, 1, 2, 3, 4, 5, 6] rfl)
        · skip
          refine lv_iload hx hb dX4_fetched_111 (lv_at hl 2 rfl) ?_
          refine lv_goto (tgt := 117) hx hb dX4_fetched_113 (by decide) ?_
          exact J117_3 g (by rw [if_pos h108_4]) _ (lv_sub hl [0, 1, 2, 3, 4, 5, 6] rfl)
      · skip
        refine lv_aload_n hx hb dX4_fetched_29 rfl (lv_at hl 5 rfl) ?_
        refine lv_iload hx hb dX4_fetched_30 (lv_at hl 0 rfl) ?_
        refine x_rdU (av := [.int (nI k)]) (rest := []) cx hk hw (ha.1) cu_RX4_77_1 (c_o1_holds b tb A T ha ht hT hA hkd k) hl.1 rfl rfl (Nat.le_of_ble_eq_true rfl) ⟨by decide, by decide⟩ ⟨Nat.zero_le _, Nat.zero_le _⟩ dX4_fetched_32 ?_
        refine x_if_eq (tgt := 87) cx dX4_fetched_35 (by decide) (fun h35_5 => ?_) (fun h35_5 => ?_)
        · skip
          refine lv_iinc (v := nI (k + 1)) (lv' := [(6, .int (nI (k + 1))), (5, .int (nO z)), (4, .int (nI g)), (3, .int (nI f)), (2, .int (nI (a_uses Q A))), (0, .ref (lo (b))), (1, .ref (lo (bq)))]) hx hb dX4_fetched_87 hl (k := 0) rfl (nI_add _ 1) (by decide) rfl (fun ls hl => ?_)
          refine lv_goto (tgt := 17) hx hb dX4_fetched_90 (by decide) ?_
          exact ih17_1 f g z (k + 1) (by omega) (by rw [a_run, hf]; first | (simp_all [a_hit]; done) | (simp_all [a_hit]; intros; omega)) (by omega) _ (lv_sub hl [0, 1, 2, 3, 4, 5, 6] rfl)
        · skip
          refine lv_aload_n hx hb dX4_fetched_38 rfl (lv_at hl 5 rfl) ?_
          refine lv_aload_n hx hb dX4_fetched_39 rfl (lv_at hl 6 rfl) ?_
          refine lv_iload_n hx hb dX4_fetched_40 rfl (lv_at hl 4 rfl) ?_
          refine lv_iload hx hb dX4_fetched_41 (lv_at hl 0 rfl) ?_
          refine x_rdU (av := [.ref (lo (bq)), .int (nI (a_uses Q A)), .int (nI k)]) (rest := []) cx hk hw (ha.1) cu_RX4_80_1 (c_o1_finds b tb A T ha ht hT hA hkd bq Q hq hQ (a_uses Q A) k (by omega) (by omega)) hl.1 rfl rfl (Nat.le_of_ble_eq_true rfl) ⟨by decide, by decide⟩ ⟨Nat.zero_le _, Nat.zero_le _⟩ dX4_fetched_43 ?_
          refine x_if_eq (tgt := 87) cx dX4_fetched_46 (by decide) (fun h46_6 => ?_) (fun h46_6 => ?_)
          · skip
            refine lv_iinc (v := nI (k + 1)) (lv' := [(6, .int (nI (k + 1))), (5, .int (nO z)), (4, .int (nI g)), (3, .int (nI f)), (2, .int (nI (a_uses Q A))), (0, .ref (lo (b))), (1, .ref (lo (bq)))]) hx hb dX4_fetched_87 hl (k := 0) rfl (nI_add _ 1) (by decide) rfl (fun ls hl => ?_)
            refine lv_goto (tgt := 17) hx hb dX4_fetched_90 (by decide) ?_
            exact ih17_1 f g z (k + 1) (by omega) (by rw [a_run, hf]; first | (simp_all [a_hit]; done) | (simp_all [a_hit]; intros; omega)) (by omega) _ (lv_sub hl [0, 1, 2, 3, 4, 5, 6] rfl)
          · skip
            refine lv_iinc (v := nI (f + 1)) (lv' := [(3, .int (nI (f + 1))), (6, .int (nI k)), (5, .int (nO z)), (4, .int (nI g)), (2, .int (nI (a_uses Q A))), (0, .ref (lo (b))), (1, .ref (lo (bq)))]) hx hb dX4_fetched_49 hl (k := 3) rfl (nI_add _ 1) (by decide) rfl (fun ls hl => ?_)
            refine lv_iload hx hb dX4_fetched_52 (lv_at hl 3 rfl) ?_
            refine lv_aload_n hx hb dX4_fetched_54 rfl (lv_at hl 5 rfl) ?_
            refine x_get cx hk hw (ha.1) f_RX4_36_1 rfl dX4_fetched_55 ?_
            refine lv_iload hx hb dX4_fetched_58 (lv_at hl 1 rfl) ?_
            refine x_rdV (av := [.int (nI k)]) (rest := [.int (nI g)]) cx hk hw (ht.1) cv_RX4_84_8 (c_t_pageOf tb T ht hT k (by omega)) hl.1 rfl rfl (Nat.le_of_ble_eq_true rfl) ⟨by decide, by decide⟩ ⟨Nat.zero_le _, Nat.zero_le _⟩ dX4_fetched_60 ?_
            refine lv_iload hx hb dX4_fetched_63 (lv_at hl 2 rfl) ?_
            refine x_icmpNO_ne (tgt := 72) cx dX4_fetched_65 (by decide) (by omega) (fun h65_7 => ?_) (fun h65_7 => ?_)
            · skip
              refine lv_iconst (v := nI 1) hx hb dX4_fetched_72 rfl ?_
              refine x_iaddN cx dX4_fetched_73 ?_
              refine lv_istore (lv' := [(4, .int (nI (g + 1))), (3, .int (nI (f + 1))), (6, .int (nI k)), (5, .int (nO z)), (2, .int (nI (a_uses Q A))), (0, .ref (lo (b))), (1, .ref (lo (bq)))]) hx hb dX4_fetched_74 hl (by decide) rfl (fun ls hl => ?_)
              refine lv_aload_n hx hb dX4_fetched_76 rfl (lv_at hl 5 rfl) ?_
              refine x_get cx hk hw (ha.1) f_RX4_36_1 rfl dX4_fetched_77 ?_
              refine lv_iload hx hb dX4_fetched_80 (lv_at hl 2 rfl) ?_
              refine x_rdV (av := [.int (nI k)]) (rest := []) cx hk hw (ht.1) cv_RX4_84_8 (c_t_pageOf tb T ht hT k (by omega)) hl.1 rfl rfl (Nat.le_of_ble_eq_true rfl) ⟨by decide, by decide⟩ ⟨Nat.zero_le _, Nat.zero_le _⟩ dX4_fetched_82 ?_
              refine lv_istore (lv' := [(5, .int (nI (k / T.1 2))), (4, .int (nI (g + 1))), (3, .int (nI (f + 1))), (6, .int (nI k)), (2, .int (nI (a_uses Q A))), (0, .ref (lo (b))), (1, .ref (lo (bq)))]) hx hb dX4_fetched_85 hl (by decide) rfl (fun ls hl => ?_)
              refine lv_iinc (v := nI (k + 1)) (lv' := [(6, .int (nI (k + 1))), (5, .int (nI (k / T.1 2))), (4, .int (nI (g + 1))), (3, .int (nI (f + 1))), (2, .int (nI (a_uses Q A))), (0, .ref (lo (b))), (1, .ref (lo (bq)))]) hx hb dX4_fetched_87 hl (k := 3) rfl (nI_add _ 1) (by decide) rfl (fun ls hl => ?_)
              refine lv_goto (tgt := 17) hx hb dX4_fetched_90 (by decide) ?_
              exact ih17_1 (f + 1) (g + 1) ((k / T.1 2) + 1) (k + 1) (by omega) (by rw [a_run, hf]; first | (simp_all [a_hit]; done) | (simp_all [a_hit]; intros; omega)) (by omega) _ (lv_sub hl [0, 1, 2, 3, 4, 5, 6] rfl)
            · skip
              refine lv_iconst (v := nI 0) hx hb dX4_fetched_68 rfl ?_
              refine lv_goto (tgt := 73) hx hb dX4_fetched_69 (by decide) ?_
              refine x_iaddN cx dX4_fetched_73 ?_
              refine lv_istore (lv' := [(4, .int (nI (g + 0))), (3, .int (nI (f + 1))), (6, .int (nI k)), (5, .int (nO z)), (2, .int (nI (a_uses Q A))), (0, .ref (lo (b))), (1, .ref (lo (bq)))]) hx hb dX4_fetched_74 hl (by decide) rfl (fun ls hl => ?_)
              refine lv_aload_n hx hb dX4_fetched_76 rfl (lv_at hl 5 rfl) ?_
              refine x_get cx hk hw (ha.1) f_RX4_36_1 rfl dX4_fetched_77 ?_
              refine lv_iload hx hb dX4_fetched_80 (lv_at hl 2 rfl) ?_
              refine x_rdV (av := [.int (nI k)]) (rest := []) cx hk hw (ht.1) cv_RX4_84_8 (c_t_pageOf tb T ht hT k (by omega)) hl.1 rfl rfl (Nat.le_of_ble_eq_true rfl) ⟨by decide, by decide⟩ ⟨Nat.zero_le _, Nat.zero_le _⟩ dX4_fetched_82 ?_
              refine lv_istore (lv' := [(5, .int (nI (k / T.1 2))), (4, .int (nI (g + 0))), (3, .int (nI (f + 1))), (6, .int (nI k)), (2, .int (nI (a_uses Q A))), (0, .ref (lo (b))), (1, .ref (lo (bq)))]) hx hb dX4_fetched_85 hl (by decide) rfl (fun ls hl => ?_)
              refine lv_iinc (v := nI (k + 1)) (lv' := [(6, .int (nI (k + 1))), (5, .int (nI (k / T.1 2))), (4, .int (nI (g + 0))), (3, .int (nI (f + 1))), (2, .int (nI (a_uses Q A))), (0, .ref (lo (b))), (1, .ref (lo (bq)))]) hx hb dX4_fetched_87 hl (k := 3) rfl (nI_add _ 1) (by decide) rfl (fun ls hl => ?_)
              refine lv_goto (tgt := 17) hx hb dX4_fetched_90 (by decide) ?_
              exact ih17_1 (f + 1) (g + 0) ((k / T.1 2) + 1) (k + 1) (by omega) (by rw [a_run, hf]; first | (simp_all [a_hit]; done) | (simp_all [a_hit]; intros; omega)) (by omega) _ (lv_sub hl [0, 1, 2, 3, 4, 5, 6] rfl)
  exact L17_1 (_ + 1) 0 0 0 0 (by omega) (by rfl) (Nat.lt_succ_self _) _ (lv_sub hl [0, 1, 2, 3, 4, 5, 6] rfl)
set_option maxHeartbeats 4000000 in
set_option maxRecDepth 100000 in
theorem c_o1_space {l : Launch} {G : x_G} {lo : x_L} {co : x_C} (b tb : Nat) (A : Ad) (T : Tb) (ha : isO1 G lo co b tb A) (ht : isTb G lo co tb T) (hT : Tok T) (hA : Aok T A) (hkd : A.1 0 = 4) : x_Rd l G lo co yX1_space cX1_space 1 (some .int) 1 [.ref (lo (b))] (some (.int (nI (a_space T A)))) := by
  refine x_enter RX1 rfl (by decide) (Nat.le_of_ble_eq_true rfl) ?_
  intro pp ee ss mm bb mt cd ls cx hk hw hr hlk hl
  have hl : lv_has ls 1 [(0, .ref (lo (b)))] := hl
  generalize hav : ([.ref (lo (b))] : List Value).toArray = av at cx ⊢
  generalize hvv : (some (.int (nI (a_space T A))) : Option Value) = vv
  have hx := cx.1
  have hb := cx.2.1
  have hown := cx.2.2.2.1
  have hts := cx.2.2.2.2
  refine lv_iconst (v := nI 0) hx hb dX1_space_0 rfl ?_
  exact x_iret cx hr hlk dX1_space_1 ((congrArg (fun z => some (Value.int (nI z))) (show 0 = a_space T A from by simp [a_space, hkd])).trans hvv)
set_option maxHeartbeats 4000000 in
set_option maxRecDepth 100000 in
theorem c_o1_helps {l : Launch} {G : x_G} {lo : x_L} {co : x_C} (b tb : Nat) (A : Ad) (T : Tb) (ha : isO1 G lo co b tb A) (ht : isTb G lo co tb T) (hT : Tok T) (hA : Aok T A) (hkd : A.1 0 = 4) (bq : Nat) (Q : Qn) (hq : isQn G lo co bq tb Q) (hQ : Qok T Q) : x_Rd l G lo co yX4_helps cX4_helps 2 (some .boolean) 4 [.ref (lo (b)), .ref (lo (bq))] (some (.int (bI (a_helps Q A)))) := by
  refine x_enter RX4 rfl (by decide) (Nat.le_of_ble_eq_true rfl) ?_
  intro pp ee ss mm bb mt cd ls cx hk hw hr hlk hl
  have hl : lv_has ls 2 [(0, .ref (lo (b))), (1, .ref (lo (bq)))] := hl
  generalize hav : ([.ref (lo (b)), .ref (lo (bq))] : List Value).toArray = av at cx ⊢
  generalize hvv : (some (.int (bI (a_helps Q A))) : Option Value) = vv
  have hx := cx.1
  have hb := cx.2.1
  have hown := cx.2.2.2.1
  have hts := cx.2.2.2.2
  obtain ⟨k1, k2, k3, k4, k5, k6, k7, k8, k9, k0⟩ := id hT
  obtain ⟨m1, m2, m3, m4, m5, m6, m7, m8, m9, m10, m11⟩ := id hA
  obtain ⟨j1, j2, j3, j4, j5, j6⟩ := id hQ
  have h16 := Qok.t16 hT hQ
  have hu := a_uses_le Q A
  refine lv_aload_n hx hb dX4_helps_0 rfl (lv_at hl 0 rfl) ?_
  refine lv_aload_n hx hb dX4_helps_1 rfl (lv_at hl 1 rfl) ?_
  refine x_rdU (av := [.ref (lo (bq))]) (rest := []) cx hk hw (ha.1) cu_RX4_32_1 (c_o1_uses b tb A T ha ht hT hA hkd bq Q hq hQ) hl.1 rfl rfl (Nat.le_of_ble_eq_true rfl) ⟨by decide, by decide⟩ ⟨Nat.zero_le _, Nat.zero_le _⟩ dX4_helps_2 ?_
  refine x_ifN_le (tgt := 12) cx dX4_helps_5 (by decide) (by omega) (fun h5_1 => ?_) (fun h5_1 => ?_)
  · skip
    refine lv_iconst (v := nI 0) hx hb dX4_helps_12 rfl ?_
    exact x_zretF (b := a_helps Q A) cx hr hlk dX4_helps_13 (by rw [a_helps, if_neg (by omega), if_neg (by omega)]; simp; omega) hvv
  · skip
    refine lv_iconst (v := nI 1) hx hb dX4_helps_8 rfl ?_
    refine lv_goto (tgt := 13) hx hb dX4_helps_9 (by decide) ?_
    exact x_zretT (b := a_helps Q A) cx hr hlk dX4_helps_13 (by rw [a_helps, if_neg (by omega), if_neg (by omega)]; simp; omega) hvv
set_option maxHeartbeats 4000000 in
set_option maxRecDepth 100000 in
theorem c_o1_keep {l : Launch} {G : x_G} {lo : x_L} {co : x_C} (b tb : Nat) (A : Ad) (T : Tb) (ha : isO1 G lo co b tb A) (ht : isTb G lo co tb T) (hT : Tok T) (hA : Aok T A) (hkd : A.1 0 = 4) : x_Rd l G lo co yX1_keeping cX1_keeping 1 (some .int) 1 [.ref (lo (b))] (some (.int (nI (a_keep A)))) := by
  refine x_enter RX1 rfl (by decide) (Nat.le_of_ble_eq_true rfl) ?_
  intro pp ee ss mm bb mt cd ls cx hk hw hr hlk hl
  have hl : lv_has ls 1 [(0, .ref (lo (b)))] := hl
  generalize hav : ([.ref (lo (b))] : List Value).toArray = av at cx ⊢
  generalize hvv : (some (.int (nI (a_keep A))) : Option Value) = vv
  have hx := cx.1
  have hb := cx.2.1
  have hown := cx.2.2.2.1
  have hts := cx.2.2.2.2
  refine lv_iconst (v := nI 4) hx hb dX1_keeping_0 rfl ?_
  exact x_iret cx hr hlk dX1_keeping_1 ((congrArg (fun z => some (Value.int (nI z))) (show 4 = a_keep A from by simp [a_keep, hkd])).trans hvv)
set_option maxHeartbeats 4000000 in
set_option maxRecDepth 100000 in
theorem c_o2_uses {l : Launch} {G : x_G} {lo : x_L} {co : x_C} (b tb : Nat) (A : Ad) (T : Tb) (ha : isO2 G lo co b tb A) (ht : isTb G lo co tb T) (hT : Tok T) (hA : Aok T A) (hkd : A.1 0 = 1) (bq : Nat) (Q : Qn) (hq : isQn G lo co bq tb Q) (hQ : Qok T Q) : x_Rd l G lo co yX4_usedBy cX4_usedBy 3 (some .int) 3 [.ref (lo (b)), .ref (lo (bq))] (some (.int (nI (a_uses Q A)))) := by
  refine x_enter RX4 rfl (by decide) (Nat.le_of_ble_eq_true rfl) ?_
  intro pp ee ss mm bb mt cd ls cx hk hw hr hlk hl
  have hl : lv_has ls 3 [(0, .ref (lo (b))), (1, .ref (lo (bq)))] := hl
  generalize hav : ([.ref (lo (b)), .ref (lo (bq))] : List Value).toArray = av at cx ⊢
  generalize hvv : (some (.int (nI (a_uses Q A))) : Option Value) = vv
  have hx := cx.1
  have hb := cx.2.1
  have hown := cx.2.2.2.1
  have hts := cx.2.2.2.2
  obtain ⟨k1, k2, k3, k4, k5, k6, k7, k8, k9, k0⟩ := id hT
  obtain ⟨m1, m2, m3, m4, m5, m6, m7, m8, m9, m10, m11⟩ := id hA
  obtain ⟨j1, j2, j3, j4, j5, j6⟩ := id hQ
  have h16 := Qok.t16 hT hQ
  have hby := a_by_le hT hA
  refine lv_iconst (v := nI 0) hx hb dX4_usedBy_0 rfl ?_
  refine lv_istore_n (lv' := [(2, .int (nI 0)), (0, .ref (lo (b))), (1, .ref (lo (bq)))]) hx hb dX4_usedBy_1 rfl hl (by decide) rfl (fun ls hl => ?_)
  have L2_1 : ∀ (n_ : Nat) (k : Nat), (k ≤ 3) → (∀ j, j < k → q_like Q (a_by A j) = true) → 3 - k < n_ → ∀ (ls : Array Slot), lv_has ls 3 [(2, .int (nI k)), (0, .ref (lo (b))), (1, .ref (lo (bq)))] → x_w l 3 pp ee ss mm av bb mt cd vv 2 ls [] := by
    intro n_
    induction n_ with
    | zero => intro k hv hall hm_ ls hl; exact absurd hm_ (Nat.not_lt_zero _)
    | succ n_ ih2_1 =>
      intro k hv hall hm_ ls hl
      refine lv_iload_n hx hb dX4_usedBy_2 rfl (lv_at hl 0 rfl) ?_
      refine lv_aload_n hx hb dX4_usedBy_3 rfl (lv_at hl 1 rfl) ?_
      refine x_get cx hk hw (ha.1) f_RX4_19_2 rfl dX4_usedBy_4 ?_
      refine x_alenI cx hk hw (ha.2) dX4_usedBy_7 ?_
      refine x_icmp_ge (tgt := 30) cx dX4_usedBy_8 (by decide) (by first | omega | (have q1 := hby k; omega)) (fun h8_2 => ?_) (fun h8_2 => ?_)
      · skip
        refine lv_iload_n hx hb dX4_usedBy_30 rfl (lv_at hl 0 rfl) ?_
        refine lv_aload_n hx hb dX4_usedBy_31 rfl (lv_at hl 1 rfl) ?_
        refine x_get cx hk hw (ha.1) f_RX4_19_2 rfl dX4_usedBy_32 ?_
        refine x_alenI cx hk hw (ha.2) dX4_usedBy_35 ?_
        refine x_icmp_ge (tgt := 55) cx dX4_usedBy_36 (by decide) (by first | omega | (have q1 := hby k; omega)) (fun h36_3 => ?_) (fun h36_3 => ?_)
        · skip
          refine lv_iload_n hx hb dX4_usedBy_55 rfl (lv_at hl 0 rfl) ?_
          exact x_iret cx hr hlk dX4_usedBy_56 ((congrArg (fun z => some (Value.int (nI z))) (show k = a_uses Q A from by have e := a_lead_eq hv hall (by first | exact Or.inl (by omega) | exact Or.inr (by assumption)); unfold a_uses; rw [e]; first | (rw [if_pos ⟨by omega, by assumption⟩]) | (rw [if_neg (fun q => absurd q.1 (by omega))]) | (rw [if_neg (fun q => Bool.noConfusion (q.2.symm.trans (by assumption)))]))).trans hvv)
        · skip
          refine lv_aload_n hx hb dX4_usedBy_39 rfl (lv_at hl 2 rfl) ?_
          refine lv_aload_n hx hb dX4_usedBy_40 rfl (lv_at hl 1 rfl) ?_
          refine x_get cx hk hw (ha.1) f_RX4_19_2 rfl dX4_usedBy_41 ?_
          refine lv_iload_n hx hb dX4_usedBy_44 rfl (lv_at hl 0 rfl) ?_
          refine x_ialdN cx hk hw (ha.2) (by first | omega | (have q1 := hby k; omega)) (by decide) dX4_usedBy_45 ?_
          have q1 := hby k
          refine x_rdV (av := [.int (nO (a_by A k))]) (rest := []) cx hk hw (hq.1) cv_RX4_29_5 (c_q_tests bq tb Q T hq ht hT hQ (a_by A k) (by omega)) hl.1 rfl rfl (Nat.le_of_ble_eq_true rfl) ⟨by decide, by decide⟩ ⟨Nat.zero_le _, Nat.zero_le _⟩ dX4_usedBy_46 ?_
          refine x_if_eq (tgt := 55) cx dX4_usedBy_49 (by decide) (fun h49_4 => ?_) (fun h49_4 => ?_)
          · skip
            refine lv_iload_n hx hb dX4_usedBy_55 rfl (lv_at hl 0 rfl) ?_
            exact x_iret cx hr hlk dX4_usedBy_56 ((congrArg (fun z => some (Value.int (nI z))) (show k = a_uses Q A from by have e := a_lead_eq hv hall (by first | exact Or.inl (by omega) | exact Or.inr (by assumption)); unfold a_uses; rw [e]; first | (rw [if_pos ⟨by omega, by assumption⟩]) | (rw [if_neg (fun q => absurd q.1 (by omega))]) | (rw [if_neg (fun q => Bool.noConfusion (q.2.symm.trans (by assumption)))]))).trans hvv)
          · skip
            refine lv_iinc (v := nI (k + 1)) (lv' := [(2, .int (nI (k + 1))), (0, .ref (lo (b))), (1, .ref (lo (bq)))]) hx hb dX4_usedBy_52 hl (k := 0) rfl (nI_add _ 1) (by decide) rfl (fun ls hl => ?_)
            refine lv_iload_n hx hb dX4_usedBy_55 rfl (lv_at hl 0 rfl) ?_
            exact x_iret cx hr hlk dX4_usedBy_56 ((congrArg (fun z => some (Value.int (nI z))) (show k + 1 = a_uses Q A from by have e := a_lead_eq hv hall (by first | exact Or.inl (by omega) | exact Or.inr (by assumption)); unfold a_uses; rw [e]; first | (rw [if_pos ⟨by omega, by assumption⟩]) | (rw [if_neg (fun q => absurd q.1 (by omega))]) | (rw [if_neg (fun q => Bool.noConfusion (q.2.symm.trans (by assumption)))]))).trans hvv)
      · skip
        refine lv_aload_n hx hb dX4_usedBy_11 rfl (lv_at hl 2 rfl) ?_
        refine lv_aload_n hx hb dX4_usedBy_12 rfl (lv_at hl 1 rfl) ?_
        refine x_get cx hk hw (ha.1) f_RX4_19_2 rfl dX4_usedBy_13 ?_
        refine lv_iload_n hx hb dX4_usedBy_16 rfl (lv_at hl 0 rfl) ?_
        refine x_ialdN cx hk hw (ha.2) (by first | omega | (have q1 := hby k; omega)) (by decide) dX4_usedBy_17 ?_
        have q1 := hby k
        refine x_rdV (av := [.int (nO (a_by A k))]) (rest := []) cx hk hw (hq.1) cv_RX4_23_5 (c_q_like bq tb Q T hq ht hT hQ (a_by A k) (by omega)) hl.1 rfl rfl (Nat.le_of_ble_eq_true rfl) ⟨by decide, by decide⟩ ⟨Nat.zero_le _, Nat.zero_le _⟩ dX4_usedBy_18 ?_
        refine x_if_eq (tgt := 30) cx dX4_usedBy_21 (by decide) (fun h21_5 => ?_) (fun h21_5 => ?_)
        · skip
          refine lv_iload_n hx hb dX4_usedBy_30 rfl (lv_at hl 0 rfl) ?_
          refine lv_aload_n hx hb dX4_usedBy_31 rfl (lv_at hl 1 rfl) ?_
          refine x_get cx hk hw (ha.1) f_RX4_19_2 rfl dX4_usedBy_32 ?_
          refine x_alenI cx hk hw (ha.2) dX4_usedBy_35 ?_
          refine x_icmp_ge (tgt := 55) cx dX4_usedBy_36 (by decide) (by first | omega | (have q1 := hby k; omega)) (fun h36_6 => ?_) (fun h36_6 => ?_)
          · skip
            refine lv_iload_n hx hb dX4_usedBy_55 rfl (lv_at hl 0 rfl) ?_
            exact x_iret cx hr hlk dX4_usedBy_56 ((congrArg (fun z => some (Value.int (nI z))) (show k = a_uses Q A from by have e := a_lead_eq hv hall (by first | exact Or.inl (by omega) | exact Or.inr (by assumption)); unfold a_uses; rw [e]; first | (rw [if_pos ⟨by omega, by assumption⟩]) | (rw [if_neg (fun q => absurd q.1 (by omega))]) | (rw [if_neg (fun q => Bool.noConfusion (q.2.symm.trans (by assumption)))]))).trans hvv)
          · skip
            refine lv_aload_n hx hb dX4_usedBy_39 rfl (lv_at hl 2 rfl) ?_
            refine lv_aload_n hx hb dX4_usedBy_40 rfl (lv_at hl 1 rfl) ?_
            refine x_get cx hk hw (ha.1) f_RX4_19_2 rfl dX4_usedBy_41 ?_
            refine lv_iload_n hx hb dX4_usedBy_44 rfl (lv_at hl 0 rfl) ?_
            refine x_ialdN cx hk hw (ha.2) (by first | omega | (have q1 := hby k; omega)) (by decide) dX4_usedBy_45 ?_
            have q1 := hby k
            refine x_rdV (av := [.int (nO (a_by A k))]) (rest := []) cx hk hw (hq.1) cv_RX4_29_5 (c_q_tests bq tb Q T hq ht hT hQ (a_by A k) (by omega)) hl.1 rfl rfl (Nat.le_of_ble_eq_true rfl) ⟨by decide, by decide⟩ ⟨Nat.zero_le _, Nat.zero_le _⟩ dX4_usedBy_46 ?_
            refine x_if_eq (tgt := 55) cx dX4_usedBy_49 (by decide) (fun h49_7 => ?_) (fun h49_7 => ?_)
            · skip
              refine lv_iload_n hx hb dX4_usedBy_55 rfl (lv_at hl 0 rfl) ?_
              exact x_iret cx hr hlk dX4_usedBy_56 ((congrArg (fun z => some (Value.int (nI z))) (show k = a_uses Q A from by have e := a_lead_eq hv hall (by first | exact Or.inl (by omega) | exact Or.inr (by assumption)); unfold a_uses; rw [e]; first | (rw [if_pos ⟨by omega, by assumption⟩]) | (rw [if_neg (fun q => absurd q.1 (by omega))]) | (rw [if_neg (fun q => Bool.noConfusion (q.2.symm.trans (by assumption)))]))).trans hvv)
            · skip
              refine lv_iinc (v := nI (k + 1)) (lv' := [(2, .int (nI (k + 1))), (0, .ref (lo (b))), (1, .ref (lo (bq)))]) hx hb dX4_usedBy_52 hl (k := 0) rfl (nI_add _ 1) (by decide) rfl (fun ls hl => ?_)
              refine lv_iload_n hx hb dX4_usedBy_55 rfl (lv_at hl 0 rfl) ?_
              exact x_iret cx hr hlk dX4_usedBy_56 ((congrArg (fun z => some (Value.int (nI z))) (show k + 1 = a_uses Q A from by have e := a_lead_eq hv hall (by first | exact Or.inl (by omega) | exact Or.inr (by assumption)); unfold a_uses; rw [e]; first | (rw [if_pos ⟨by omega, by assumption⟩]) | (rw [if_neg (fun q => absurd q.1 (by omega))]) | (rw [if_neg (fun q => Bool.noConfusion (q.2.symm.trans (by assumption)))]))).trans hvv)
        · skip
          refine lv_iinc (v := nI (k + 1)) (lv' := [(2, .int (nI (k + 1))), (0, .ref (lo (b))), (1, .ref (lo (bq)))]) hx hb dX4_usedBy_24 hl (k := 0) rfl (nI_add _ 1) (by decide) rfl (fun ls hl => ?_)
          refine lv_goto (tgt := 2) hx hb dX4_usedBy_27 (by decide) ?_
          exact ih2_1 (k + 1) (by omega) (by intro j hj; rcases Nat.lt_succ_iff_lt_or_eq.mp hj with q | q; exact hall j q; rw [q]; assumption) (by omega) _ (lv_sub hl [0, 1, 2] rfl)
  exact L2_1 (_ + 1) 0 (by omega) (by exact fun j h => absurd h (Nat.not_lt_zero j)) (Nat.lt_succ_self _) _ (lv_sub hl [0, 1, 2] rfl)
set_option maxHeartbeats 4000000 in
set_option maxRecDepth 100000 in
theorem c_o2_rows {l : Launch} {G : x_G} {lo : x_L} {co : x_C} (b tb : Nat) (A : Ad) (T : Tb) (ha : isO2 G lo co b tb A) (ht : isTb G lo co tb T) (hT : Tok T) (hA : Aok T A) (hkd : A.1 0 = 1) : x_Rd l G lo co yX4_foretoldRows cX4_foretoldRows 1 (some .int) 1 [.ref (lo (b))] (some (.int (nI (a_rows T A)))) := by
  refine x_enter RX4 rfl (by decide) (Nat.le_of_ble_eq_true rfl) ?_
  intro pp ee ss mm bb mt cd ls cx hk hw hr hlk hl
  have hl : lv_has ls 1 [(0, .ref (lo (b)))] := hl
  generalize hav : ([.ref (lo (b))] : List Value).toArray = av at cx ⊢
  generalize hvv : (some (.int (nI (a_rows T A))) : Option Value) = vv
  have hx := cx.1
  have hb := cx.2.1
  have hown := cx.2.2.2.1
  have hts := cx.2.2.2.2
  obtain ⟨k1, k2, k3, k4, k5, k6, k7, k8, k9, k0⟩ := id hT
  obtain ⟨m1, m2, m3, m4, m5, m6, m7, m8, m9, m10, m11⟩ := id hA
  refine lv_aload_n hx hb dX4_foretoldRows_0 rfl (lv_at hl 0 rfl) ?_
  refine x_get cx hk hw (ha.1) f_RX4_36_2 rfl dX4_foretoldRows_1 ?_
  refine x_get cx hk hw (ht.1) f_RX4_40_8 rfl dX4_foretoldRows_4 ?_
  exact x_iret cx hr hlk dX4_foretoldRows_7 ((congrArg (fun z => some (Value.int (nI z))) (show T.1 5 = a_rows T A from by rw [a_rows, if_neg (by omega)])).trans hvv)
set_option maxHeartbeats 4000000 in
set_option maxRecDepth 100000 in
theorem c_o2_holds {l : Launch} {G : x_G} {lo : x_L} {co : x_C} (b tb : Nat) (A : Ad) (T : Tb) (ha : isO2 G lo co b tb A) (ht : isTb G lo co tb T) (hT : Tok T) (hA : Aok T A) (hkd : A.1 0 = 1) (r : Nat) : x_Rd l G lo co yX4_holds cX4_holds 2 (some .boolean) 1 [.ref (lo (b)), .int (nI r)] (some (.int (bI (true)))) := by
  refine x_enter RX4 rfl (by decide) (Nat.le_of_ble_eq_true rfl) ?_
  intro pp ee ss mm bb mt cd ls cx hk hw hr hlk hl
  have hl : lv_has ls 2 [(0, .ref (lo (b))), (1, .int (nI r))] := hl
  generalize hav : ([.ref (lo (b)), .int (nI r)] : List Value).toArray = av at cx ⊢
  generalize hvv : (some (.int (bI (true))) : Option Value) = vv
  have hx := cx.1
  have hb := cx.2.1
  have hown := cx.2.2.2.1
  have hts := cx.2.2.2.2
  refine lv_iconst (v := nI 1) hx hb dX4_holds_0 rfl ?_
  exact x_zretT (b := true) cx hr hlk dX4_holds_1 (by rfl) hvv
set_option maxHeartbeats 4000000 in
set_option maxRecDepth 100000 in
theorem c_o2_must {l : Launch} {G : x_G} {lo : x_L} {co : x_C} (b tb : Nat) (A : Ad) (T : Tb) (ha : isO2 G lo co b tb A) (ht : isTb G lo co tb T) (hT : Tok T) (hA : Aok T A) (hkd : A.1 0 = 1) (bq : Nat) (Q : Qn) (hq : isQn G lo co bq tb Q) (hQ : Qok T Q) : x_Rd l G lo co yX2_mustFetch cX2_mustFetch 2 (some .boolean) 3 [.ref (lo (b)), .ref (lo (bq))] (some (.int (bI (!a_cov Q A)))) := by
  refine x_enter RX2 rfl (by decide) (Nat.le_of_ble_eq_true rfl) ?_
  intro pp ee ss mm bb mt cd ls cx hk hw hr hlk hl
  have hl : lv_has ls 2 [(0, .ref (lo (b))), (1, .ref (lo (bq)))] := hl
  generalize hav : ([.ref (lo (b)), .ref (lo (bq))] : List Value).toArray = av at cx ⊢
  generalize hvv : (some (.int (bI (!a_cov Q A))) : Option Value) = vv
  have hx := cx.1
  have hb := cx.2.1
  have hown := cx.2.2.2.1
  have hts := cx.2.2.2.2
  obtain ⟨k1, k2, k3, k4, k5, k6, k7, k8, k9, k0⟩ := id hT
  obtain ⟨m1, m2, m3, m4, m5, m6, m7, m8, m9, m10, m11⟩ := id hA
  obtain ⟨j1, j2, j3, j4, j5, j6⟩ := id hQ
  have h16 := Qok.t16 hT hQ
  refine lv_aload_n hx hb dX2_mustFetch_0 rfl (lv_at hl 1 rfl) ?_
  refine x_rdV (av := []) (rest := []) cx hk hw (hq.1) cv_RX2_18_5 (c_q_touch bq tb Q T hq ht hT hQ) hl.1 rfl rfl (Nat.le_of_ble_eq_true rfl) ⟨by decide, by decide⟩ ⟨Nat.zero_le _, Nat.zero_le _⟩ dX2_mustFetch_1 ?_
  refine lv_aload_n hx hb dX2_mustFetch_4 rfl (lv_at hl 0 rfl) ?_
  refine x_get cx hk hw (ha.1) f_RX2_15_2 rfl dX2_mustFetch_5 ?_
  refine lv_iconst (v := (-1)) hx hb dX2_mustFetch_8 rfl ?_
  refine lv_ixor hx hb dX2_mustFetch_9 ?_
  refine lv_iand hx hb dX2_mustFetch_10 ?_
  refine lv_if_eq (tgt := 18) hx hb dX2_mustFetch_11 (by decide) (fun h11_1 => ?_) (fun h11_1 => ?_)
  · skip
    refine lv_iconst (v := nI 0) hx hb dX2_mustFetch_18 rfl ?_
    exact x_zretF (b := !a_cov Q A) cx hr hlk dX2_mustFetch_19 (by unfold a_cov; rw [decide_eq_true hkd, Bool.true_and]; first | (rw [decide_eq_true (by assumption)]; rfl) | (rw [decide_eq_false (by assumption)]; rfl)) hvv
  · skip
    refine lv_iconst (v := nI 1) hx hb dX2_mustFetch_14 rfl ?_
    refine lv_goto (tgt := 19) hx hb dX2_mustFetch_15 (by decide) ?_
    exact x_zretT (b := !a_cov Q A) cx hr hlk dX2_mustFetch_19 (by unfold a_cov; rw [decide_eq_true hkd, Bool.true_and]; first | (rw [decide_eq_true (by assumption)]; rfl) | (rw [decide_eq_false (by assumption)]; rfl)) hvv
set_option maxHeartbeats 4000000 in
set_option maxRecDepth 100000 in
theorem c_o2_ent {l : Launch} {G : x_G} {lo : x_L} {co : x_C} (b tb : Nat) (A : Ad) (T : Tb) (ha : isO2 G lo co b tb A) (ht : isTb G lo co tb T) (hT : Tok T) (hA : Aok T A) (hkd : A.1 0 = 1) : x_Rd l G lo co yX4_entriesOnPage cX4_entriesOnPage 1 (some .int) 1 [.ref (lo (b))] (some (.int (nI (a_ent T A)))) := by
  refine x_enter RX4 rfl (by decide) (Nat.le_of_ble_eq_true rfl) ?_
  intro pp ee ss mm bb mt cd ls cx hk hw hr hlk hl
  have hl : lv_has ls 1 [(0, .ref (lo (b)))] := hl
  generalize hav : ([.ref (lo (b))] : List Value).toArray = av at cx ⊢
  generalize hvv : (some (.int (nI (a_ent T A))) : Option Value) = vv
  have hx := cx.1
  have hb := cx.2.1
  have hown := cx.2.2.2.1
  have hts := cx.2.2.2.2
  obtain ⟨k1, k2, k3, k4, k5, k6, k7, k8, k9, k0⟩ := id hT
  obtain ⟨m1, m2, m3, m4, m5, m6, m7, m8, m9, m10, m11⟩ := id hA
  refine lv_iconst (v := nI 2) hx hb dX4_entriesOnPage_0 rfl ?_
  refine lv_aload_n hx hb dX4_entriesOnPage_1 rfl (lv_at hl 0 rfl) ?_
  refine x_get cx hk hw (ha.1) f_RX4_36_2 rfl dX4_entriesOnPage_2 ?_
  refine x_get cx hk hw (ht.1) f_RX4_45_8 rfl dX4_entriesOnPage_5 ?_
  refine x_imulN cx dX4_entriesOnPage_8 ?_
  exact x_iret cx hr hlk dX4_entriesOnPage_9 ((congrArg (fun z => some (Value.int (nI z))) (show 2 * (T.1 2) = a_ent T A from by simp [a_ent, hkd])).trans hvv)
set_option maxHeartbeats 4000000 in
set_option maxRecDepth 100000 in
theorem c_o2_cost {l : Launch} {G : x_G} {lo : x_L} {co : x_C} (b tb : Nat) (A : Ad) (T : Tb) (ha : isO2 G lo co b tb A) (ht : isTb G lo co tb T) (hT : Tok T) (hA : Aok T A) (hkd : A.1 0 = 1) (bq : Nat) (Q : Qn) (hq : isQn G lo co bq tb Q) (hQ : Qok T Q) : x_Rd l G lo co yX4_foretold cX4_foretold 5 (some .int) 4 [.ref (lo (b)), .ref (lo (bq))] (some (.int (nI (a_cost T Q A)))) := by
  refine x_enter RX4 rfl (by decide) (Nat.le_of_ble_eq_true rfl) ?_
  intro pp ee ss mm bb mt cd ls cx hk hw hr hlk hl
  have hl : lv_has ls 5 [(0, .ref (lo (b))), (1, .ref (lo (bq)))] := hl
  generalize hav : ([.ref (lo (b)), .ref (lo (bq))] : List Value).toArray = av at cx ⊢
  generalize hvv : (some (.int (nI (a_cost T Q A))) : Option Value) = vv
  have hx := cx.1
  have hb := cx.2.1
  have hown := cx.2.2.2.1
  have hts := cx.2.2.2.2
  obtain ⟨k1, k2, k3, k4, k5, k6, k7, k8, k9, k0⟩ := id hT
  obtain ⟨m1, m2, m3, m4, m5, m6, m7, m8, m9, m10, m11⟩ := id hA
  obtain ⟨j1, j2, j3, j4, j5, j6⟩ := id hQ
  have h16 := Qok.t16 hT hQ
  have hby := a_by_le hT hA
  have hu := a_uses_le Q A
  have hrw := a_rows_le hT hA
  have hent : a_ent T A ≤ 16 ∧ 2 ≤ a_ent T A := by unfold a_ent; split <;> omega
  have hpg := s_up_60 (n := T.1 5) (d := T.1 2) (by omega) (by omega)
  refine lv_aload_n hx hb dX4_foretold_0 rfl (lv_at hl 0 rfl) ?_
  refine x_rdU (av := []) (rest := []) cx hk hw (ha.1) cu_RX4_48_2 (c_o2_rows b tb A T ha ht hT hA hkd) hl.1 rfl rfl (Nat.le_of_ble_eq_true rfl) ⟨by decide, by decide⟩ ⟨Nat.zero_le _, Nat.zero_le _⟩ dX4_foretold_1 ?_
  refine lv_istore_n (lv' := [(2, .int (nI (a_rows T A))), (0, .ref (lo (b))), (1, .ref (lo (bq)))]) hx hb dX4_foretold_4 rfl hl (by decide) rfl (fun ls hl => ?_)
  refine lv_aload_n hx hb dX4_foretold_5 rfl (lv_at hl 1 rfl) ?_
  refine lv_aload_n hx hb dX4_foretold_6 rfl (lv_at hl 2 rfl) ?_
  refine x_rdU (av := [.ref (lo (bq))]) (rest := []) cx hk hw (ha.1) cu_RX4_32_2 (c_o2_uses b tb A T ha ht hT hA hkd bq Q hq hQ) hl.1 rfl rfl (Nat.le_of_ble_eq_true rfl) ⟨by decide, by decide⟩ ⟨Nat.zero_le _, Nat.zero_le _⟩ dX4_foretold_7 ?_
  refine lv_istore_n (lv' := [(3, .int (nI (a_uses Q A))), (2, .int (nI (a_rows T A))), (0, .ref (lo (b))), (1, .ref (lo (bq)))]) hx hb dX4_foretold_10 rfl hl (by decide) rfl (fun ls hl => ?_)
  refine lv_iconst (v := nI 0) hx hb dX4_foretold_11 rfl ?_
  refine lv_istore (lv' := [(4, .int (nI 0)), (3, .int (nI (a_uses Q A))), (2, .int (nI (a_rows T A))), (0, .ref (lo (b))), (1, .ref (lo (bq)))]) hx hb dX4_foretold_12 hl (by decide) rfl (fun ls hl => ?_)
  have L14_1 : ∀ (n_ : Nat) (f : Nat) (k : Nat), (k ≤ a_uses Q A) → (f = a_fold T Q A (a_rows T A) k) → a_uses Q A - k < n_ → ∀ (ls : Array Slot), lv_has ls 5 [(4, .int (nI k)), (3, .int (nI (a_uses Q A))), (2, .int (nI f)), (0, .ref (lo (b))), (1, .ref (lo (bq)))] → x_w l 4 pp ee ss mm av bb mt cd vv 14 ls [] := by
    intro n_
    induction n_ with
    | zero => intro f k hv hf hm_ ls hl; exact absurd hm_ (Nat.not_lt_zero _)
    | succ n_ ih14_1 =>
      intro f k hv hf hm_ ls hl
      have fb0 : f ≤ 60 := by rw [hf]; have := a_fold_le (A := A) hT hQ (a_rows T A) k; omega
      refine lv_iload hx hb dX4_foretold_14 (lv_at hl 0 rfl) ?_
      refine lv_iload_n hx hb dX4_foretold_16 rfl (lv_at hl 1 rfl) ?_
      refine x_icmp_ge (tgt := 49) cx dX4_foretold_17 (by decide) (by omega) (fun h17_2 => ?_) (fun h17_2 => ?_)
      · skip
        have fb : f ≤ 60 := by rw [hf]; have := a_fold_le (A := A) hT hQ (a_rows T A) k; omega
        refine lv_aload_n hx hb dX4_foretold_49 rfl (lv_at hl 3 rfl) ?_
        refine lv_aload_n hx hb dX4_foretold_50 rfl (lv_at hl 4 rfl) ?_
        refine x_rdU (av := [.ref (lo (bq))]) (rest := []) cx hk hw (ha.1) cu_RX4_56_2 (c_o2_must b tb A T ha ht hT hA hkd bq Q hq hQ) hl.1 rfl rfl (Nat.le_of_ble_eq_true rfl) ⟨by decide, by decide⟩ ⟨Nat.zero_le _, Nat.zero_le _⟩ dX4_foretold_51 ?_
        have J72_3 : ∀ (y3_s0 : Nat) (ey3_s0 : y3_s0 = if (!a_cov Q A) = true then (min f (s_up (T.1 5) (T.1 2))) else 0) (ls : Array Slot), lv_has ls 5 [(4, .int (nI k)), (3, .int (nI (a_uses Q A))), (2, .int (nI f)), (0, .ref (lo (b))), (1, .ref (lo (bq)))] → x_w l 4 pp ee ss mm av bb mt cd vv 72 ls [.int (nI y3_s0)] := by
          intro y3_s0 ey3_s0 ls hl
          refine lv_istore (lv' := [(4, .int (nI y3_s0)), (3, .int (nI (a_uses Q A))), (2, .int (nI f)), (0, .ref (lo (b))), (1, .ref (lo (bq)))]) hx hb dX4_foretold_72 hl (by decide) rfl (fun ls hl => ?_)
          refine lv_iconst (v := nI 1) hx hb dX4_foretold_74 rfl ?_
          refine lv_iload_n hx hb dX4_foretold_75 rfl (lv_at hl 2 rfl) ?_
          refine lv_aload_n hx hb dX4_foretold_76 rfl (lv_at hl 3 rfl) ?_
          refine x_rdU (av := []) (rest := [.int (nI f), .int (nI 1)]) cx hk hw (ha.1) cu_RX4_68_2 (c_o2_ent b tb A T ha ht hT hA hkd) hl.1 rfl rfl (Nat.le_of_ble_eq_true rfl) ⟨by decide, by decide⟩ ⟨Nat.zero_le _, Nat.zero_le _⟩ dX4_foretold_77 ?_
          refine x_rdSN (av := [.int (nI f), .int (nI (a_ent T A))]) (rest := [.int (nI 1)]) cx hk hw cn_RX4_71 (c_up f (a_ent T A) (by omega) (by omega)) hl.1 rfl rfl (Nat.le_of_ble_eq_true rfl) ⟨by decide, by decide⟩ ⟨Nat.zero_le _, Nat.zero_le _⟩ dX4_foretold_80 ?_
          refine x_iaddN cx dX4_foretold_83 ?_
          refine lv_iload hx hb dX4_foretold_84 (lv_at hl 0 rfl) ?_
          refine x_iaddN cx dX4_foretold_86 ?_
          exact x_iret cx hr hlk dX4_foretold_87 ((congrArg (fun z => some (Value.int (nI z))) (show (1 + (s_up f (a_ent T A))) + y3_s0 = a_cost T Q A from by have ek : k = a_uses Q A := (by omega); rw [ek] at hf; have hm : f = a_mat T Q A := hf; unfold a_cost; rw [← hm]; simp_all [a_cov, a_ent])).trans hvv)
        refine x_if_eq (tgt := 71) cx dX4_foretold_54 (by decide) (fun h54_4 => ?_) (fun h54_4 => ?_)
        · skip
          refine lv_iconst (v := nI 0) hx hb dX4_foretold_71 rfl ?_
          exact J72_3 0 (by rw [if_neg (fun q => Bool.noConfusion (h54_4.symm.trans q))]) _ (lv_sub hl [0, 1, 2, 3, 4] rfl)
        · skip
          refine lv_iload_n hx hb dX4_foretold_57 rfl (lv_at hl 2 rfl) ?_
          refine lv_aload_n hx hb dX4_foretold_58 rfl (lv_at hl 3 rfl) ?_
          refine x_get cx hk hw (ha.1) f_RX4_36_2 rfl dX4_foretold_59 ?_
          refine x_rdV (av := []) (rest := [.int (nI f)]) cx hk hw (ht.1) cv_RX4_60_8 (c_t_cpages tb T ht hT) hl.1 rfl rfl (Nat.le_of_ble_eq_true rfl) ⟨by decide, by decide⟩ ⟨Nat.zero_le _, Nat.zero_le _⟩ dX4_foretold_62 ?_
          refine x_mmin cx hl.1 w_694 (by omega) w_244 w_8 w_245 ⟨Nat.le_of_ble_eq_true rfl, Nat.le_of_ble_eq_true rfl⟩ ⟨Nat.zero_le _, Nat.zero_le _⟩ dX4_foretold_65 ?_
          refine lv_goto (tgt := 72) hx hb dX4_foretold_68 (by decide) ?_
          exact J72_3 (min f (s_up (T.1 5) (T.1 2))) (by rw [if_pos h54_4]) _ (lv_sub hl [0, 1, 2, 3, 4] rfl)
      · skip
        refine lv_iload hx hb dX4_foretold_20 (lv_at hl 0 rfl) ?_
        refine lv_aload_n hx hb dX4_foretold_22 rfl (lv_at hl 3 rfl) ?_
        refine x_get cx hk hw (ha.1) f_RX4_19_2 rfl dX4_foretold_23 ?_
        refine x_alenI cx hk hw (ha.2) dX4_foretold_26 ?_
        refine x_icmp_ge (tgt := 49) cx dX4_foretold_27 (by decide) (by omega) (fun h27_5 => ?_) (fun h27_5 => ?_)
        · skip
          have fb : f ≤ 60 := by rw [hf]; have := a_fold_le (A := A) hT hQ (a_rows T A) k; omega
          refine lv_aload_n hx hb dX4_foretold_49 rfl (lv_at hl 3 rfl) ?_
          refine lv_aload_n hx hb dX4_foretold_50 rfl (lv_at hl 4 rfl) ?_
          refine x_rdU (av := [.ref (lo (bq))]) (rest := []) cx hk hw (ha.1) cu_RX4_56_2 (c_o2_must b tb A T ha ht hT hA hkd bq Q hq hQ) hl.1 rfl rfl (Nat.le_of_ble_eq_true rfl) ⟨by decide, by decide⟩ ⟨Nat.zero_le _, Nat.zero_le _⟩ dX4_foretold_51 ?_
          have J72_6 : ∀ (y6_s0 : Nat) (ey6_s0 : y6_s0 = if (!a_cov Q A) = true then (min f (s_up (T.1 5) (T.1 2))) else 0) (ls : Array Slot), lv_has ls 5 [(4, .int (nI k)), (3, .int (nI (a_uses Q A))), (2, .int (nI f)), (0, .ref (lo (b))), (1, .ref (lo (bq)))] → x_w l 4 pp ee ss mm av bb mt cd vv 72 ls [.int (nI y6_s0)] := by
            intro y6_s0 ey6_s0 ls hl
            refine lv_istore (lv' := [(4, .int (nI y6_s0)), (3, .int (nI (a_uses Q A))), (2, .int (nI f)), (0, .ref (lo (b))), (1, .ref (lo (bq)))]) hx hb dX4_foretold_72 hl (by decide) rfl (fun ls hl => ?_)
            refine lv_iconst (v := nI 1) hx hb dX4_foretold_74 rfl ?_
            refine lv_iload_n hx hb dX4_foretold_75 rfl (lv_at hl 2 rfl) ?_
            refine lv_aload_n hx hb dX4_foretold_76 rfl (lv_at hl 3 rfl) ?_
            refine x_rdU (av := []) (rest := [.int (nI f), .int (nI 1)]) cx hk hw (ha.1) cu_RX4_68_2 (c_o2_ent b tb A T ha ht hT hA hkd) hl.1 rfl rfl (Nat.le_of_ble_eq_true rfl) ⟨by decide, by decide⟩ ⟨Nat.zero_le _, Nat.zero_le _⟩ dX4_foretold_77 ?_
            refine x_rdSN (av := [.int (nI f), .int (nI (a_ent T A))]) (rest := [.int (nI 1)]) cx hk hw cn_RX4_71 (c_up f (a_ent T A) (by omega) (by omega)) hl.1 rfl rfl (Nat.le_of_ble_eq_true rfl) ⟨by decide, by decide⟩ ⟨Nat.zero_le _, Nat.zero_le _⟩ dX4_foretold_80 ?_
            refine x_iaddN cx dX4_foretold_83 ?_
            refine lv_iload hx hb dX4_foretold_84 (lv_at hl 0 rfl) ?_
            refine x_iaddN cx dX4_foretold_86 ?_
            exact x_iret cx hr hlk dX4_foretold_87 ((congrArg (fun z => some (Value.int (nI z))) (show (1 + (s_up f (a_ent T A))) + y6_s0 = a_cost T Q A from by have ek : k = a_uses Q A := (by omega); rw [ek] at hf; have hm : f = a_mat T Q A := hf; unfold a_cost; rw [← hm]; simp_all [a_cov, a_ent])).trans hvv)
          refine x_if_eq (tgt := 71) cx dX4_foretold_54 (by decide) (fun h54_7 => ?_) (fun h54_7 => ?_)
          · skip
            refine lv_iconst (v := nI 0) hx hb dX4_foretold_71 rfl ?_
            exact J72_6 0 (by rw [if_neg (fun q => Bool.noConfusion (h54_7.symm.trans q))]) _ (lv_sub hl [0, 1, 2, 3, 4] rfl)
          · skip
            refine lv_iload_n hx hb dX4_foretold_57 rfl (lv_at hl 2 rfl) ?_
            refine lv_aload_n hx hb dX4_foretold_58 rfl (lv_at hl 3 rfl) ?_
            refine x_get cx hk hw (ha.1) f_RX4_36_2 rfl dX4_foretold_59 ?_
            refine x_rdV (av := []) (rest := [.int (nI f)]) cx hk hw (ht.1) cv_RX4_60_8 (c_t_cpages tb T ht hT) hl.1 rfl rfl (Nat.le_of_ble_eq_true rfl) ⟨by decide, by decide⟩ ⟨Nat.zero_le _, Nat.zero_le _⟩ dX4_foretold_62 ?_
            refine x_mmin cx hl.1 w_694 (by omega) w_244 w_8 w_245 ⟨Nat.le_of_ble_eq_true rfl, Nat.le_of_ble_eq_true rfl⟩ ⟨Nat.zero_le _, Nat.zero_le _⟩ dX4_foretold_65 ?_
            refine lv_goto (tgt := 72) hx hb dX4_foretold_68 (by decide) ?_
            exact J72_6 (min f (s_up (T.1 5) (T.1 2))) (by rw [if_pos h54_7]) _ (lv_sub hl [0, 1, 2, 3, 4] rfl)
        · skip
          refine lv_aload_n hx hb dX4_foretold_30 rfl (lv_at hl 4 rfl) ?_
          refine lv_iload_n hx hb dX4_foretold_31 rfl (lv_at hl 2 rfl) ?_
          refine lv_aload_n hx hb dX4_foretold_32 rfl (lv_at hl 3 rfl) ?_
          refine x_get cx hk hw (ha.1) f_RX4_19_2 rfl dX4_foretold_33 ?_
          refine lv_iload hx hb dX4_foretold_36 (lv_at hl 0 rfl) ?_
          refine x_ialdN cx hk hw (ha.2) (by omega) (by decide) dX4_foretold_38 ?_
          have q1 := hby k
          refine x_rdV (av := [.int (nI f), .int (nO (a_by A k))]) (rest := []) cx hk hw (hq.1) cv_RX4_52_5 (c_q_pass bq tb Q T hq ht hT hQ f (a_by A k) (by omega) (by omega)) hl.1 rfl rfl (Nat.le_of_ble_eq_true rfl) ⟨by decide, by decide⟩ ⟨Nat.zero_le _, Nat.zero_le _⟩ dX4_foretold_39 ?_
          refine lv_istore_n (lv' := [(2, .int (nI (q_pass T Q f (a_by A k)))), (4, .int (nI k)), (3, .int (nI (a_uses Q A))), (0, .ref (lo (b))), (1, .ref (lo (bq)))]) hx hb dX4_foretold_42 rfl hl (by decide) rfl (fun ls hl => ?_)
          refine lv_iinc (v := nI (k + 1)) (lv' := [(4, .int (nI (k + 1))), (2, .int (nI (q_pass T Q f (a_by A k)))), (3, .int (nI (a_uses Q A))), (0, .ref (lo (b))), (1, .ref (lo (bq)))]) hx hb dX4_foretold_43 hl (k := 1) rfl (nI_add _ 1) (by decide) rfl (fun ls hl => ?_)
          refine lv_goto (tgt := 14) hx hb dX4_foretold_46 (by decide) ?_
          exact ih14_1 (q_pass T Q f (a_by A k)) (k + 1) (by omega) (by rw [a_fold, ← hf]) (by omega) _ (lv_sub hl [0, 2, 1, 3, 4] rfl)
  exact L14_1 (_ + 1) (a_rows T A) 0 (by omega) (by rfl) (Nat.lt_succ_self _) _ (lv_sub hl [0, 1, 2, 3, 4] rfl)
set_option maxHeartbeats 4000000 in
set_option maxRecDepth 100000 in
theorem c_o2_finds {l : Launch} {G : x_G} {lo : x_L} {co : x_C} (b tb : Nat) (A : Ad) (T : Tb) (ha : isO2 G lo co b tb A) (ht : isTb G lo co tb T) (hT : Tok T) (hA : Aok T A) (hkd : A.1 0 = 1) (bq : Nat) (Q : Qn) (hq : isQn G lo co bq tb Q) (hQ : Qok T Q) (n r : Nat) (hn_ : n ≤ 3) (hr_ : r < 2 ^ 31) : x_Rd l G lo co yX4_finds cX4_finds 5 (some .boolean) 4 [.ref (lo (b)), .ref (lo (bq)), .int (nI n), .int (nI r)] (some (.int (bI (allN n (fun i => q_pat T Q r (a_by A i)))))) := by
  refine x_enter RX4 rfl (by decide) (Nat.le_of_ble_eq_true rfl) ?_
  intro pp ee ss mm bb mt cd ls cx hk hw hr hlk hl
  have hl : lv_has ls 5 [(0, .ref (lo (b))), (1, .ref (lo (bq))), (2, .int (nI n)), (3, .int (nI r))] := hl
  generalize hav : ([.ref (lo (b)), .ref (lo (bq)), .int (nI n), .int (nI r)] : List Value).toArray = av at cx ⊢
  generalize hvv : (some (.int (bI (allN n (fun i => q_pat T Q r (a_by A i))))) : Option Value) = vv
  have hx := cx.1
  have hb := cx.2.1
  have hown := cx.2.2.2.1
  have hts := cx.2.2.2.2
  obtain ⟨k1, k2, k3, k4, k5, k6, k7, k8, k9, k0⟩ := id hT
  obtain ⟨m1, m2, m3, m4, m5, m6, m7, m8, m9, m10, m11⟩ := id hA
  obtain ⟨j1, j2, j3, j4, j5, j6⟩ := id hQ
  have h16 := Qok.t16 hT hQ
  have hby := a_by_le hT hA
  refine lv_iconst (v := nI 0) hx hb dX4_finds_0 rfl ?_
  refine lv_istore (lv' := [(4, .int (nI 0)), (0, .ref (lo (b))), (1, .ref (lo (bq))), (2, .int (nI n)), (3, .int (nI r))]) hx hb dX4_finds_1 hl (by decide) rfl (fun ls hl => ?_)
  have L3_1 : ∀ (n_ : Nat) (k : Nat), (k ≤ n) → (allN k (fun i => q_pat T Q r (a_by A i)) = true) → n - k < n_ → ∀ (ls : Array Slot), lv_has ls 5 [(4, .int (nI k)), (0, .ref (lo (b))), (1, .ref (lo (bq))), (2, .int (nI n)), (3, .int (nI r))] → x_w l 4 pp ee ss mm av bb mt cd vv 3 ls [] := by
    intro n_
    induction n_ with
    | zero => intro k hv hall hm_ ls hl; exact absurd hm_ (Nat.not_lt_zero _)
    | succ n_ ih3_1 =>
      intro k hv hall hm_ ls hl
      refine lv_iload hx hb dX4_finds_3 (lv_at hl 0 rfl) ?_
      refine lv_iload_n hx hb dX4_finds_5 rfl (lv_at hl 3 rfl) ?_
      refine x_icmp_ge (tgt := 42) cx dX4_finds_6 (by decide) (by omega) (fun h6_2 => ?_) (fun h6_2 => ?_)
      · skip
        refine lv_iconst (v := nI 1) hx hb dX4_finds_42 rfl ?_
        exact x_zretT (b := allN n (fun i => q_pat T Q r (a_by A i))) cx hr hlk dX4_finds_43 (by rw [show n = k by omega]; exact hall) hvv
      · skip
        refine lv_iload hx hb dX4_finds_9 (lv_at hl 0 rfl) ?_
        refine lv_aload_n hx hb dX4_finds_11 rfl (lv_at hl 1 rfl) ?_
        refine x_get cx hk hw (ha.1) f_RX4_19_2 rfl dX4_finds_12 ?_
        refine x_alenI cx hk hw (ha.2) dX4_finds_15 ?_
        refine x_icmp_ge (tgt := 42) cx dX4_finds_16 (by decide) (by omega) (fun h16_3 => ?_) (fun h16_3 => ?_)
        · skip
          refine lv_iconst (v := nI 1) hx hb dX4_finds_42 rfl ?_
          exact x_zretT (b := allN n (fun i => q_pat T Q r (a_by A i))) cx hr hlk dX4_finds_43 (by rw [show n = k by omega]; exact hall) hvv
        · skip
          refine lv_aload_n hx hb dX4_finds_19 rfl (lv_at hl 2 rfl) ?_
          refine lv_iload_n hx hb dX4_finds_20 rfl (lv_at hl 4 rfl) ?_
          refine lv_aload_n hx hb dX4_finds_21 rfl (lv_at hl 1 rfl) ?_
          refine x_get cx hk hw (ha.1) f_RX4_19_2 rfl dX4_finds_22 ?_
          refine lv_iload hx hb dX4_finds_25 (lv_at hl 0 rfl) ?_
          refine x_ialdN cx hk hw (ha.2) (by omega) (by decide) dX4_finds_27 ?_
          have q1 := hby k
          refine x_rdV (av := [.int (nI r), .int (nO (a_by A k))]) (rest := []) cx hk hw (hq.1) cv_RX4_87_5 (c_q_pat bq tb Q T hq ht hT hQ r (a_by A k) (by omega) (by omega)) hl.1 rfl rfl (Nat.le_of_ble_eq_true rfl) ⟨by decide, by decide⟩ ⟨Nat.zero_le _, Nat.zero_le _⟩ dX4_finds_28 ?_
          refine x_if_ne (tgt := 36) cx dX4_finds_31 (by decide) (fun h31_4 => ?_) (fun h31_4 => ?_)
          · skip
            refine lv_iinc (v := nI (k + 1)) (lv' := [(4, .int (nI (k + 1))), (0, .ref (lo (b))), (1, .ref (lo (bq))), (2, .int (nI n)), (3, .int (nI r))]) hx hb dX4_finds_36 hl (k := 0) rfl (nI_add _ 1) (by decide) rfl (fun ls hl => ?_)
            refine lv_goto (tgt := 3) hx hb dX4_finds_39 (by decide) ?_
            exact ih3_1 (k + 1) (by omega) (by exact allN_step hall (by assumption)) (by omega) _ (lv_sub hl [0, 1, 2, 3, 4] rfl)
          · skip
            refine lv_iconst (v := nI 0) hx hb dX4_finds_34 rfl ?_
            exact x_zretF (b := allN n (fun i => q_pat T Q r (a_by A i))) cx hr hlk dX4_finds_35 (by exact allN_no (k := k) (by omega) (by assumption)) hvv
  exact L3_1 (_ + 1) 0 (by omega) (by rfl) (Nat.lt_succ_self _) _ (lv_sub hl [0, 1, 2, 3, 4] rfl)
set_option maxHeartbeats 4000000 in
set_option maxRecDepth 100000 in
theorem c_o2_fetch {l : Launch} {G : x_G} {lo : x_L} {co : x_C} (b tb : Nat) (A : Ad) (T : Tb) (ha : isO2 G lo co b tb A) (ht : isTb G lo co tb T) (hT : Tok T) (hA : Aok T A) (hkd : A.1 0 = 1) (bq : Nat) (Q : Qn) (hq : isQn G lo co bq tb Q) (hQ : Qok T Q) : x_Rd l G lo co yX4_fetched cX4_fetched 7 (some .int) 5 [.ref (lo (b)), .ref (lo (bq))] (some (.int (nI (a_fetch T Q A)))) := by
  refine x_enter RX4 rfl (by decide) (Nat.le_of_ble_eq_true rfl) ?_
  intro pp ee ss mm bb mt cd ls cx hk hw hr hlk hl
  have hl : lv_has ls 7 [(0, .ref (lo (b))), (1, .ref (lo (bq)))] := hl
  generalize hav : ([.ref (lo (b)), .ref (lo (bq))] : List Value).toArray = av at cx ⊢
  generalize hvv : (some (.int (nI (a_fetch T Q A))) : Option Value) = vv
  have hx := cx.1
  have hb := cx.2.1
  have hown := cx.2.2.2.1
  have hts := cx.2.2.2.2
  obtain ⟨k1, k2, k3, k4, k5, k6, k7, k8, k9, k0⟩ := id hT
  obtain ⟨m1, m2, m3, m4, m5, m6, m7, m8, m9, m10, m11⟩ := id hA
  obtain ⟨j1, j2, j3, j4, j5, j6⟩ := id hQ
  have h16 := Qok.t16 hT hQ
  have hby := a_by_le hT hA
  have hu := a_uses_le Q A
  have hent : a_ent T A ≤ 16 ∧ 2 ≤ a_ent T A := by unfold a_ent; split <;> omega
  have hnO : ∀ x y : Nat, x < 2 ^ 31 → y < 2 ^ 31 → (nI x = nO y ↔ x + 1 = y) := nO_eq
  refine lv_aload_n hx hb dX4_fetched_0 rfl (lv_at hl 0 rfl) ?_
  refine lv_aload_n hx hb dX4_fetched_1 rfl (lv_at hl 1 rfl) ?_
  refine x_rdU (av := [.ref (lo (bq))]) (rest := []) cx hk hw (ha.1) cu_RX4_32_2 (c_o2_uses b tb A T ha ht hT hA hkd bq Q hq hQ) hl.1 rfl rfl (Nat.le_of_ble_eq_true rfl) ⟨by decide, by decide⟩ ⟨Nat.zero_le _, Nat.zero_le _⟩ dX4_fetched_2 ?_
  refine lv_istore_n (lv' := [(2, .int (nI (a_uses Q A))), (0, .ref (lo (b))), (1, .ref (lo (bq)))]) hx hb dX4_fetched_5 rfl hl (by decide) rfl (fun ls hl => ?_)
  refine lv_iconst (v := nI 0) hx hb dX4_fetched_6 rfl ?_
  refine lv_istore_n (lv' := [(3, .int (nI 0)), (2, .int (nI (a_uses Q A))), (0, .ref (lo (b))), (1, .ref (lo (bq)))]) hx hb dX4_fetched_7 rfl hl (by decide) rfl (fun ls hl => ?_)
  refine lv_iconst (v := nI 0) hx hb dX4_fetched_8 rfl ?_
  refine lv_istore (lv' := [(4, .int (nI 0)), (3, .int (nI 0)), (2, .int (nI (a_uses Q A))), (0, .ref (lo (b))), (1, .ref (lo (bq)))]) hx hb dX4_fetched_9 hl (by decide) rfl (fun ls hl => ?_)
  refine lv_iconst (v := (-1)) hx hb dX4_fetched_11 rfl ?_
  refine lv_istore (lv' := [(5, .int ((-1))), (4, .int (nI 0)), (3, .int (nI 0)), (2, .int (nI (a_uses Q A))), (0, .ref (lo (b))), (1, .ref (lo (bq)))]) hx hb dX4_fetched_12 hl (by decide) rfl (fun ls hl => ?_)
  refine lv_iconst (v := nI 0) hx hb dX4_fetched_14 rfl ?_
  refine lv_istore (lv' := [(6, .int (nI 0)), (5, .int ((-1))), (4, .int (nI 0)), (3, .int (nI 0)), (2, .int (nI (a_uses Q A))), (0, .ref (lo (b))), (1, .ref (lo (bq)))]) hx hb dX4_fetched_15 hl (by decide) rfl (fun ls hl => ?_)
  have L17_1 : ∀ (n_ : Nat) (f : Nat) (g : Nat) (z : Nat) (k : Nat), (k ≤ T.1 3) → (a_run T Q A k = (f, g, z)) → T.1 3 - k < n_ → ∀ (ls : Array Slot), lv_has ls 7 [(6, .int (nI k)), (5, .int (nO z)), (4, .int (nI g)), (3, .int (nI f)), (2, .int (nI (a_uses Q A))), (0, .ref (lo (b))), (1, .ref (lo (bq)))] → x_w l 5 pp ee ss mm av bb mt cd vv 17 ls [] := by
    intro n_
    induction n_ with
    | zero => intro f g z k hv hf hm_ ls hl; exact absurd hm_ (Nat.not_lt_zero _)
    | succ n_ ih17_1 =>
      intro f g z k hv hf hm_ ls hl
      have hrl := a_run_le T Q A k
      rw [hf] at hrl
      have hrl1 : f ≤ k ∧ g ≤ k ∧ z ≤ k + 1 := hrl
      have hpo : k / T.1 2 ≤ k := Nat.div_le_self _ _
      refine lv_iload hx hb dX4_fetched_17 (lv_at hl 0 rfl) ?_
      refine lv_aload_n hx hb dX4_fetched_19 rfl (lv_at hl 5 rfl) ?_
      refine x_get cx hk hw (ha.1) f_RX4_36_2 rfl dX4_fetched_20 ?_
      refine x_get cx hk hw (ht.1) f_RX4_74_8 rfl dX4_fetched_23 ?_
      refine x_icmp_ge (tgt := 93) cx dX4_fetched_26 (by decide) (by omega) (fun h26_2 => ?_) (fun h26_2 => ?_)
      · skip
        refine lv_iconst (v := nI 1) hx hb dX4_fetched_93 rfl ?_
        refine lv_iload_n hx hb dX4_fetched_94 rfl (lv_at hl 3 rfl) ?_
        refine lv_aload_n hx hb dX4_fetched_95 rfl (lv_at hl 5 rfl) ?_
        refine x_rdU (av := []) (rest := [.int (nI f), .int (nI 1)]) cx hk hw (ha.1) cu_RX4_68_2 (c_o2_ent b tb A T ha ht hT hA hkd) hl.1 rfl rfl (Nat.le_of_ble_eq_true rfl) ⟨by decide, by decide⟩ ⟨Nat.zero_le _, Nat.zero_le _⟩ dX4_fetched_96 ?_
        refine x_rdSN (av := [.int (nI f), .int (nI (a_ent T A))]) (rest := [.int (nI 1)]) cx hk hw cn_RX4_71 (c_up f (a_ent T A) (by omega) (by omega)) hl.1 rfl rfl (Nat.le_of_ble_eq_true rfl) ⟨by decide, by decide⟩ ⟨Nat.zero_le _, Nat.zero_le _⟩ dX4_fetched_99 ?_
        refine x_iaddN cx dX4_fetched_102 ?_
        refine lv_aload_n hx hb dX4_fetched_103 rfl (lv_at hl 5 rfl) ?_
        refine lv_aload_n hx hb dX4_fetched_104 rfl (lv_at hl 6 rfl) ?_
        refine x_rdU (av := [.ref (lo (bq))]) (rest := [.int (nI (1 + (s_up f (a_ent T A))))]) cx hk hw (ha.1) cu_RX4_56_2 (c_o2_must b tb A T ha ht hT hA hkd bq Q hq hQ) hl.1 rfl rfl (Nat.le_of_ble_eq_true rfl) ⟨by decide, by decide⟩ ⟨Nat.zero_le _, Nat.zero_le _⟩ dX4_fetched_105 ?_
        have J117_3 : ∀ (y3_s0 : Nat) (ey3_s0 : y3_s0 = if (!a_cov Q A) = true then g else 0) (ls : Array Slot), lv_has ls 7 [(6, .int (nI k)), (5, .int (nO z)), (4, .int (nI g)), (3, .int (nI f)), (2, .int (nI (a_uses Q A))), (0, .ref (lo (b))), (1, .ref (lo (bq)))] → x_w l 5 pp ee ss mm av bb mt cd vv 117 ls [.int (nI y3_s0), .int (nI (1 + (s_up f (a_ent T A))))] := by
          intro y3_s0 ey3_s0 ls hl
          refine x_iaddN cx dX4_fetched_117 ?_
          exact x_iret cx hr hlk dX4_fetched_118 ((congrArg (fun z => some (Value.int (nI z))) (show (1 + (s_up f (a_ent T A))) + y3_s0 = a_fetch T Q A from by have ek : T.1 3 = k := (by omega); unfold a_fetch; rw [ek, hf]; simp_all [a_cov, a_ent])).trans hvv)
        refine x_if_eq (tgt := 116) cx dX4_fetched_108 (by decide) (fun h108_4 => ?_) (fun h108_4 => ?_)
        · skip
          refine lv_iconst (v := nI 0) hx hb dX4_fetched_116 rfl ?_
          exact J117_3 0 (by rw [if_neg (fun q => Bool.noConfusion (h108_4.symm.trans q))]) _ (lv_sub hl [0, 1, 2, 3, 4, 5, 6] rfl)
        · skip
          refine lv_iload hx hb dX4_fetched_111 (lv_at hl 2 rfl) ?_
          refine lv_goto (tgt := 117) hx hb dX4_fetched_113 (by decide) ?_
          exact J117_3 g (by rw [if_pos h108_4]) _ (lv_sub hl [0, 1, 2, 3, 4, 5, 6] rfl)
      · skip
        refine lv_aload_n hx hb dX4_fetched_29 rfl (lv_at hl 5 rfl) ?_
        refine lv_iload hx hb dX4_fetched_30 (lv_at hl 0 rfl) ?_
        refine x_rdU (av := [.int (nI k)]) (rest := []) cx hk hw (ha.1) cu_RX4_77_2 (c_o2_holds b tb A T ha ht hT hA hkd k) hl.1 rfl rfl (Nat.le_of_ble_eq_true rfl) ⟨by decide, by decide⟩ ⟨Nat.zero_le _, Nat.zero_le _⟩ dX4_fetched_32 ?_
        refine x_if_eq (tgt := 87) cx dX4_fetched_35 (by decide) (fun h35_5 => ?_) (fun h35_5 => ?_)
        · skip
          refine lv_iinc (v := nI (k + 1)) (lv' := [(6, .int (nI (k + 1))), (5, .int (nO z)), (4, .int (nI g)), (3, .int (nI f)), (2, .int (nI (a_uses Q A))), (0, .ref (lo (b))), (1, .ref (lo (bq)))]) hx hb dX4_fetched_87 hl (k := 0) rfl (nI_add _ 1) (by decide) rfl (fun ls hl => ?_)
          refine lv_goto (tgt := 17) hx hb dX4_fetched_90 (by decide) ?_
          exact ih17_1 f g z (k + 1) (by omega) (by rw [a_run, hf]; first | (simp_all [a_hit]; done) | (simp_all [a_hit]; intros; omega)) (by omega) _ (lv_sub hl [0, 1, 2, 3, 4, 5, 6] rfl)
        · skip
          refine lv_aload_n hx hb dX4_fetched_38 rfl (lv_at hl 5 rfl) ?_
          refine lv_aload_n hx hb dX4_fetched_39 rfl (lv_at hl 6 rfl) ?_
          refine lv_iload_n hx hb dX4_fetched_40 rfl (lv_at hl 4 rfl) ?_
          refine lv_iload hx hb dX4_fetched_41 (lv_at hl 0 rfl) ?_
          refine x_rdU (av := [.ref (lo (bq)), .int (nI (a_uses Q A)), .int (nI k)]) (rest := []) cx hk hw (ha.1) cu_RX4_80_2 (c_o2_finds b tb A T ha ht hT hA hkd bq Q hq hQ (a_uses Q A) k (by omega) (by omega)) hl.1 rfl rfl (Nat.le_of_ble_eq_true rfl) ⟨by decide, by decide⟩ ⟨Nat.zero_le _, Nat.zero_le _⟩ dX4_fetched_43 ?_
          refine x_if_eq (tgt := 87) cx dX4_fetched_46 (by decide) (fun h46_6 => ?_) (fun h46_6 => ?_)
          · skip
            refine lv_iinc (v := nI (k + 1)) (lv' := [(6, .int (nI (k + 1))), (5, .int (nO z)), (4, .int (nI g)), (3, .int (nI f)), (2, .int (nI (a_uses Q A))), (0, .ref (lo (b))), (1, .ref (lo (bq)))]) hx hb dX4_fetched_87 hl (k := 0) rfl (nI_add _ 1) (by decide) rfl (fun ls hl => ?_)
            refine lv_goto (tgt := 17) hx hb dX4_fetched_90 (by decide) ?_
            exact ih17_1 f g z (k + 1) (by omega) (by rw [a_run, hf]; first | (simp_all [a_hit]; done) | (simp_all [a_hit]; intros; omega)) (by omega) _ (lv_sub hl [0, 1, 2, 3, 4, 5, 6] rfl)
          · skip
            refine lv_iinc (v := nI (f + 1)) (lv' := [(3, .int (nI (f + 1))), (6, .int (nI k)), (5, .int (nO z)), (4, .int (nI g)), (2, .int (nI (a_uses Q A))), (0, .ref (lo (b))), (1, .ref (lo (bq)))]) hx hb dX4_fetched_49 hl (k := 3) rfl (nI_add _ 1) (by decide) rfl (fun ls hl => ?_)
            refine lv_iload hx hb dX4_fetched_52 (lv_at hl 3 rfl) ?_
            refine lv_aload_n hx hb dX4_fetched_54 rfl (lv_at hl 5 rfl) ?_
            refine x_get cx hk hw (ha.1) f_RX4_36_2 rfl dX4_fetched_55 ?_
            refine lv_iload hx hb dX4_fetched_58 (lv_at hl 1 rfl) ?_
            refine x_rdV (av := [.int (nI k)]) (rest := [.int (nI g)]) cx hk hw (ht.1) cv_RX4_84_8 (c_t_pageOf tb T ht hT k (by omega)) hl.1 rfl rfl (Nat.le_of_ble_eq_true rfl) ⟨by decide, by decide⟩ ⟨Nat.zero_le _, Nat.zero_le _⟩ dX4_fetched_60 ?_
            refine lv_iload hx hb dX4_fetched_63 (lv_at hl 2 rfl) ?_
            refine x_icmpNO_ne (tgt := 72) cx dX4_fetched_65 (by decide) (by omega) (fun h65_7 => ?_) (fun h65_7 => ?_)
            · skip
              refine lv_iconst (v := nI 1) hx hb dX4_fetched_72 rfl ?_
              refine x_iaddN cx dX4_fetched_73 ?_
              refine lv_istore (lv' := [(4, .int (nI (g + 1))), (3, .int (nI (f + 1))), (6, .int (nI k)), (5, .int (nO z)), (2, .int (nI (a_uses Q A))), (0, .ref (lo (b))), (1, .ref (lo (bq)))]) hx hb dX4_fetched_74 hl (by decide) rfl (fun ls hl => ?_)
              refine lv_aload_n hx hb dX4_fetched_76 rfl (lv_at hl 5 rfl) ?_
              refine x_get cx hk hw (ha.1) f_RX4_36_2 rfl dX4_fetched_77 ?_
              refine lv_iload hx hb dX4_fetched_80 (lv_at hl 2 rfl) ?_
              refine x_rdV (av := [.int (nI k)]) (rest := []) cx hk hw (ht.1) cv_RX4_84_8 (c_t_pageOf tb T ht hT k (by omega)) hl.1 rfl rfl (Nat.le_of_ble_eq_true rfl) ⟨by decide, by decide⟩ ⟨Nat.zero_le _, Nat.zero_le _⟩ dX4_fetched_82 ?_
              refine lv_istore (lv' := [(5, .int (nI (k / T.1 2))), (4, .int (nI (g + 1))), (3, .int (nI (f + 1))), (6, .int (nI k)), (2, .int (nI (a_uses Q A))), (0, .ref (lo (b))), (1, .ref (lo (bq)))]) hx hb dX4_fetched_85 hl (by decide) rfl (fun ls hl => ?_)
              refine lv_iinc (v := nI (k + 1)) (lv' := [(6, .int (nI (k + 1))), (5, .int (nI (k / T.1 2))), (4, .int (nI (g + 1))), (3, .int (nI (f + 1))), (2, .int (nI (a_uses Q A))), (0, .ref (lo (b))), (1, .ref (lo (bq)))]) hx hb dX4_fetched_87 hl (k := 3) rfl (nI_add _ 1) (by decide) rfl (fun ls hl => ?_)
              refine lv_goto (tgt := 17) hx hb dX4_fetched_90 (by decide) ?_
              exact ih17_1 (f + 1) (g + 1) ((k / T.1 2) + 1) (k + 1) (by omega) (by rw [a_run, hf]; first | (simp_all [a_hit]; done) | (simp_all [a_hit]; intros; omega)) (by omega) _ (lv_sub hl [0, 1, 2, 3, 4, 5, 6] rfl)
            · skip
              refine lv_iconst (v := nI 0) hx hb dX4_fetched_68 rfl ?_
              refine lv_goto (tgt := 73) hx hb dX4_fetched_69 (by decide) ?_
              refine x_iaddN cx dX4_fetched_73 ?_
              refine lv_istore (lv' := [(4, .int (nI (g + 0))), (3, .int (nI (f + 1))), (6, .int (nI k)), (5, .int (nO z)), (2, .int (nI (a_uses Q A))), (0, .ref (lo (b))), (1, .ref (lo (bq)))]) hx hb dX4_fetched_74 hl (by decide) rfl (fun ls hl => ?_)
              refine lv_aload_n hx hb dX4_fetched_76 rfl (lv_at hl 5 rfl) ?_
              refine x_get cx hk hw (ha.1) f_RX4_36_2 rfl dX4_fetched_77 ?_
              refine lv_iload hx hb dX4_fetched_80 (lv_at hl 2 rfl) ?_
              refine x_rdV (av := [.int (nI k)]) (rest := []) cx hk hw (ht.1) cv_RX4_84_8 (c_t_pageOf tb T ht hT k (by omega)) hl.1 rfl rfl (Nat.le_of_ble_eq_true rfl) ⟨by decide, by decide⟩ ⟨Nat.zero_le _, Nat.zero_le _⟩ dX4_fetched_82 ?_
              refine lv_istore (lv' := [(5, .int (nI (k / T.1 2))), (4, .int (nI (g + 0))), (3, .int (nI (f + 1))), (6, .int (nI k)), (2, .int (nI (a_uses Q A))), (0, .ref (lo (b))), (1, .ref (lo (bq)))]) hx hb dX4_fetched_85 hl (by decide) rfl (fun ls hl => ?_)
              refine lv_iinc (v := nI (k + 1)) (lv' := [(6, .int (nI (k + 1))), (5, .int (nI (k / T.1 2))), (4, .int (nI (g + 0))), (3, .int (nI (f + 1))), (2, .int (nI (a_uses Q A))), (0, .ref (lo (b))), (1, .ref (lo (bq)))]) hx hb dX4_fetched_87 hl (k := 3) rfl (nI_add _ 1) (by decide) rfl (fun ls hl => ?_)
              refine lv_goto (tgt := 17) hx hb dX4_fetched_90 (by decide) ?_
              exact ih17_1 (f + 1) (g + 0) ((k / T.1 2) + 1) (k + 1) (by omega) (by rw [a_run, hf]; first | (simp_all [a_hit]; done) | (simp_all [a_hit]; intros; omega)) (by omega) _ (lv_sub hl [0, 1, 2, 3, 4, 5, 6] rfl)
  exact L17_1 (_ + 1) 0 0 0 0 (by omega) (by rfl) (Nat.lt_succ_self _) _ (lv_sub hl [0, 1, 2, 3, 4, 5, 6] rfl)
set_option maxHeartbeats 4000000 in
set_option maxRecDepth 100000 in
theorem c_o2_space {l : Launch} {G : x_G} {lo : x_L} {co : x_C} (b tb : Nat) (A : Ad) (T : Tb) (ha : isO2 G lo co b tb A) (ht : isTb G lo co tb T) (hT : Tok T) (hA : Aok T A) (hkd : A.1 0 = 1) : x_Rd l G lo co yX2_space cX2_space 2 (some .int) 2 [.ref (lo (b))] (some (.int (nI (a_space T A)))) := by
  refine x_enter RX2 rfl (by decide) (Nat.le_of_ble_eq_true rfl) ?_
  intro pp ee ss mm bb mt cd ls cx hk hw hr hlk hl
  have hl : lv_has ls 2 [(0, .ref (lo (b)))] := hl
  generalize hav : ([.ref (lo (b))] : List Value).toArray = av at cx ⊢
  generalize hvv : (some (.int (nI (a_space T A))) : Option Value) = vv
  have hx := cx.1
  have hb := cx.2.1
  have hown := cx.2.2.2.1
  have hts := cx.2.2.2.2
  obtain ⟨k1, k2, k3, k4, k5, k6, k7, k8, k9, k0⟩ := id hT
  obtain ⟨m1, m2, m3, m4, m5, m6, m7, m8, m9, m10, m11⟩ := id hA
  obtain ⟨x, x1, x2, x3⟩ := m10 hkd
  have hpx := pop_le x
  refine lv_aload_n hx hb dX2_space_0 rfl (lv_at hl 0 rfl) ?_
  refine x_get cx hk hw (ha.1) f_RX2_15_2 rfl dX2_space_1 ?_
  refine lv_aload_n hx hb dX2_space_4 rfl (lv_at hl 0 rfl) ?_
  refine x_get cx hk hw (ha.1) f_RX2_9_2 rfl dX2_space_5 ?_
  refine lv_iconst (v := (-1)) hx hb dX2_space_8 rfl ?_
  refine lv_ixor hx hb dX2_space_9 ?_
  refine lv_iand hx hb dX2_space_10 ?_
  rw [x2]
  refine x_rdS (av := [.int (nI x)]) (rest := []) cx hk hw cs_RX2_24 (c_bitCount x (by omega)) hl.1 rfl rfl (Nat.le_of_ble_eq_true rfl) ⟨by decide, by decide⟩ ⟨Nat.zero_le _, Nat.zero_le _⟩ dX2_space_11 ?_
  refine lv_istore_n (lv' := [(1, .int (nI (pop x))), (0, .ref (lo (b)))]) hx hb dX2_space_14 rfl hl (by decide) rfl (fun ls hl => ?_)
  refine lv_aload_n hx hb dX2_space_15 rfl (lv_at hl 1 rfl) ?_
  refine x_get cx hk hw (ha.1) f_RX2_30_2 rfl dX2_space_16 ?_
  refine x_get cx hk hw (ht.1) f_RX2_34_8 rfl dX2_space_19 ?_
  refine lv_iconst (v := nI 1) hx hb dX2_space_22 rfl ?_
  refine lv_iload_n hx hb dX2_space_23 rfl (lv_at hl 0 rfl) ?_
  refine x_iaddN cx dX2_space_24 ?_
  refine x_imulN cx dX2_space_25 ?_
  refine lv_iconst (v := nI 2) hx hb dX2_space_26 rfl ?_
  refine lv_aload_n hx hb dX2_space_27 rfl (lv_at hl 1 rfl) ?_
  refine x_get cx hk hw (ha.1) f_RX2_30_2 rfl dX2_space_28 ?_
  refine x_get cx hk hw (ht.1) f_RX2_39_8 rfl dX2_space_31 ?_
  refine x_imulN cx dX2_space_34 ?_
  have hmul : T.1 5 * (1 + pop x) ≤ 60 * 13 := Nat.mul_le_mul (by omega) (by omega)
  refine x_rdSN (av := [.int (nI ((T.1 5) * (1 + (pop x)))), .int (nI (2 * (T.1 2)))]) (rest := []) cx hk hw cn_RX2_42 (c_up ((T.1 5) * (1 + (pop x))) (2 * (T.1 2)) (by omega) (by omega)) hl.1 rfl rfl (Nat.le_of_ble_eq_true rfl) ⟨by decide, by decide⟩ ⟨Nat.zero_le _, Nat.zero_le _⟩ dX2_space_35 ?_
  exact x_iret cx hr hlk dX2_space_38 ((congrArg (fun z => some (Value.int (nI z))) (show s_up ((T.1 5) * (1 + (pop x))) (2 * (T.1 2)) = a_space T A from by rw [a_space, if_pos hkd, show 1 + pop (A.1 2) - A.1 1 = 1 + pop x by omega])).trans hvv)
set_option maxHeartbeats 4000000 in
set_option maxRecDepth 100000 in
theorem c_o2_helps {l : Launch} {G : x_G} {lo : x_L} {co : x_C} (b tb : Nat) (A : Ad) (T : Tb) (ha : isO2 G lo co b tb A) (ht : isTb G lo co tb T) (hT : Tok T) (hA : Aok T A) (hkd : A.1 0 = 1) (bq : Nat) (Q : Qn) (hq : isQn G lo co bq tb Q) (hQ : Qok T Q) : x_Rd l G lo co yX4_helps cX4_helps 2 (some .boolean) 4 [.ref (lo (b)), .ref (lo (bq))] (some (.int (bI (a_helps Q A)))) := by
  refine x_enter RX4 rfl (by decide) (Nat.le_of_ble_eq_true rfl) ?_
  intro pp ee ss mm bb mt cd ls cx hk hw hr hlk hl
  have hl : lv_has ls 2 [(0, .ref (lo (b))), (1, .ref (lo (bq)))] := hl
  generalize hav : ([.ref (lo (b)), .ref (lo (bq))] : List Value).toArray = av at cx ⊢
  generalize hvv : (some (.int (bI (a_helps Q A))) : Option Value) = vv
  have hx := cx.1
  have hb := cx.2.1
  have hown := cx.2.2.2.1
  have hts := cx.2.2.2.2
  obtain ⟨k1, k2, k3, k4, k5, k6, k7, k8, k9, k0⟩ := id hT
  obtain ⟨m1, m2, m3, m4, m5, m6, m7, m8, m9, m10, m11⟩ := id hA
  obtain ⟨j1, j2, j3, j4, j5, j6⟩ := id hQ
  have h16 := Qok.t16 hT hQ
  have hu := a_uses_le Q A
  refine lv_aload_n hx hb dX4_helps_0 rfl (lv_at hl 0 rfl) ?_
  refine lv_aload_n hx hb dX4_helps_1 rfl (lv_at hl 1 rfl) ?_
  refine x_rdU (av := [.ref (lo (bq))]) (rest := []) cx hk hw (ha.1) cu_RX4_32_2 (c_o2_uses b tb A T ha ht hT hA hkd bq Q hq hQ) hl.1 rfl rfl (Nat.le_of_ble_eq_true rfl) ⟨by decide, by decide⟩ ⟨Nat.zero_le _, Nat.zero_le _⟩ dX4_helps_2 ?_
  refine x_ifN_le (tgt := 12) cx dX4_helps_5 (by decide) (by omega) (fun h5_1 => ?_) (fun h5_1 => ?_)
  · skip
    refine lv_iconst (v := nI 0) hx hb dX4_helps_12 rfl ?_
    exact x_zretF (b := a_helps Q A) cx hr hlk dX4_helps_13 (by rw [a_helps, if_neg (by omega), if_neg (by omega)]; simp; omega) hvv
  · skip
    refine lv_iconst (v := nI 1) hx hb dX4_helps_8 rfl ?_
    refine lv_goto (tgt := 13) hx hb dX4_helps_9 (by decide) ?_
    exact x_zretT (b := a_helps Q A) cx hr hlk dX4_helps_13 (by rw [a_helps, if_neg (by omega), if_neg (by omega)]; simp; omega) hvv
set_option maxHeartbeats 4000000 in
set_option maxRecDepth 100000 in
theorem c_o2_keep {l : Launch} {G : x_G} {lo : x_L} {co : x_C} (b tb : Nat) (A : Ad) (T : Tb) (ha : isO2 G lo co b tb A) (ht : isTb G lo co tb T) (hT : Tok T) (hA : Aok T A) (hkd : A.1 0 = 1) : x_Rd l G lo co yX2_keeping cX2_keeping 1 (some .int) 1 [.ref (lo (b))] (some (.int (nI (a_keep A)))) := by
  refine x_enter RX2 rfl (by decide) (Nat.le_of_ble_eq_true rfl) ?_
  intro pp ee ss mm bb mt cd ls cx hk hw hr hlk hl
  have hl : lv_has ls 1 [(0, .ref (lo (b)))] := hl
  generalize hav : ([.ref (lo (b))] : List Value).toArray = av at cx ⊢
  generalize hvv : (some (.int (nI (a_keep A))) : Option Value) = vv
  have hx := cx.1
  have hb := cx.2.1
  have hown := cx.2.2.2.1
  have hts := cx.2.2.2.2
  refine lv_iconst (v := nI 3) hx hb dX2_keeping_0 rfl ?_
  exact x_iret cx hr hlk dX2_keeping_1 ((congrArg (fun z => some (Value.int (nI z))) (show 3 = a_keep A from by simp [a_keep, hkd])).trans hvv)
set_option maxHeartbeats 4000000 in
set_option maxRecDepth 100000 in
theorem c_o3_uses {l : Launch} {G : x_G} {lo : x_L} {co : x_C} (b tb : Nat) (A : Ad) (T : Tb) (ha : isO3 G lo co b tb A) (ht : isTb G lo co tb T) (hT : Tok T) (hA : Aok T A) (hkd : A.1 0 = 0) (bq : Nat) (Q : Qn) (hq : isQn G lo co bq tb Q) (hQ : Qok T Q) : x_Rd l G lo co yX4_usedBy cX4_usedBy 3 (some .int) 3 [.ref (lo (b)), .ref (lo (bq))] (some (.int (nI (a_uses Q A)))) := by
  refine x_enter RX4 rfl (by decide) (Nat.le_of_ble_eq_true rfl) ?_
  intro pp ee ss mm bb mt cd ls cx hk hw hr hlk hl
  have hl : lv_has ls 3 [(0, .ref (lo (b))), (1, .ref (lo (bq)))] := hl
  generalize hav : ([.ref (lo (b)), .ref (lo (bq))] : List Value).toArray = av at cx ⊢
  generalize hvv : (some (.int (nI (a_uses Q A))) : Option Value) = vv
  have hx := cx.1
  have hb := cx.2.1
  have hown := cx.2.2.2.1
  have hts := cx.2.2.2.2
  obtain ⟨k1, k2, k3, k4, k5, k6, k7, k8, k9, k0⟩ := id hT
  obtain ⟨m1, m2, m3, m4, m5, m6, m7, m8, m9, m10, m11⟩ := id hA
  obtain ⟨j1, j2, j3, j4, j5, j6⟩ := id hQ
  have h16 := Qok.t16 hT hQ
  have hby := a_by_le hT hA
  refine lv_iconst (v := nI 0) hx hb dX4_usedBy_0 rfl ?_
  refine lv_istore_n (lv' := [(2, .int (nI 0)), (0, .ref (lo (b))), (1, .ref (lo (bq)))]) hx hb dX4_usedBy_1 rfl hl (by decide) rfl (fun ls hl => ?_)
  have L2_1 : ∀ (n_ : Nat) (k : Nat), (k ≤ 3) → (∀ j, j < k → q_like Q (a_by A j) = true) → 3 - k < n_ → ∀ (ls : Array Slot), lv_has ls 3 [(2, .int (nI k)), (0, .ref (lo (b))), (1, .ref (lo (bq)))] → x_w l 3 pp ee ss mm av bb mt cd vv 2 ls [] := by
    intro n_
    induction n_ with
    | zero => intro k hv hall hm_ ls hl; exact absurd hm_ (Nat.not_lt_zero _)
    | succ n_ ih2_1 =>
      intro k hv hall hm_ ls hl
      refine lv_iload_n hx hb dX4_usedBy_2 rfl (lv_at hl 0 rfl) ?_
      refine lv_aload_n hx hb dX4_usedBy_3 rfl (lv_at hl 1 rfl) ?_
      refine x_get cx hk hw (ha.1) f_RX4_19_3 rfl dX4_usedBy_4 ?_
      refine x_alenI cx hk hw (ha.2) dX4_usedBy_7 ?_
      refine x_icmp_ge (tgt := 30) cx dX4_usedBy_8 (by decide) (by first | omega | (have q1 := hby k; omega)) (fun h8_2 => ?_) (fun h8_2 => ?_)
      · skip
        refine lv_iload_n hx hb dX4_usedBy_30 rfl (lv_at hl 0 rfl) ?_
        refine lv_aload_n hx hb dX4_usedBy_31 rfl (lv_at hl 1 rfl) ?_
        refine x_get cx hk hw (ha.1) f_RX4_19_3 rfl dX4_usedBy_32 ?_
        refine x_alenI cx hk hw (ha.2) dX4_usedBy_35 ?_
        refine x_icmp_ge (tgt := 55) cx dX4_usedBy_36 (by decide) (by first | omega | (have q1 := hby k; omega)) (fun h36_3 => ?_) (fun h36_3 => ?_)
        · skip
          refine lv_iload_n hx hb dX4_usedBy_55 rfl (lv_at hl 0 rfl) ?_
          exact x_iret cx hr hlk dX4_usedBy_56 ((congrArg (fun z => some (Value.int (nI z))) (show k = a_uses Q A from by have e := a_lead_eq hv hall (by first | exact Or.inl (by omega) | exact Or.inr (by assumption)); unfold a_uses; rw [e]; first | (rw [if_pos ⟨by omega, by assumption⟩]) | (rw [if_neg (fun q => absurd q.1 (by omega))]) | (rw [if_neg (fun q => Bool.noConfusion (q.2.symm.trans (by assumption)))]))).trans hvv)
        · skip
          refine lv_aload_n hx hb dX4_usedBy_39 rfl (lv_at hl 2 rfl) ?_
          refine lv_aload_n hx hb dX4_usedBy_40 rfl (lv_at hl 1 rfl) ?_
          refine x_get cx hk hw (ha.1) f_RX4_19_3 rfl dX4_usedBy_41 ?_
          refine lv_iload_n hx hb dX4_usedBy_44 rfl (lv_at hl 0 rfl) ?_
          refine x_ialdN cx hk hw (ha.2) (by first | omega | (have q1 := hby k; omega)) (by decide) dX4_usedBy_45 ?_
          have q1 := hby k
          refine x_rdV (av := [.int (nO (a_by A k))]) (rest := []) cx hk hw (hq.1) cv_RX4_29_5 (c_q_tests bq tb Q T hq ht hT hQ (a_by A k) (by omega)) hl.1 rfl rfl (Nat.le_of_ble_eq_true rfl) ⟨by decide, by decide⟩ ⟨Nat.zero_le _, Nat.zero_le _⟩ dX4_usedBy_46 ?_
          refine x_if_eq (tgt := 55) cx dX4_usedBy_49 (by decide) (fun h49_4 => ?_) (fun h49_4 => ?_)
          · skip
            refine lv_iload_n hx hb dX4_usedBy_55 rfl (lv_at hl 0 rfl) ?_
            exact x_iret cx hr hlk dX4_usedBy_56 ((congrArg (fun z => some (Value.int (nI z))) (show k = a_uses Q A from by have e := a_lead_eq hv hall (by first | exact Or.inl (by omega) | exact Or.inr (by assumption)); unfold a_uses; rw [e]; first | (rw [if_pos ⟨by omega, by assumption⟩]) | (rw [if_neg (fun q => absurd q.1 (by omega))]) | (rw [if_neg (fun q => Bool.noConfusion (q.2.symm.trans (by assumption)))]))).trans hvv)
          · skip
            refine lv_iinc (v := nI (k + 1)) (lv' := [(2, .int (nI (k + 1))), (0, .ref (lo (b))), (1, .ref (lo (bq)))]) hx hb dX4_usedBy_52 hl (k := 0) rfl (nI_add _ 1) (by decide) rfl (fun ls hl => ?_)
            refine lv_iload_n hx hb dX4_usedBy_55 rfl (lv_at hl 0 rfl) ?_
            exact x_iret cx hr hlk dX4_usedBy_56 ((congrArg (fun z => some (Value.int (nI z))) (show k + 1 = a_uses Q A from by have e := a_lead_eq hv hall (by first | exact Or.inl (by omega) | exact Or.inr (by assumption)); unfold a_uses; rw [e]; first | (rw [if_pos ⟨by omega, by assumption⟩]) | (rw [if_neg (fun q => absurd q.1 (by omega))]) | (rw [if_neg (fun q => Bool.noConfusion (q.2.symm.trans (by assumption)))]))).trans hvv)
      · skip
        refine lv_aload_n hx hb dX4_usedBy_11 rfl (lv_at hl 2 rfl) ?_
        refine lv_aload_n hx hb dX4_usedBy_12 rfl (lv_at hl 1 rfl) ?_
        refine x_get cx hk hw (ha.1) f_RX4_19_3 rfl dX4_usedBy_13 ?_
        refine lv_iload_n hx hb dX4_usedBy_16 rfl (lv_at hl 0 rfl) ?_
        refine x_ialdN cx hk hw (ha.2) (by first | omega | (have q1 := hby k; omega)) (by decide) dX4_usedBy_17 ?_
        have q1 := hby k
        refine x_rdV (av := [.int (nO (a_by A k))]) (rest := []) cx hk hw (hq.1) cv_RX4_23_5 (c_q_like bq tb Q T hq ht hT hQ (a_by A k) (by omega)) hl.1 rfl rfl (Nat.le_of_ble_eq_true rfl) ⟨by decide, by decide⟩ ⟨Nat.zero_le _, Nat.zero_le _⟩ dX4_usedBy_18 ?_
        refine x_if_eq (tgt := 30) cx dX4_usedBy_21 (by decide) (fun h21_5 => ?_) (fun h21_5 => ?_)
        · skip
          refine lv_iload_n hx hb dX4_usedBy_30 rfl (lv_at hl 0 rfl) ?_
          refine lv_aload_n hx hb dX4_usedBy_31 rfl (lv_at hl 1 rfl) ?_
          refine x_get cx hk hw (ha.1) f_RX4_19_3 rfl dX4_usedBy_32 ?_
          refine x_alenI cx hk hw (ha.2) dX4_usedBy_35 ?_
          refine x_icmp_ge (tgt := 55) cx dX4_usedBy_36 (by decide) (by first | omega | (have q1 := hby k; omega)) (fun h36_6 => ?_) (fun h36_6 => ?_)
          · skip
            refine lv_iload_n hx hb dX4_usedBy_55 rfl (lv_at hl 0 rfl) ?_
            exact x_iret cx hr hlk dX4_usedBy_56 ((congrArg (fun z => some (Value.int (nI z))) (show k = a_uses Q A from by have e := a_lead_eq hv hall (by first | exact Or.inl (by omega) | exact Or.inr (by assumption)); unfold a_uses; rw [e]; first | (rw [if_pos ⟨by omega, by assumption⟩]) | (rw [if_neg (fun q => absurd q.1 (by omega))]) | (rw [if_neg (fun q => Bool.noConfusion (q.2.symm.trans (by assumption)))]))).trans hvv)
          · skip
            refine lv_aload_n hx hb dX4_usedBy_39 rfl (lv_at hl 2 rfl) ?_
            refine lv_aload_n hx hb dX4_usedBy_40 rfl (lv_at hl 1 rfl) ?_
            refine x_get cx hk hw (ha.1) f_RX4_19_3 rfl dX4_usedBy_41 ?_
            refine lv_iload_n hx hb dX4_usedBy_44 rfl (lv_at hl 0 rfl) ?_
            refine x_ialdN cx hk hw (ha.2) (by first | omega | (have q1 := hby k; omega)) (by decide) dX4_usedBy_45 ?_
            have q1 := hby k
            refine x_rdV (av := [.int (nO (a_by A k))]) (rest := []) cx hk hw (hq.1) cv_RX4_29_5 (c_q_tests bq tb Q T hq ht hT hQ (a_by A k) (by omega)) hl.1 rfl rfl (Nat.le_of_ble_eq_true rfl) ⟨by decide, by decide⟩ ⟨Nat.zero_le _, Nat.zero_le _⟩ dX4_usedBy_46 ?_
            refine x_if_eq (tgt := 55) cx dX4_usedBy_49 (by decide) (fun h49_7 => ?_) (fun h49_7 => ?_)
            · skip
              refine lv_iload_n hx hb dX4_usedBy_55 rfl (lv_at hl 0 rfl) ?_
              exact x_iret cx hr hlk dX4_usedBy_56 ((congrArg (fun z => some (Value.int (nI z))) (show k = a_uses Q A from by have e := a_lead_eq hv hall (by first | exact Or.inl (by omega) | exact Or.inr (by assumption)); unfold a_uses; rw [e]; first | (rw [if_pos ⟨by omega, by assumption⟩]) | (rw [if_neg (fun q => absurd q.1 (by omega))]) | (rw [if_neg (fun q => Bool.noConfusion (q.2.symm.trans (by assumption)))]))).trans hvv)
            · skip
              refine lv_iinc (v := nI (k + 1)) (lv' := [(2, .int (nI (k + 1))), (0, .ref (lo (b))), (1, .ref (lo (bq)))]) hx hb dX4_usedBy_52 hl (k := 0) rfl (nI_add _ 1) (by decide) rfl (fun ls hl => ?_)
              refine lv_iload_n hx hb dX4_usedBy_55 rfl (lv_at hl 0 rfl) ?_
              exact x_iret cx hr hlk dX4_usedBy_56 ((congrArg (fun z => some (Value.int (nI z))) (show k + 1 = a_uses Q A from by have e := a_lead_eq hv hall (by first | exact Or.inl (by omega) | exact Or.inr (by assumption)); unfold a_uses; rw [e]; first | (rw [if_pos ⟨by omega, by assumption⟩]) | (rw [if_neg (fun q => absurd q.1 (by omega))]) | (rw [if_neg (fun q => Bool.noConfusion (q.2.symm.trans (by assumption)))]))).trans hvv)
        · skip
          refine lv_iinc (v := nI (k + 1)) (lv' := [(2, .int (nI (k + 1))), (0, .ref (lo (b))), (1, .ref (lo (bq)))]) hx hb dX4_usedBy_24 hl (k := 0) rfl (nI_add _ 1) (by decide) rfl (fun ls hl => ?_)
          refine lv_goto (tgt := 2) hx hb dX4_usedBy_27 (by decide) ?_
          exact ih2_1 (k + 1) (by omega) (by intro j hj; rcases Nat.lt_succ_iff_lt_or_eq.mp hj with q | q; exact hall j q; rw [q]; assumption) (by omega) _ (lv_sub hl [0, 1, 2] rfl)
  exact L2_1 (_ + 1) 0 (by omega) (by exact fun j h => absurd h (Nat.not_lt_zero j)) (Nat.lt_succ_self _) _ (lv_sub hl [0, 1, 2] rfl)
set_option maxHeartbeats 4000000 in
set_option maxRecDepth 100000 in
theorem c_o3_rows {l : Launch} {G : x_G} {lo : x_L} {co : x_C} (b tb : Nat) (A : Ad) (T : Tb) (ha : isO3 G lo co b tb A) (ht : isTb G lo co tb T) (hT : Tok T) (hA : Aok T A) (hkd : A.1 0 = 0) : x_Rd l G lo co yX4_foretoldRows cX4_foretoldRows 1 (some .int) 1 [.ref (lo (b))] (some (.int (nI (a_rows T A)))) := by
  refine x_enter RX4 rfl (by decide) (Nat.le_of_ble_eq_true rfl) ?_
  intro pp ee ss mm bb mt cd ls cx hk hw hr hlk hl
  have hl : lv_has ls 1 [(0, .ref (lo (b)))] := hl
  generalize hav : ([.ref (lo (b))] : List Value).toArray = av at cx ⊢
  generalize hvv : (some (.int (nI (a_rows T A))) : Option Value) = vv
  have hx := cx.1
  have hb := cx.2.1
  have hown := cx.2.2.2.1
  have hts := cx.2.2.2.2
  obtain ⟨k1, k2, k3, k4, k5, k6, k7, k8, k9, k0⟩ := id hT
  obtain ⟨m1, m2, m3, m4, m5, m6, m7, m8, m9, m10, m11⟩ := id hA
  refine lv_aload_n hx hb dX4_foretoldRows_0 rfl (lv_at hl 0 rfl) ?_
  refine x_get cx hk hw (ha.1) f_RX4_36_3 rfl dX4_foretoldRows_1 ?_
  refine x_get cx hk hw (ht.1) f_RX4_40_8 rfl dX4_foretoldRows_4 ?_
  exact x_iret cx hr hlk dX4_foretoldRows_7 ((congrArg (fun z => some (Value.int (nI z))) (show T.1 5 = a_rows T A from by rw [a_rows, if_neg (by omega)])).trans hvv)
set_option maxHeartbeats 4000000 in
set_option maxRecDepth 100000 in
theorem c_o3_holds {l : Launch} {G : x_G} {lo : x_L} {co : x_C} (b tb : Nat) (A : Ad) (T : Tb) (ha : isO3 G lo co b tb A) (ht : isTb G lo co tb T) (hT : Tok T) (hA : Aok T A) (hkd : A.1 0 = 0) (r : Nat) : x_Rd l G lo co yX4_holds cX4_holds 2 (some .boolean) 1 [.ref (lo (b)), .int (nI r)] (some (.int (bI (true)))) := by
  refine x_enter RX4 rfl (by decide) (Nat.le_of_ble_eq_true rfl) ?_
  intro pp ee ss mm bb mt cd ls cx hk hw hr hlk hl
  have hl : lv_has ls 2 [(0, .ref (lo (b))), (1, .int (nI r))] := hl
  generalize hav : ([.ref (lo (b)), .int (nI r)] : List Value).toArray = av at cx ⊢
  generalize hvv : (some (.int (bI (true))) : Option Value) = vv
  have hx := cx.1
  have hb := cx.2.1
  have hown := cx.2.2.2.1
  have hts := cx.2.2.2.2
  refine lv_iconst (v := nI 1) hx hb dX4_holds_0 rfl ?_
  exact x_zretT (b := true) cx hr hlk dX4_holds_1 (by rfl) hvv
set_option maxHeartbeats 4000000 in
set_option maxRecDepth 100000 in
theorem c_o3_must {l : Launch} {G : x_G} {lo : x_L} {co : x_C} (b tb : Nat) (A : Ad) (T : Tb) (ha : isO3 G lo co b tb A) (ht : isTb G lo co tb T) (hT : Tok T) (hA : Aok T A) (hkd : A.1 0 = 0) (bq : Nat) (Q : Qn) (hq : isQn G lo co bq tb Q) (hQ : Qok T Q) : x_Rd l G lo co yX4_mustFetch cX4_mustFetch 2 (some .boolean) 1 [.ref (lo (b)), .ref (lo (bq))] (some (.int (bI (true)))) := by
  refine x_enter RX4 rfl (by decide) (Nat.le_of_ble_eq_true rfl) ?_
  intro pp ee ss mm bb mt cd ls cx hk hw hr hlk hl
  have hl : lv_has ls 2 [(0, .ref (lo (b))), (1, .ref (lo (bq)))] := hl
  generalize hav : ([.ref (lo (b)), .ref (lo (bq))] : List Value).toArray = av at cx ⊢
  generalize hvv : (some (.int (bI (true))) : Option Value) = vv
  have hx := cx.1
  have hb := cx.2.1
  have hown := cx.2.2.2.1
  have hts := cx.2.2.2.2
  refine lv_iconst (v := nI 1) hx hb dX4_mustFetch_0 rfl ?_
  exact x_zretT (b := true) cx hr hlk dX4_mustFetch_1 (by rfl) hvv
set_option maxHeartbeats 4000000 in
set_option maxRecDepth 100000 in
theorem c_o3_ent {l : Launch} {G : x_G} {lo : x_L} {co : x_C} (b tb : Nat) (A : Ad) (T : Tb) (ha : isO3 G lo co b tb A) (ht : isTb G lo co tb T) (hT : Tok T) (hA : Aok T A) (hkd : A.1 0 = 0) : x_Rd l G lo co yX4_entriesOnPage cX4_entriesOnPage 1 (some .int) 1 [.ref (lo (b))] (some (.int (nI (a_ent T A)))) := by
  refine x_enter RX4 rfl (by decide) (Nat.le_of_ble_eq_true rfl) ?_
  intro pp ee ss mm bb mt cd ls cx hk hw hr hlk hl
  have hl : lv_has ls 1 [(0, .ref (lo (b)))] := hl
  generalize hav : ([.ref (lo (b))] : List Value).toArray = av at cx ⊢
  generalize hvv : (some (.int (nI (a_ent T A))) : Option Value) = vv
  have hx := cx.1
  have hb := cx.2.1
  have hown := cx.2.2.2.1
  have hts := cx.2.2.2.2
  obtain ⟨k1, k2, k3, k4, k5, k6, k7, k8, k9, k0⟩ := id hT
  obtain ⟨m1, m2, m3, m4, m5, m6, m7, m8, m9, m10, m11⟩ := id hA
  refine lv_iconst (v := nI 2) hx hb dX4_entriesOnPage_0 rfl ?_
  refine lv_aload_n hx hb dX4_entriesOnPage_1 rfl (lv_at hl 0 rfl) ?_
  refine x_get cx hk hw (ha.1) f_RX4_36_3 rfl dX4_entriesOnPage_2 ?_
  refine x_get cx hk hw (ht.1) f_RX4_45_8 rfl dX4_entriesOnPage_5 ?_
  refine x_imulN cx dX4_entriesOnPage_8 ?_
  exact x_iret cx hr hlk dX4_entriesOnPage_9 ((congrArg (fun z => some (Value.int (nI z))) (show 2 * (T.1 2) = a_ent T A from by simp [a_ent, hkd])).trans hvv)
set_option maxHeartbeats 4000000 in
set_option maxRecDepth 100000 in
theorem c_o3_cost {l : Launch} {G : x_G} {lo : x_L} {co : x_C} (b tb : Nat) (A : Ad) (T : Tb) (ha : isO3 G lo co b tb A) (ht : isTb G lo co tb T) (hT : Tok T) (hA : Aok T A) (hkd : A.1 0 = 0) (bq : Nat) (Q : Qn) (hq : isQn G lo co bq tb Q) (hQ : Qok T Q) : x_Rd l G lo co yX4_foretold cX4_foretold 5 (some .int) 4 [.ref (lo (b)), .ref (lo (bq))] (some (.int (nI (a_cost T Q A)))) := by
  refine x_enter RX4 rfl (by decide) (Nat.le_of_ble_eq_true rfl) ?_
  intro pp ee ss mm bb mt cd ls cx hk hw hr hlk hl
  have hl : lv_has ls 5 [(0, .ref (lo (b))), (1, .ref (lo (bq)))] := hl
  generalize hav : ([.ref (lo (b)), .ref (lo (bq))] : List Value).toArray = av at cx ⊢
  generalize hvv : (some (.int (nI (a_cost T Q A))) : Option Value) = vv
  have hx := cx.1
  have hb := cx.2.1
  have hown := cx.2.2.2.1
  have hts := cx.2.2.2.2
  obtain ⟨k1, k2, k3, k4, k5, k6, k7, k8, k9, k0⟩ := id hT
  obtain ⟨m1, m2, m3, m4, m5, m6, m7, m8, m9, m10, m11⟩ := id hA
  obtain ⟨j1, j2, j3, j4, j5, j6⟩ := id hQ
  have h16 := Qok.t16 hT hQ
  have hby := a_by_le hT hA
  have hu := a_uses_le Q A
  have hrw := a_rows_le hT hA
  have hent : a_ent T A ≤ 16 ∧ 2 ≤ a_ent T A := by unfold a_ent; split <;> omega
  have hpg := s_up_60 (n := T.1 5) (d := T.1 2) (by omega) (by omega)
  refine lv_aload_n hx hb dX4_foretold_0 rfl (lv_at hl 0 rfl) ?_
  refine x_rdU (av := []) (rest := []) cx hk hw (ha.1) cu_RX4_48_3 (c_o3_rows b tb A T ha ht hT hA hkd) hl.1 rfl rfl (Nat.le_of_ble_eq_true rfl) ⟨by decide, by decide⟩ ⟨Nat.zero_le _, Nat.zero_le _⟩ dX4_foretold_1 ?_
  refine lv_istore_n (lv' := [(2, .int (nI (a_rows T A))), (0, .ref (lo (b))), (1, .ref (lo (bq)))]) hx hb dX4_foretold_4 rfl hl (by decide) rfl (fun ls hl => ?_)
  refine lv_aload_n hx hb dX4_foretold_5 rfl (lv_at hl 1 rfl) ?_
  refine lv_aload_n hx hb dX4_foretold_6 rfl (lv_at hl 2 rfl) ?_
  refine x_rdU (av := [.ref (lo (bq))]) (rest := []) cx hk hw (ha.1) cu_RX4_32_3 (c_o3_uses b tb A T ha ht hT hA hkd bq Q hq hQ) hl.1 rfl rfl (Nat.le_of_ble_eq_true rfl) ⟨by decide, by decide⟩ ⟨Nat.zero_le _, Nat.zero_le _⟩ dX4_foretold_7 ?_
  refine lv_istore_n (lv' := [(3, .int (nI (a_uses Q A))), (2, .int (nI (a_rows T A))), (0, .ref (lo (b))), (1, .ref (lo (bq)))]) hx hb dX4_foretold_10 rfl hl (by decide) rfl (fun ls hl => ?_)
  refine lv_iconst (v := nI 0) hx hb dX4_foretold_11 rfl ?_
  refine lv_istore (lv' := [(4, .int (nI 0)), (3, .int (nI (a_uses Q A))), (2, .int (nI (a_rows T A))), (0, .ref (lo (b))), (1, .ref (lo (bq)))]) hx hb dX4_foretold_12 hl (by decide) rfl (fun ls hl => ?_)
  have L14_1 : ∀ (n_ : Nat) (f : Nat) (k : Nat), (k ≤ a_uses Q A) → (f = a_fold T Q A (a_rows T A) k) → a_uses Q A - k < n_ → ∀ (ls : Array Slot), lv_has ls 5 [(4, .int (nI k)), (3, .int (nI (a_uses Q A))), (2, .int (nI f)), (0, .ref (lo (b))), (1, .ref (lo (bq)))] → x_w l 4 pp ee ss mm av bb mt cd vv 14 ls [] := by
    intro n_
    induction n_ with
    | zero => intro f k hv hf hm_ ls hl; exact absurd hm_ (Nat.not_lt_zero _)
    | succ n_ ih14_1 =>
      intro f k hv hf hm_ ls hl
      have fb0 : f ≤ 60 := by rw [hf]; have := a_fold_le (A := A) hT hQ (a_rows T A) k; omega
      refine lv_iload hx hb dX4_foretold_14 (lv_at hl 0 rfl) ?_
      refine lv_iload_n hx hb dX4_foretold_16 rfl (lv_at hl 1 rfl) ?_
      refine x_icmp_ge (tgt := 49) cx dX4_foretold_17 (by decide) (by omega) (fun h17_2 => ?_) (fun h17_2 => ?_)
      · skip
        have fb : f ≤ 60 := by rw [hf]; have := a_fold_le (A := A) hT hQ (a_rows T A) k; omega
        refine lv_aload_n hx hb dX4_foretold_49 rfl (lv_at hl 3 rfl) ?_
        refine lv_aload_n hx hb dX4_foretold_50 rfl (lv_at hl 4 rfl) ?_
        refine x_rdU (av := [.ref (lo (bq))]) (rest := []) cx hk hw (ha.1) cu_RX4_56_3 (c_o3_must b tb A T ha ht hT hA hkd bq Q hq hQ) hl.1 rfl rfl (Nat.le_of_ble_eq_true rfl) ⟨by decide, by decide⟩ ⟨Nat.zero_le _, Nat.zero_le _⟩ dX4_foretold_51 ?_
        have J72_3 : ∀ (y3_s0 : Nat) (ey3_s0 : y3_s0 = if true = true then (min f (s_up (T.1 5) (T.1 2))) else 0) (ls : Array Slot), lv_has ls 5 [(4, .int (nI k)), (3, .int (nI (a_uses Q A))), (2, .int (nI f)), (0, .ref (lo (b))), (1, .ref (lo (bq)))] → x_w l 4 pp ee ss mm av bb mt cd vv 72 ls [.int (nI y3_s0)] := by
          intro y3_s0 ey3_s0 ls hl
          refine lv_istore (lv' := [(4, .int (nI y3_s0)), (3, .int (nI (a_uses Q A))), (2, .int (nI f)), (0, .ref (lo (b))), (1, .ref (lo (bq)))]) hx hb dX4_foretold_72 hl (by decide) rfl (fun ls hl => ?_)
          refine lv_iconst (v := nI 1) hx hb dX4_foretold_74 rfl ?_
          refine lv_iload_n hx hb dX4_foretold_75 rfl (lv_at hl 2 rfl) ?_
          refine lv_aload_n hx hb dX4_foretold_76 rfl (lv_at hl 3 rfl) ?_
          refine x_rdU (av := []) (rest := [.int (nI f), .int (nI 1)]) cx hk hw (ha.1) cu_RX4_68_3 (c_o3_ent b tb A T ha ht hT hA hkd) hl.1 rfl rfl (Nat.le_of_ble_eq_true rfl) ⟨by decide, by decide⟩ ⟨Nat.zero_le _, Nat.zero_le _⟩ dX4_foretold_77 ?_
          refine x_rdSN (av := [.int (nI f), .int (nI (a_ent T A))]) (rest := [.int (nI 1)]) cx hk hw cn_RX4_71 (c_up f (a_ent T A) (by omega) (by omega)) hl.1 rfl rfl (Nat.le_of_ble_eq_true rfl) ⟨by decide, by decide⟩ ⟨Nat.zero_le _, Nat.zero_le _⟩ dX4_foretold_80 ?_
          refine x_iaddN cx dX4_foretold_83 ?_
          refine lv_iload hx hb dX4_foretold_84 (lv_at hl 0 rfl) ?_
          refine x_iaddN cx dX4_foretold_86 ?_
          exact x_iret cx hr hlk dX4_foretold_87 ((congrArg (fun z => some (Value.int (nI z))) (show (1 + (s_up f (a_ent T A))) + y3_s0 = a_cost T Q A from by have ek : k = a_uses Q A := (by omega); rw [ek] at hf; have hm : f = a_mat T Q A := hf; unfold a_cost; rw [← hm]; simp_all [a_cov, a_ent])).trans hvv)
        refine x_if_eq (tgt := 71) cx dX4_foretold_54 (by decide) (fun h54_4 => ?_) (fun h54_4 => ?_)
        · skip
          refine lv_iconst (v := nI 0) hx hb dX4_foretold_71 rfl ?_
          exact J72_3 0 (by rw [if_neg (fun q => Bool.noConfusion (h54_4.symm.trans q))]) _ (lv_sub hl [0, 1, 2, 3, 4] rfl)
        · skip
          refine lv_iload_n hx hb dX4_foretold_57 rfl (lv_at hl 2 rfl) ?_
          refine lv_aload_n hx hb dX4_foretold_58 rfl (lv_at hl 3 rfl) ?_
          refine x_get cx hk hw (ha.1) f_RX4_36_3 rfl dX4_foretold_59 ?_
          refine x_rdV (av := []) (rest := [.int (nI f)]) cx hk hw (ht.1) cv_RX4_60_8 (c_t_cpages tb T ht hT) hl.1 rfl rfl (Nat.le_of_ble_eq_true rfl) ⟨by decide, by decide⟩ ⟨Nat.zero_le _, Nat.zero_le _⟩ dX4_foretold_62 ?_
          refine x_mmin cx hl.1 w_694 (by omega) w_244 w_8 w_245 ⟨Nat.le_of_ble_eq_true rfl, Nat.le_of_ble_eq_true rfl⟩ ⟨Nat.zero_le _, Nat.zero_le _⟩ dX4_foretold_65 ?_
          refine lv_goto (tgt := 72) hx hb dX4_foretold_68 (by decide) ?_
          exact J72_3 (min f (s_up (T.1 5) (T.1 2))) (by rw [if_pos h54_4]) _ (lv_sub hl [0, 1, 2, 3, 4] rfl)
      · skip
        refine lv_iload hx hb dX4_foretold_20 (lv_at hl 0 rfl) ?_
        refine lv_aload_n hx hb dX4_foretold_22 rfl (lv_at hl 3 rfl) ?_
        refine x_get cx hk hw (ha.1) f_RX4_19_3 rfl dX4_foretold_23 ?_
        refine x_alenI cx hk hw (ha.2) dX4_foretold_26 ?_
        refine x_icmp_ge (tgt := 49) cx dX4_foretold_27 (by decide) (by omega) (fun h27_5 => ?_) (fun h27_5 => ?_)
        · skip
          have fb : f ≤ 60 := by rw [hf]; have := a_fold_le (A := A) hT hQ (a_rows T A) k; omega
          refine lv_aload_n hx hb dX4_foretold_49 rfl (lv_at hl 3 rfl) ?_
          refine lv_aload_n hx hb dX4_foretold_50 rfl (lv_at hl 4 rfl) ?_
          refine x_rdU (av := [.ref (lo (bq))]) (rest := []) cx hk hw (ha.1) cu_RX4_56_3 (c_o3_must b tb A T ha ht hT hA hkd bq Q hq hQ) hl.1 rfl rfl (Nat.le_of_ble_eq_true rfl) ⟨by decide, by decide⟩ ⟨Nat.zero_le _, Nat.zero_le _⟩ dX4_foretold_51 ?_
          have J72_6 : ∀ (y6_s0 : Nat) (ey6_s0 : y6_s0 = if true = true then (min f (s_up (T.1 5) (T.1 2))) else 0) (ls : Array Slot), lv_has ls 5 [(4, .int (nI k)), (3, .int (nI (a_uses Q A))), (2, .int (nI f)), (0, .ref (lo (b))), (1, .ref (lo (bq)))] → x_w l 4 pp ee ss mm av bb mt cd vv 72 ls [.int (nI y6_s0)] := by
            intro y6_s0 ey6_s0 ls hl
            refine lv_istore (lv' := [(4, .int (nI y6_s0)), (3, .int (nI (a_uses Q A))), (2, .int (nI f)), (0, .ref (lo (b))), (1, .ref (lo (bq)))]) hx hb dX4_foretold_72 hl (by decide) rfl (fun ls hl => ?_)
            refine lv_iconst (v := nI 1) hx hb dX4_foretold_74 rfl ?_
            refine lv_iload_n hx hb dX4_foretold_75 rfl (lv_at hl 2 rfl) ?_
            refine lv_aload_n hx hb dX4_foretold_76 rfl (lv_at hl 3 rfl) ?_
            refine x_rdU (av := []) (rest := [.int (nI f), .int (nI 1)]) cx hk hw (ha.1) cu_RX4_68_3 (c_o3_ent b tb A T ha ht hT hA hkd) hl.1 rfl rfl (Nat.le_of_ble_eq_true rfl) ⟨by decide, by decide⟩ ⟨Nat.zero_le _, Nat.zero_le _⟩ dX4_foretold_77 ?_
            refine x_rdSN (av := [.int (nI f), .int (nI (a_ent T A))]) (rest := [.int (nI 1)]) cx hk hw cn_RX4_71 (c_up f (a_ent T A) (by omega) (by omega)) hl.1 rfl rfl (Nat.le_of_ble_eq_true rfl) ⟨by decide, by decide⟩ ⟨Nat.zero_le _, Nat.zero_le _⟩ dX4_foretold_80 ?_
            refine x_iaddN cx dX4_foretold_83 ?_
            refine lv_iload hx hb dX4_foretold_84 (lv_at hl 0 rfl) ?_
            refine x_iaddN cx dX4_foretold_86 ?_
            exact x_iret cx hr hlk dX4_foretold_87 ((congrArg (fun z => some (Value.int (nI z))) (show (1 + (s_up f (a_ent T A))) + y6_s0 = a_cost T Q A from by have ek : k = a_uses Q A := (by omega); rw [ek] at hf; have hm : f = a_mat T Q A := hf; unfold a_cost; rw [← hm]; simp_all [a_cov, a_ent])).trans hvv)
          refine x_if_eq (tgt := 71) cx dX4_foretold_54 (by decide) (fun h54_7 => ?_) (fun h54_7 => ?_)
          · skip
            refine lv_iconst (v := nI 0) hx hb dX4_foretold_71 rfl ?_
            exact J72_6 0 (by rw [if_neg (fun q => Bool.noConfusion (h54_7.symm.trans q))]) _ (lv_sub hl [0, 1, 2, 3, 4] rfl)
          · skip
            refine lv_iload_n hx hb dX4_foretold_57 rfl (lv_at hl 2 rfl) ?_
            refine lv_aload_n hx hb dX4_foretold_58 rfl (lv_at hl 3 rfl) ?_
            refine x_get cx hk hw (ha.1) f_RX4_36_3 rfl dX4_foretold_59 ?_
            refine x_rdV (av := []) (rest := [.int (nI f)]) cx hk hw (ht.1) cv_RX4_60_8 (c_t_cpages tb T ht hT) hl.1 rfl rfl (Nat.le_of_ble_eq_true rfl) ⟨by decide, by decide⟩ ⟨Nat.zero_le _, Nat.zero_le _⟩ dX4_foretold_62 ?_
            refine x_mmin cx hl.1 w_694 (by omega) w_244 w_8 w_245 ⟨Nat.le_of_ble_eq_true rfl, Nat.le_of_ble_eq_true rfl⟩ ⟨Nat.zero_le _, Nat.zero_le _⟩ dX4_foretold_65 ?_
            refine lv_goto (tgt := 72) hx hb dX4_foretold_68 (by decide) ?_
            exact J72_6 (min f (s_up (T.1 5) (T.1 2))) (by rw [if_pos h54_7]) _ (lv_sub hl [0, 1, 2, 3, 4] rfl)
        · skip
          refine lv_aload_n hx hb dX4_foretold_30 rfl (lv_at hl 4 rfl) ?_
          refine lv_iload_n hx hb dX4_foretold_31 rfl (lv_at hl 2 rfl) ?_
          refine lv_aload_n hx hb dX4_foretold_32 rfl (lv_at hl 3 rfl) ?_
          refine x_get cx hk hw (ha.1) f_RX4_19_3 rfl dX4_foretold_33 ?_
          refine lv_iload hx hb dX4_foretold_36 (lv_at hl 0 rfl) ?_
          refine x_ialdN cx hk hw (ha.2) (by omega) (by decide) dX4_foretold_38 ?_
          have q1 := hby k
          refine x_rdV (av := [.int (nI f), .int (nO (a_by A k))]) (rest := []) cx hk hw (hq.1) cv_RX4_52_5 (c_q_pass bq tb Q T hq ht hT hQ f (a_by A k) (by omega) (by omega)) hl.1 rfl rfl (Nat.le_of_ble_eq_true rfl) ⟨by decide, by decide⟩ ⟨Nat.zero_le _, Nat.zero_le _⟩ dX4_foretold_39 ?_
          refine lv_istore_n (lv' := [(2, .int (nI (q_pass T Q f (a_by A k)))), (4, .int (nI k)), (3, .int (nI (a_uses Q A))), (0, .ref (lo (b))), (1, .ref (lo (bq)))]) hx hb dX4_foretold_42 rfl hl (by decide) rfl (fun ls hl => ?_)
          refine lv_iinc (v := nI (k + 1)) (lv' := [(4, .int (nI (k + 1))), (2, .int (nI (q_pass T Q f (a_by A k)))), (3, .int (nI (a_uses Q A))), (0, .ref (lo (b))), (1, .ref (lo (bq)))]) hx hb dX4_foretold_43 hl (k := 1) rfl (nI_add _ 1) (by decide) rfl (fun ls hl => ?_)
          refine lv_goto (tgt := 14) hx hb dX4_foretold_46 (by decide) ?_
          exact ih14_1 (q_pass T Q f (a_by A k)) (k + 1) (by omega) (by rw [a_fold, ← hf]) (by omega) _ (lv_sub hl [0, 2, 1, 3, 4] rfl)
  exact L14_1 (_ + 1) (a_rows T A) 0 (by omega) (by rfl) (Nat.lt_succ_self _) _ (lv_sub hl [0, 1, 2, 3, 4] rfl)
set_option maxHeartbeats 4000000 in
set_option maxRecDepth 100000 in
theorem c_o3_finds {l : Launch} {G : x_G} {lo : x_L} {co : x_C} (b tb : Nat) (A : Ad) (T : Tb) (ha : isO3 G lo co b tb A) (ht : isTb G lo co tb T) (hT : Tok T) (hA : Aok T A) (hkd : A.1 0 = 0) (bq : Nat) (Q : Qn) (hq : isQn G lo co bq tb Q) (hQ : Qok T Q) (n r : Nat) (hn_ : n ≤ 3) (hr_ : r < 2 ^ 31) : x_Rd l G lo co yX4_finds cX4_finds 5 (some .boolean) 4 [.ref (lo (b)), .ref (lo (bq)), .int (nI n), .int (nI r)] (some (.int (bI (allN n (fun i => q_pat T Q r (a_by A i)))))) := by
  refine x_enter RX4 rfl (by decide) (Nat.le_of_ble_eq_true rfl) ?_
  intro pp ee ss mm bb mt cd ls cx hk hw hr hlk hl
  have hl : lv_has ls 5 [(0, .ref (lo (b))), (1, .ref (lo (bq))), (2, .int (nI n)), (3, .int (nI r))] := hl
  generalize hav : ([.ref (lo (b)), .ref (lo (bq)), .int (nI n), .int (nI r)] : List Value).toArray = av at cx ⊢
  generalize hvv : (some (.int (bI (allN n (fun i => q_pat T Q r (a_by A i))))) : Option Value) = vv
  have hx := cx.1
  have hb := cx.2.1
  have hown := cx.2.2.2.1
  have hts := cx.2.2.2.2
  obtain ⟨k1, k2, k3, k4, k5, k6, k7, k8, k9, k0⟩ := id hT
  obtain ⟨m1, m2, m3, m4, m5, m6, m7, m8, m9, m10, m11⟩ := id hA
  obtain ⟨j1, j2, j3, j4, j5, j6⟩ := id hQ
  have h16 := Qok.t16 hT hQ
  have hby := a_by_le hT hA
  refine lv_iconst (v := nI 0) hx hb dX4_finds_0 rfl ?_
  refine lv_istore (lv' := [(4, .int (nI 0)), (0, .ref (lo (b))), (1, .ref (lo (bq))), (2, .int (nI n)), (3, .int (nI r))]) hx hb dX4_finds_1 hl (by decide) rfl (fun ls hl => ?_)
  have L3_1 : ∀ (n_ : Nat) (k : Nat), (k ≤ n) → (allN k (fun i => q_pat T Q r (a_by A i)) = true) → n - k < n_ → ∀ (ls : Array Slot), lv_has ls 5 [(4, .int (nI k)), (0, .ref (lo (b))), (1, .ref (lo (bq))), (2, .int (nI n)), (3, .int (nI r))] → x_w l 4 pp ee ss mm av bb mt cd vv 3 ls [] := by
    intro n_
    induction n_ with
    | zero => intro k hv hall hm_ ls hl; exact absurd hm_ (Nat.not_lt_zero _)
    | succ n_ ih3_1 =>
      intro k hv hall hm_ ls hl
      refine lv_iload hx hb dX4_finds_3 (lv_at hl 0 rfl) ?_
      refine lv_iload_n hx hb dX4_finds_5 rfl (lv_at hl 3 rfl) ?_
      refine x_icmp_ge (tgt := 42) cx dX4_finds_6 (by decide) (by omega) (fun h6_2 => ?_) (fun h6_2 => ?_)
      · skip
        refine lv_iconst (v := nI 1) hx hb dX4_finds_42 rfl ?_
        exact x_zretT (b := allN n (fun i => q_pat T Q r (a_by A i))) cx hr hlk dX4_finds_43 (by rw [show n = k by omega]; exact hall) hvv
      · skip
        refine lv_iload hx hb dX4_finds_9 (lv_at hl 0 rfl) ?_
        refine lv_aload_n hx hb dX4_finds_11 rfl (lv_at hl 1 rfl) ?_
        refine x_get cx hk hw (ha.1) f_RX4_19_3 rfl dX4_finds_12 ?_
        refine x_alenI cx hk hw (ha.2) dX4_finds_15 ?_
        refine x_icmp_ge (tgt := 42) cx dX4_finds_16 (by decide) (by omega) (fun h16_3 => ?_) (fun h16_3 => ?_)
        · skip
          refine lv_iconst (v := nI 1) hx hb dX4_finds_42 rfl ?_
          exact x_zretT (b := allN n (fun i => q_pat T Q r (a_by A i))) cx hr hlk dX4_finds_43 (by rw [show n = k by omega]; exact hall) hvv
        · skip
          refine lv_aload_n hx hb dX4_finds_19 rfl (lv_at hl 2 rfl) ?_
          refine lv_iload_n hx hb dX4_finds_20 rfl (lv_at hl 4 rfl) ?_
          refine lv_aload_n hx hb dX4_finds_21 rfl (lv_at hl 1 rfl) ?_
          refine x_get cx hk hw (ha.1) f_RX4_19_3 rfl dX4_finds_22 ?_
          refine lv_iload hx hb dX4_finds_25 (lv_at hl 0 rfl) ?_
          refine x_ialdN cx hk hw (ha.2) (by omega) (by decide) dX4_finds_27 ?_
          have q1 := hby k
          refine x_rdV (av := [.int (nI r), .int (nO (a_by A k))]) (rest := []) cx hk hw (hq.1) cv_RX4_87_5 (c_q_pat bq tb Q T hq ht hT hQ r (a_by A k) (by omega) (by omega)) hl.1 rfl rfl (Nat.le_of_ble_eq_true rfl) ⟨by decide, by decide⟩ ⟨Nat.zero_le _, Nat.zero_le _⟩ dX4_finds_28 ?_
          refine x_if_ne (tgt := 36) cx dX4_finds_31 (by decide) (fun h31_4 => ?_) (fun h31_4 => ?_)
          · skip
            refine lv_iinc (v := nI (k + 1)) (lv' := [(4, .int (nI (k + 1))), (0, .ref (lo (b))), (1, .ref (lo (bq))), (2, .int (nI n)), (3, .int (nI r))]) hx hb dX4_finds_36 hl (k := 0) rfl (nI_add _ 1) (by decide) rfl (fun ls hl => ?_)
            refine lv_goto (tgt := 3) hx hb dX4_finds_39 (by decide) ?_
            exact ih3_1 (k + 1) (by omega) (by exact allN_step hall (by assumption)) (by omega) _ (lv_sub hl [0, 1, 2, 3, 4] rfl)
          · skip
            refine lv_iconst (v := nI 0) hx hb dX4_finds_34 rfl ?_
            exact x_zretF (b := allN n (fun i => q_pat T Q r (a_by A i))) cx hr hlk dX4_finds_35 (by exact allN_no (k := k) (by omega) (by assumption)) hvv
  exact L3_1 (_ + 1) 0 (by omega) (by rfl) (Nat.lt_succ_self _) _ (lv_sub hl [0, 1, 2, 3, 4] rfl)
set_option maxHeartbeats 4000000 in
set_option maxRecDepth 100000 in
theorem c_o3_fetch {l : Launch} {G : x_G} {lo : x_L} {co : x_C} (b tb : Nat) (A : Ad) (T : Tb) (ha : isO3 G lo co b tb A) (ht : isTb G lo co tb T) (hT : Tok T) (hA : Aok T A) (hkd : A.1 0 = 0) (bq : Nat) (Q : Qn) (hq : isQn G lo co bq tb Q) (hQ : Qok T Q) : x_Rd l G lo co yX4_fetched cX4_fetched 7 (some .int) 5 [.ref (lo (b)), .ref (lo (bq))] (some (.int (nI (a_fetch T Q A)))) := by
  refine x_enter RX4 rfl (by decide) (Nat.le_of_ble_eq_true rfl) ?_
  intro pp ee ss mm bb mt cd ls cx hk hw hr hlk hl
  have hl : lv_has ls 7 [(0, .ref (lo (b))), (1, .ref (lo (bq)))] := hl
  generalize hav : ([.ref (lo (b)), .ref (lo (bq))] : List Value).toArray = av at cx ⊢
  generalize hvv : (some (.int (nI (a_fetch T Q A))) : Option Value) = vv
  have hx := cx.1
  have hb := cx.2.1
  have hown := cx.2.2.2.1
  have hts := cx.2.2.2.2
  obtain ⟨k1, k2, k3, k4, k5, k6, k7, k8, k9, k0⟩ := id hT
  obtain ⟨m1, m2, m3, m4, m5, m6, m7, m8, m9, m10, m11⟩ := id hA
  obtain ⟨j1, j2, j3, j4, j5, j6⟩ := id hQ
  have h16 := Qok.t16 hT hQ
  have hby := a_by_le hT hA
  have hu := a_uses_le Q A
  have hent : a_ent T A ≤ 16 ∧ 2 ≤ a_ent T A := by unfold a_ent; split <;> omega
  have hnO : ∀ x y : Nat, x < 2 ^ 31 → y < 2 ^ 31 → (nI x = nO y ↔ x + 1 = y) := nO_eq
  refine lv_aload_n hx hb dX4_fetched_0 rfl (lv_at hl 0 rfl) ?_
  refine lv_aload_n hx hb dX4_fetched_1 rfl (lv_at hl 1 rfl) ?_
  refine x_rdU (av := [.ref (lo (bq))]) (rest := []) cx hk hw (ha.1) cu_RX4_32_3 (c_o3_uses b tb A T ha ht hT hA hkd bq Q hq hQ) hl.1 rfl rfl (Nat.le_of_ble_eq_true rfl) ⟨by decide, by decide⟩ ⟨Nat.zero_le _, Nat.zero_le _⟩ dX4_fetched_2 ?_
  refine lv_istore_n (lv' := [(2, .int (nI (a_uses Q A))), (0, .ref (lo (b))), (1, .ref (lo (bq)))]) hx hb dX4_fetched_5 rfl hl (by decide) rfl (fun ls hl => ?_)
  refine lv_iconst (v := nI 0) hx hb dX4_fetched_6 rfl ?_
  refine lv_istore_n (lv' := [(3, .int (nI 0)), (2, .int (nI (a_uses Q A))), (0, .ref (lo (b))), (1, .ref (lo (bq)))]) hx hb dX4_fetched_7 rfl hl (by decide) rfl (fun ls hl => ?_)
  refine lv_iconst (v := nI 0) hx hb dX4_fetched_8 rfl ?_
  refine lv_istore (lv' := [(4, .int (nI 0)), (3, .int (nI 0)), (2, .int (nI (a_uses Q A))), (0, .ref (lo (b))), (1, .ref (lo (bq)))]) hx hb dX4_fetched_9 hl (by decide) rfl (fun ls hl => ?_)
  refine lv_iconst (v := (-1)) hx hb dX4_fetched_11 rfl ?_
  refine lv_istore (lv' := [(5, .int ((-1))), (4, .int (nI 0)), (3, .int (nI 0)), (2, .int (nI (a_uses Q A))), (0, .ref (lo (b))), (1, .ref (lo (bq)))]) hx hb dX4_fetched_12 hl (by decide) rfl (fun ls hl => ?_)
  refine lv_iconst (v := nI 0) hx hb dX4_fetched_14 rfl ?_
  refine lv_istore (lv' := [(6, .int (nI 0)), (5, .int ((-1))), (4, .int (nI 0)), (3, .int (nI 0)), (2, .int (nI (a_uses Q A))), (0, .ref (lo (b))), (1, .ref (lo (bq)))]) hx hb dX4_fetched_15 hl (by decide) rfl (fun ls hl => ?_)
  have L17_1 : ∀ (n_ : Nat) (f : Nat) (g : Nat) (z : Nat) (k : Nat), (k ≤ T.1 3) → (a_run T Q A k = (f, g, z)) → T.1 3 - k < n_ → ∀ (ls : Array Slot), lv_has ls 7 [(6, .int (nI k)), (5, .int (nO z)), (4, .int (nI g)), (3, .int (nI f)), (2, .int (nI (a_uses Q A))), (0, .ref (lo (b))), (1, .ref (lo (bq)))] → x_w l 5 pp ee ss mm av bb mt cd vv 17 ls [] := by
    intro n_
    induction n_ with
    | zero => intro f g z k hv hf hm_ ls hl; exact absurd hm_ (Nat.not_lt_zero _)
    | succ n_ ih17_1 =>
      intro f g z k hv hf hm_ ls hl
      have hrl := a_run_le T Q A k
      rw [hf] at hrl
      have hrl1 : f ≤ k ∧ g ≤ k ∧ z ≤ k + 1 := hrl
      have hpo : k / T.1 2 ≤ k := Nat.div_le_self _ _
      refine lv_iload hx hb dX4_fetched_17 (lv_at hl 0 rfl) ?_
      refine lv_aload_n hx hb dX4_fetched_19 rfl (lv_at hl 5 rfl) ?_
      refine x_get cx hk hw (ha.1) f_RX4_36_3 rfl dX4_fetched_20 ?_
      refine x_get cx hk hw (ht.1) f_RX4_74_8 rfl dX4_fetched_23 ?_
      refine x_icmp_ge (tgt := 93) cx dX4_fetched_26 (by decide) (by omega) (fun h26_2 => ?_) (fun h26_2 => ?_)
      · skip
        refine lv_iconst (v := nI 1) hx hb dX4_fetched_93 rfl ?_
        refine lv_iload_n hx hb dX4_fetched_94 rfl (lv_at hl 3 rfl) ?_
        refine lv_aload_n hx hb dX4_fetched_95 rfl (lv_at hl 5 rfl) ?_
        refine x_rdU (av := []) (rest := [.int (nI f), .int (nI 1)]) cx hk hw (ha.1) cu_RX4_68_3 (c_o3_ent b tb A T ha ht hT hA hkd) hl.1 rfl rfl (Nat.le_of_ble_eq_true rfl) ⟨by decide, by decide⟩ ⟨Nat.zero_le _, Nat.zero_le _⟩ dX4_fetched_96 ?_
        refine x_rdSN (av := [.int (nI f), .int (nI (a_ent T A))]) (rest := [.int (nI 1)]) cx hk hw cn_RX4_71 (c_up f (a_ent T A) (by omega) (by omega)) hl.1 rfl rfl (Nat.le_of_ble_eq_true rfl) ⟨by decide, by decide⟩ ⟨Nat.zero_le _, Nat.zero_le _⟩ dX4_fetched_99 ?_
        refine x_iaddN cx dX4_fetched_102 ?_
        refine lv_aload_n hx hb dX4_fetched_103 rfl (lv_at hl 5 rfl) ?_
        refine lv_aload_n hx hb dX4_fetched_104 rfl (lv_at hl 6 rfl) ?_
        refine x_rdU (av := [.ref (lo (bq))]) (rest := [.int (nI (1 + (s_up f (a_ent T A))))]) cx hk hw (ha.1) cu_RX4_56_3 (c_o3_must b tb A T ha ht hT hA hkd bq Q hq hQ) hl.1 rfl rfl (Nat.le_of_ble_eq_true rfl) ⟨by decide, by decide⟩ ⟨Nat.zero_le _, Nat.zero_le _⟩ dX4_fetched_105 ?_
        have J117_3 : ∀ (y3_s0 : Nat) (ey3_s0 : y3_s0 = if true = true then g else 0) (ls : Array Slot), lv_has ls 7 [(6, .int (nI k)), (5, .int (nO z)), (4, .int (nI g)), (3, .int (nI f)), (2, .int (nI (a_uses Q A))), (0, .ref (lo (b))), (1, .ref (lo (bq)))] → x_w l 5 pp ee ss mm av bb mt cd vv 117 ls [.int (nI y3_s0), .int (nI (1 + (s_up f (a_ent T A))))] := by
          intro y3_s0 ey3_s0 ls hl
          refine x_iaddN cx dX4_fetched_117 ?_
          exact x_iret cx hr hlk dX4_fetched_118 ((congrArg (fun z => some (Value.int (nI z))) (show (1 + (s_up f (a_ent T A))) + y3_s0 = a_fetch T Q A from by have ek : T.1 3 = k := (by omega); unfold a_fetch; rw [ek, hf]; simp_all [a_cov, a_ent])).trans hvv)
        refine x_if_eq (tgt := 116) cx dX4_fetched_108 (by decide) (fun h108_4 => ?_) (fun h108_4 => ?_)
        · skip
          refine lv_iconst (v := nI 0) hx hb dX4_fetched_116 rfl ?_
          exact J117_3 0 (by rw [if_neg (fun q => Bool.noConfusion (h108_4.symm.trans q))]) _ (lv_sub hl [0, 1, 2, 3, 4, 5, 6] rfl)
        · skip
          refine lv_iload hx hb dX4_fetched_111 (lv_at hl 2 rfl) ?_
          refine lv_goto (tgt := 117) hx hb dX4_fetched_113 (by decide) ?_
          exact J117_3 g (by rw [if_pos h108_4]) _ (lv_sub hl [0, 1, 2, 3, 4, 5, 6] rfl)
      · skip
        refine lv_aload_n hx hb dX4_fetched_29 rfl (lv_at hl 5 rfl) ?_
        refine lv_iload hx hb dX4_fetched_30 (lv_at hl 0 rfl) ?_
        refine x_rdU (av := [.int (nI k)]) (rest := []) cx hk hw (ha.1) cu_RX4_77_3 (c_o3_holds b tb A T ha ht hT hA hkd k) hl.1 rfl rfl (Nat.le_of_ble_eq_true rfl) ⟨by decide, by decide⟩ ⟨Nat.zero_le _, Nat.zero_le _⟩ dX4_fetched_32 ?_
        refine x_if_eq (tgt := 87) cx dX4_fetched_35 (by decide) (fun h35_5 => ?_) (fun h35_5 => ?_)
        · skip
          refine lv_iinc (v := nI (k + 1)) (lv' := [(6, .int (nI (k + 1))), (5, .int (nO z)), (4, .int (nI g)), (3, .int (nI f)), (2, .int (nI (a_uses Q A))), (0, .ref (lo (b))), (1, .ref (lo (bq)))]) hx hb dX4_fetched_87 hl (k := 0) rfl (nI_add _ 1) (by decide) rfl (fun ls hl => ?_)
          refine lv_goto (tgt := 17) hx hb dX4_fetched_90 (by decide) ?_
          exact ih17_1 f g z (k + 1) (by omega) (by rw [a_run, hf]; first | (simp_all [a_hit]; done) | (simp_all [a_hit]; intros; omega)) (by omega) _ (lv_sub hl [0, 1, 2, 3, 4, 5, 6] rfl)
        · skip
          refine lv_aload_n hx hb dX4_fetched_38 rfl (lv_at hl 5 rfl) ?_
          refine lv_aload_n hx hb dX4_fetched_39 rfl (lv_at hl 6 rfl) ?_
          refine lv_iload_n hx hb dX4_fetched_40 rfl (lv_at hl 4 rfl) ?_
          refine lv_iload hx hb dX4_fetched_41 (lv_at hl 0 rfl) ?_
          refine x_rdU (av := [.ref (lo (bq)), .int (nI (a_uses Q A)), .int (nI k)]) (rest := []) cx hk hw (ha.1) cu_RX4_80_3 (c_o3_finds b tb A T ha ht hT hA hkd bq Q hq hQ (a_uses Q A) k (by omega) (by omega)) hl.1 rfl rfl (Nat.le_of_ble_eq_true rfl) ⟨by decide, by decide⟩ ⟨Nat.zero_le _, Nat.zero_le _⟩ dX4_fetched_43 ?_
          refine x_if_eq (tgt := 87) cx dX4_fetched_46 (by decide) (fun h46_6 => ?_) (fun h46_6 => ?_)
          · skip
            refine lv_iinc (v := nI (k + 1)) (lv' := [(6, .int (nI (k + 1))), (5, .int (nO z)), (4, .int (nI g)), (3, .int (nI f)), (2, .int (nI (a_uses Q A))), (0, .ref (lo (b))), (1, .ref (lo (bq)))]) hx hb dX4_fetched_87 hl (k := 0) rfl (nI_add _ 1) (by decide) rfl (fun ls hl => ?_)
            refine lv_goto (tgt := 17) hx hb dX4_fetched_90 (by decide) ?_
            exact ih17_1 f g z (k + 1) (by omega) (by rw [a_run, hf]; first | (simp_all [a_hit]; done) | (simp_all [a_hit]; intros; omega)) (by omega) _ (lv_sub hl [0, 1, 2, 3, 4, 5, 6] rfl)
          · skip
            refine lv_iinc (v := nI (f + 1)) (lv' := [(3, .int (nI (f + 1))), (6, .int (nI k)), (5, .int (nO z)), (4, .int (nI g)), (2, .int (nI (a_uses Q A))), (0, .ref (lo (b))), (1, .ref (lo (bq)))]) hx hb dX4_fetched_49 hl (k := 3) rfl (nI_add _ 1) (by decide) rfl (fun ls hl => ?_)
            refine lv_iload hx hb dX4_fetched_52 (lv_at hl 3 rfl) ?_
            refine lv_aload_n hx hb dX4_fetched_54 rfl (lv_at hl 5 rfl) ?_
            refine x_get cx hk hw (ha.1) f_RX4_36_3 rfl dX4_fetched_55 ?_
            refine lv_iload hx hb dX4_fetched_58 (lv_at hl 1 rfl) ?_
            refine x_rdV (av := [.int (nI k)]) (rest := [.int (nI g)]) cx hk hw (ht.1) cv_RX4_84_8 (c_t_pageOf tb T ht hT k (by omega)) hl.1 rfl rfl (Nat.le_of_ble_eq_true rfl) ⟨by decide, by decide⟩ ⟨Nat.zero_le _, Nat.zero_le _⟩ dX4_fetched_60 ?_
            refine lv_iload hx hb dX4_fetched_63 (lv_at hl 2 rfl) ?_
            refine x_icmpNO_ne (tgt := 72) cx dX4_fetched_65 (by decide) (by omega) (fun h65_7 => ?_) (fun h65_7 => ?_)
            · skip
              refine lv_iconst (v := nI 1) hx hb dX4_fetched_72 rfl ?_
              refine x_iaddN cx dX4_fetched_73 ?_
              refine lv_istore (lv' := [(4, .int (nI (g + 1))), (3, .int (nI (f + 1))), (6, .int (nI k)), (5, .int (nO z)), (2, .int (nI (a_uses Q A))), (0, .ref (lo (b))), (1, .ref (lo (bq)))]) hx hb dX4_fetched_74 hl (by decide) rfl (fun ls hl => ?_)
              refine lv_aload_n hx hb dX4_fetched_76 rfl (lv_at hl 5 rfl) ?_
              refine x_get cx hk hw (ha.1) f_RX4_36_3 rfl dX4_fetched_77 ?_
              refine lv_iload hx hb dX4_fetched_80 (lv_at hl 2 rfl) ?_
              refine x_rdV (av := [.int (nI k)]) (rest := []) cx hk hw (ht.1) cv_RX4_84_8 (c_t_pageOf tb T ht hT k (by omega)) hl.1 rfl rfl (Nat.le_of_ble_eq_true rfl) ⟨by decide, by decide⟩ ⟨Nat.zero_le _, Nat.zero_le _⟩ dX4_fetched_82 ?_
              refine lv_istore (lv' := [(5, .int (nI (k / T.1 2))), (4, .int (nI (g + 1))), (3, .int (nI (f + 1))), (6, .int (nI k)), (2, .int (nI (a_uses Q A))), (0, .ref (lo (b))), (1, .ref (lo (bq)))]) hx hb dX4_fetched_85 hl (by decide) rfl (fun ls hl => ?_)
              refine lv_iinc (v := nI (k + 1)) (lv' := [(6, .int (nI (k + 1))), (5, .int (nI (k / T.1 2))), (4, .int (nI (g + 1))), (3, .int (nI (f + 1))), (2, .int (nI (a_uses Q A))), (0, .ref (lo (b))), (1, .ref (lo (bq)))]) hx hb dX4_fetched_87 hl (k := 3) rfl (nI_add _ 1) (by decide) rfl (fun ls hl => ?_)
              refine lv_goto (tgt := 17) hx hb dX4_fetched_90 (by decide) ?_
              exact ih17_1 (f + 1) (g + 1) ((k / T.1 2) + 1) (k + 1) (by omega) (by rw [a_run, hf]; first | (simp_all [a_hit]; done) | (simp_all [a_hit]; intros; omega)) (by omega) _ (lv_sub hl [0, 1, 2, 3, 4, 5, 6] rfl)
            · skip
              refine lv_iconst (v := nI 0) hx hb dX4_fetched_68 rfl ?_
              refine lv_goto (tgt := 73) hx hb dX4_fetched_69 (by decide) ?_
              refine x_iaddN cx dX4_fetched_73 ?_
              refine lv_istore (lv' := [(4, .int (nI (g + 0))), (3, .int (nI (f + 1))), (6, .int (nI k)), (5, .int (nO z)), (2, .int (nI (a_uses Q A))), (0, .ref (lo (b))), (1, .ref (lo (bq)))]) hx hb dX4_fetched_74 hl (by decide) rfl (fun ls hl => ?_)
              refine lv_aload_n hx hb dX4_fetched_76 rfl (lv_at hl 5 rfl) ?_
              refine x_get cx hk hw (ha.1) f_RX4_36_3 rfl dX4_fetched_77 ?_
              refine lv_iload hx hb dX4_fetched_80 (lv_at hl 2 rfl) ?_
              refine x_rdV (av := [.int (nI k)]) (rest := []) cx hk hw (ht.1) cv_RX4_84_8 (c_t_pageOf tb T ht hT k (by omega)) hl.1 rfl rfl (Nat.le_of_ble_eq_true rfl) ⟨by decide, by decide⟩ ⟨Nat.zero_le _, Nat.zero_le _⟩ dX4_fetched_82 ?_
              refine lv_istore (lv' := [(5, .int (nI (k / T.1 2))), (4, .int (nI (g + 0))), (3, .int (nI (f + 1))), (6, .int (nI k)), (2, .int (nI (a_uses Q A))), (0, .ref (lo (b))), (1, .ref (lo (bq)))]) hx hb dX4_fetched_85 hl (by decide) rfl (fun ls hl => ?_)
              refine lv_iinc (v := nI (k + 1)) (lv' := [(6, .int (nI (k + 1))), (5, .int (nI (k / T.1 2))), (4, .int (nI (g + 0))), (3, .int (nI (f + 1))), (2, .int (nI (a_uses Q A))), (0, .ref (lo (b))), (1, .ref (lo (bq)))]) hx hb dX4_fetched_87 hl (k := 3) rfl (nI_add _ 1) (by decide) rfl (fun ls hl => ?_)
              refine lv_goto (tgt := 17) hx hb dX4_fetched_90 (by decide) ?_
              exact ih17_1 (f + 1) (g + 0) ((k / T.1 2) + 1) (k + 1) (by omega) (by rw [a_run, hf]; first | (simp_all [a_hit]; done) | (simp_all [a_hit]; intros; omega)) (by omega) _ (lv_sub hl [0, 1, 2, 3, 4, 5, 6] rfl)
  exact L17_1 (_ + 1) 0 0 0 0 (by omega) (by rfl) (Nat.lt_succ_self _) _ (lv_sub hl [0, 1, 2, 3, 4, 5, 6] rfl)
set_option maxHeartbeats 4000000 in
set_option maxRecDepth 100000 in
theorem c_o3_space {l : Launch} {G : x_G} {lo : x_L} {co : x_C} (b tb : Nat) (A : Ad) (T : Tb) (ha : isO3 G lo co b tb A) (ht : isTb G lo co tb T) (hT : Tok T) (hA : Aok T A) (hkd : A.1 0 = 0) : x_Rd l G lo co yX4_space cX4_space 1 (some .int) 4 [.ref (lo (b))] (some (.int (nI (a_space T A)))) := by
  refine x_enter RX4 rfl (by decide) (Nat.le_of_ble_eq_true rfl) ?_
  intro pp ee ss mm bb mt cd ls cx hk hw hr hlk hl
  have hl : lv_has ls 1 [(0, .ref (lo (b)))] := hl
  generalize hav : ([.ref (lo (b))] : List Value).toArray = av at cx ⊢
  generalize hvv : (some (.int (nI (a_space T A))) : Option Value) = vv
  have hx := cx.1
  have hb := cx.2.1
  have hown := cx.2.2.2.1
  have hts := cx.2.2.2.2
  obtain ⟨k1, k2, k3, k4, k5, k6, k7, k8, k9, k0⟩ := id hT
  obtain ⟨m1, m2, m3, m4, m5, m6, m7, m8, m9, m10, m11⟩ := id hA
  have hrw := a_rows_le hT hA
  refine lv_aload_n hx hb dX4_space_0 rfl (lv_at hl 0 rfl) ?_
  refine x_rdU (av := []) (rest := []) cx hk hw (ha.1) cu_RX4_48_3 (c_o3_rows b tb A T ha ht hT hA hkd) hl.1 rfl rfl (Nat.le_of_ble_eq_true rfl) ⟨by decide, by decide⟩ ⟨Nat.zero_le _, Nat.zero_le _⟩ dX4_space_1 ?_
  refine lv_iconst (v := nI 2) hx hb dX4_space_4 rfl ?_
  refine lv_aload_n hx hb dX4_space_5 rfl (lv_at hl 0 rfl) ?_
  refine x_get cx hk hw (ha.1) f_RX4_36_3 rfl dX4_space_6 ?_
  refine x_get cx hk hw (ht.1) f_RX4_45_8 rfl dX4_space_9 ?_
  refine x_imulN cx dX4_space_12 ?_
  refine x_rdSN (av := [.int (nI (a_rows T A)), .int (nI (2 * (T.1 2)))]) (rest := []) cx hk hw cn_RX4_71 (c_up (a_rows T A) (2 * (T.1 2)) (by omega) (by omega)) hl.1 rfl rfl (Nat.le_of_ble_eq_true rfl) ⟨by decide, by decide⟩ ⟨Nat.zero_le _, Nat.zero_le _⟩ dX4_space_13 ?_
  exact x_iret cx hr hlk dX4_space_16 ((congrArg (fun z => some (Value.int (nI z))) (show s_up (a_rows T A) (2 * (T.1 2)) = a_space T A from by simp [a_space, hkd])).trans hvv)
set_option maxHeartbeats 4000000 in
set_option maxRecDepth 100000 in
theorem c_o3_helps {l : Launch} {G : x_G} {lo : x_L} {co : x_C} (b tb : Nat) (A : Ad) (T : Tb) (ha : isO3 G lo co b tb A) (ht : isTb G lo co tb T) (hT : Tok T) (hA : Aok T A) (hkd : A.1 0 = 0) (bq : Nat) (Q : Qn) (hq : isQn G lo co bq tb Q) (hQ : Qok T Q) : x_Rd l G lo co yX4_helps cX4_helps 2 (some .boolean) 4 [.ref (lo (b)), .ref (lo (bq))] (some (.int (bI (a_helps Q A)))) := by
  refine x_enter RX4 rfl (by decide) (Nat.le_of_ble_eq_true rfl) ?_
  intro pp ee ss mm bb mt cd ls cx hk hw hr hlk hl
  have hl : lv_has ls 2 [(0, .ref (lo (b))), (1, .ref (lo (bq)))] := hl
  generalize hav : ([.ref (lo (b)), .ref (lo (bq))] : List Value).toArray = av at cx ⊢
  generalize hvv : (some (.int (bI (a_helps Q A))) : Option Value) = vv
  have hx := cx.1
  have hb := cx.2.1
  have hown := cx.2.2.2.1
  have hts := cx.2.2.2.2
  obtain ⟨k1, k2, k3, k4, k5, k6, k7, k8, k9, k0⟩ := id hT
  obtain ⟨m1, m2, m3, m4, m5, m6, m7, m8, m9, m10, m11⟩ := id hA
  obtain ⟨j1, j2, j3, j4, j5, j6⟩ := id hQ
  have h16 := Qok.t16 hT hQ
  have hu := a_uses_le Q A
  refine lv_aload_n hx hb dX4_helps_0 rfl (lv_at hl 0 rfl) ?_
  refine lv_aload_n hx hb dX4_helps_1 rfl (lv_at hl 1 rfl) ?_
  refine x_rdU (av := [.ref (lo (bq))]) (rest := []) cx hk hw (ha.1) cu_RX4_32_3 (c_o3_uses b tb A T ha ht hT hA hkd bq Q hq hQ) hl.1 rfl rfl (Nat.le_of_ble_eq_true rfl) ⟨by decide, by decide⟩ ⟨Nat.zero_le _, Nat.zero_le _⟩ dX4_helps_2 ?_
  refine x_ifN_le (tgt := 12) cx dX4_helps_5 (by decide) (by omega) (fun h5_1 => ?_) (fun h5_1 => ?_)
  · skip
    refine lv_iconst (v := nI 0) hx hb dX4_helps_12 rfl ?_
    exact x_zretF (b := a_helps Q A) cx hr hlk dX4_helps_13 (by rw [a_helps, if_neg (by omega), if_neg (by omega)]; simp; omega) hvv
  · skip
    refine lv_iconst (v := nI 1) hx hb dX4_helps_8 rfl ?_
    refine lv_goto (tgt := 13) hx hb dX4_helps_9 (by decide) ?_
    exact x_zretT (b := a_helps Q A) cx hr hlk dX4_helps_13 (by rw [a_helps, if_neg (by omega), if_neg (by omega)]; simp; omega) hvv
set_option maxHeartbeats 4000000 in
set_option maxRecDepth 100000 in
theorem c_o3_keep {l : Launch} {G : x_G} {lo : x_L} {co : x_C} (b tb : Nat) (A : Ad) (T : Tb) (ha : isO3 G lo co b tb A) (ht : isTb G lo co tb T) (hT : Tok T) (hA : Aok T A) (hkd : A.1 0 = 0) : x_Rd l G lo co yX3_keeping cX3_keeping 1 (some .int) 1 [.ref (lo (b))] (some (.int (nI (a_keep A)))) := by
  refine x_enter RX3 rfl (by decide) (Nat.le_of_ble_eq_true rfl) ?_
  intro pp ee ss mm bb mt cd ls cx hk hw hr hlk hl
  have hl : lv_has ls 1 [(0, .ref (lo (b)))] := hl
  generalize hav : ([.ref (lo (b))] : List Value).toArray = av at cx ⊢
  generalize hvv : (some (.int (nI (a_keep A))) : Option Value) = vv
  have hx := cx.1
  have hb := cx.2.1
  have hown := cx.2.2.2.1
  have hts := cx.2.2.2.2
  refine lv_iconst (v := nI 2) hx hb dX3_keeping_0 rfl ?_
  exact x_iret cx hr hlk dX3_keeping_1 ((congrArg (fun z => some (Value.int (nI z))) (show 2 = a_keep A from by simp [a_keep, hkd])).trans hvv)
set_option maxHeartbeats 4000000 in
set_option maxRecDepth 100000 in
theorem c_o4_uses {l : Launch} {G : x_G} {lo : x_L} {co : x_C} (b tb : Nat) (A : Ad) (T : Tb) (ha : isO4 G lo co b tb A) (ht : isTb G lo co tb T) (hT : Tok T) (hA : Aok T A) (hkd : A.1 0 = 2) (bq : Nat) (Q : Qn) (hq : isQn G lo co bq tb Q) (hQ : Qok T Q) : x_Rd l G lo co yX4_usedBy cX4_usedBy 3 (some .int) 3 [.ref (lo (b)), .ref (lo (bq))] (some (.int (nI (a_uses Q A)))) := by
  refine x_enter RX4 rfl (by decide) (Nat.le_of_ble_eq_true rfl) ?_
  intro pp ee ss mm bb mt cd ls cx hk hw hr hlk hl
  have hl : lv_has ls 3 [(0, .ref (lo (b))), (1, .ref (lo (bq)))] := hl
  generalize hav : ([.ref (lo (b)), .ref (lo (bq))] : List Value).toArray = av at cx ⊢
  generalize hvv : (some (.int (nI (a_uses Q A))) : Option Value) = vv
  have hx := cx.1
  have hb := cx.2.1
  have hown := cx.2.2.2.1
  have hts := cx.2.2.2.2
  obtain ⟨k1, k2, k3, k4, k5, k6, k7, k8, k9, k0⟩ := id hT
  obtain ⟨m1, m2, m3, m4, m5, m6, m7, m8, m9, m10, m11⟩ := id hA
  obtain ⟨j1, j2, j3, j4, j5, j6⟩ := id hQ
  have h16 := Qok.t16 hT hQ
  have hby := a_by_le hT hA
  refine lv_iconst (v := nI 0) hx hb dX4_usedBy_0 rfl ?_
  refine lv_istore_n (lv' := [(2, .int (nI 0)), (0, .ref (lo (b))), (1, .ref (lo (bq)))]) hx hb dX4_usedBy_1 rfl hl (by decide) rfl (fun ls hl => ?_)
  have L2_1 : ∀ (n_ : Nat) (k : Nat), (k ≤ 3) → (∀ j, j < k → q_like Q (a_by A j) = true) → 3 - k < n_ → ∀ (ls : Array Slot), lv_has ls 3 [(2, .int (nI k)), (0, .ref (lo (b))), (1, .ref (lo (bq)))] → x_w l 3 pp ee ss mm av bb mt cd vv 2 ls [] := by
    intro n_
    induction n_ with
    | zero => intro k hv hall hm_ ls hl; exact absurd hm_ (Nat.not_lt_zero _)
    | succ n_ ih2_1 =>
      intro k hv hall hm_ ls hl
      refine lv_iload_n hx hb dX4_usedBy_2 rfl (lv_at hl 0 rfl) ?_
      refine lv_aload_n hx hb dX4_usedBy_3 rfl (lv_at hl 1 rfl) ?_
      refine x_get cx hk hw (ha.1) f_RX4_19_4 rfl dX4_usedBy_4 ?_
      refine x_alenI cx hk hw (ha.2) dX4_usedBy_7 ?_
      refine x_icmp_ge (tgt := 30) cx dX4_usedBy_8 (by decide) (by first | omega | (have q1 := hby k; omega)) (fun h8_2 => ?_) (fun h8_2 => ?_)
      · skip
        refine lv_iload_n hx hb dX4_usedBy_30 rfl (lv_at hl 0 rfl) ?_
        refine lv_aload_n hx hb dX4_usedBy_31 rfl (lv_at hl 1 rfl) ?_
        refine x_get cx hk hw (ha.1) f_RX4_19_4 rfl dX4_usedBy_32 ?_
        refine x_alenI cx hk hw (ha.2) dX4_usedBy_35 ?_
        refine x_icmp_ge (tgt := 55) cx dX4_usedBy_36 (by decide) (by first | omega | (have q1 := hby k; omega)) (fun h36_3 => ?_) (fun h36_3 => ?_)
        · skip
          refine lv_iload_n hx hb dX4_usedBy_55 rfl (lv_at hl 0 rfl) ?_
          exact x_iret cx hr hlk dX4_usedBy_56 ((congrArg (fun z => some (Value.int (nI z))) (show k = a_uses Q A from by have e := a_lead_eq hv hall (by first | exact Or.inl (by omega) | exact Or.inr (by assumption)); unfold a_uses; rw [e]; first | (rw [if_pos ⟨by omega, by assumption⟩]) | (rw [if_neg (fun q => absurd q.1 (by omega))]) | (rw [if_neg (fun q => Bool.noConfusion (q.2.symm.trans (by assumption)))]))).trans hvv)
        · skip
          refine lv_aload_n hx hb dX4_usedBy_39 rfl (lv_at hl 2 rfl) ?_
          refine lv_aload_n hx hb dX4_usedBy_40 rfl (lv_at hl 1 rfl) ?_
          refine x_get cx hk hw (ha.1) f_RX4_19_4 rfl dX4_usedBy_41 ?_
          refine lv_iload_n hx hb dX4_usedBy_44 rfl (lv_at hl 0 rfl) ?_
          refine x_ialdN cx hk hw (ha.2) (by first | omega | (have q1 := hby k; omega)) (by decide) dX4_usedBy_45 ?_
          have q1 := hby k
          refine x_rdV (av := [.int (nO (a_by A k))]) (rest := []) cx hk hw (hq.1) cv_RX4_29_5 (c_q_tests bq tb Q T hq ht hT hQ (a_by A k) (by omega)) hl.1 rfl rfl (Nat.le_of_ble_eq_true rfl) ⟨by decide, by decide⟩ ⟨Nat.zero_le _, Nat.zero_le _⟩ dX4_usedBy_46 ?_
          refine x_if_eq (tgt := 55) cx dX4_usedBy_49 (by decide) (fun h49_4 => ?_) (fun h49_4 => ?_)
          · skip
            refine lv_iload_n hx hb dX4_usedBy_55 rfl (lv_at hl 0 rfl) ?_
            exact x_iret cx hr hlk dX4_usedBy_56 ((congrArg (fun z => some (Value.int (nI z))) (show k = a_uses Q A from by have e := a_lead_eq hv hall (by first | exact Or.inl (by omega) | exact Or.inr (by assumption)); unfold a_uses; rw [e]; first | (rw [if_pos ⟨by omega, by assumption⟩]) | (rw [if_neg (fun q => absurd q.1 (by omega))]) | (rw [if_neg (fun q => Bool.noConfusion (q.2.symm.trans (by assumption)))]))).trans hvv)
          · skip
            refine lv_iinc (v := nI (k + 1)) (lv' := [(2, .int (nI (k + 1))), (0, .ref (lo (b))), (1, .ref (lo (bq)))]) hx hb dX4_usedBy_52 hl (k := 0) rfl (nI_add _ 1) (by decide) rfl (fun ls hl => ?_)
            refine lv_iload_n hx hb dX4_usedBy_55 rfl (lv_at hl 0 rfl) ?_
            exact x_iret cx hr hlk dX4_usedBy_56 ((congrArg (fun z => some (Value.int (nI z))) (show k + 1 = a_uses Q A from by have e := a_lead_eq hv hall (by first | exact Or.inl (by omega) | exact Or.inr (by assumption)); unfold a_uses; rw [e]; first | (rw [if_pos ⟨by omega, by assumption⟩]) | (rw [if_neg (fun q => absurd q.1 (by omega))]) | (rw [if_neg (fun q => Bool.noConfusion (q.2.symm.trans (by assumption)))]))).trans hvv)
      · skip
        refine lv_aload_n hx hb dX4_usedBy_11 rfl (lv_at hl 2 rfl) ?_
        refine lv_aload_n hx hb dX4_usedBy_12 rfl (lv_at hl 1 rfl) ?_
        refine x_get cx hk hw (ha.1) f_RX4_19_4 rfl dX4_usedBy_13 ?_
        refine lv_iload_n hx hb dX4_usedBy_16 rfl (lv_at hl 0 rfl) ?_
        refine x_ialdN cx hk hw (ha.2) (by first | omega | (have q1 := hby k; omega)) (by decide) dX4_usedBy_17 ?_
        have q1 := hby k
        refine x_rdV (av := [.int (nO (a_by A k))]) (rest := []) cx hk hw (hq.1) cv_RX4_23_5 (c_q_like bq tb Q T hq ht hT hQ (a_by A k) (by omega)) hl.1 rfl rfl (Nat.le_of_ble_eq_true rfl) ⟨by decide, by decide⟩ ⟨Nat.zero_le _, Nat.zero_le _⟩ dX4_usedBy_18 ?_
        refine x_if_eq (tgt := 30) cx dX4_usedBy_21 (by decide) (fun h21_5 => ?_) (fun h21_5 => ?_)
        · skip
          refine lv_iload_n hx hb dX4_usedBy_30 rfl (lv_at hl 0 rfl) ?_
          refine lv_aload_n hx hb dX4_usedBy_31 rfl (lv_at hl 1 rfl) ?_
          refine x_get cx hk hw (ha.1) f_RX4_19_4 rfl dX4_usedBy_32 ?_
          refine x_alenI cx hk hw (ha.2) dX4_usedBy_35 ?_
          refine x_icmp_ge (tgt := 55) cx dX4_usedBy_36 (by decide) (by first | omega | (have q1 := hby k; omega)) (fun h36_6 => ?_) (fun h36_6 => ?_)
          · skip
            refine lv_iload_n hx hb dX4_usedBy_55 rfl (lv_at hl 0 rfl) ?_
            exact x_iret cx hr hlk dX4_usedBy_56 ((congrArg (fun z => some (Value.int (nI z))) (show k = a_uses Q A from by have e := a_lead_eq hv hall (by first | exact Or.inl (by omega) | exact Or.inr (by assumption)); unfold a_uses; rw [e]; first | (rw [if_pos ⟨by omega, by assumption⟩]) | (rw [if_neg (fun q => absurd q.1 (by omega))]) | (rw [if_neg (fun q => Bool.noConfusion (q.2.symm.trans (by assumption)))]))).trans hvv)
          · skip
            refine lv_aload_n hx hb dX4_usedBy_39 rfl (lv_at hl 2 rfl) ?_
            refine lv_aload_n hx hb dX4_usedBy_40 rfl (lv_at hl 1 rfl) ?_
            refine x_get cx hk hw (ha.1) f_RX4_19_4 rfl dX4_usedBy_41 ?_
            refine lv_iload_n hx hb dX4_usedBy_44 rfl (lv_at hl 0 rfl) ?_
            refine x_ialdN cx hk hw (ha.2) (by first | omega | (have q1 := hby k; omega)) (by decide) dX4_usedBy_45 ?_
            have q1 := hby k
            refine x_rdV (av := [.int (nO (a_by A k))]) (rest := []) cx hk hw (hq.1) cv_RX4_29_5 (c_q_tests bq tb Q T hq ht hT hQ (a_by A k) (by omega)) hl.1 rfl rfl (Nat.le_of_ble_eq_true rfl) ⟨by decide, by decide⟩ ⟨Nat.zero_le _, Nat.zero_le _⟩ dX4_usedBy_46 ?_
            refine x_if_eq (tgt := 55) cx dX4_usedBy_49 (by decide) (fun h49_7 => ?_) (fun h49_7 => ?_)
            · skip
              refine lv_iload_n hx hb dX4_usedBy_55 rfl (lv_at hl 0 rfl) ?_
              exact x_iret cx hr hlk dX4_usedBy_56 ((congrArg (fun z => some (Value.int (nI z))) (show k = a_uses Q A from by have e := a_lead_eq hv hall (by first | exact Or.inl (by omega) | exact Or.inr (by assumption)); unfold a_uses; rw [e]; first | (rw [if_pos ⟨by omega, by assumption⟩]) | (rw [if_neg (fun q => absurd q.1 (by omega))]) | (rw [if_neg (fun q => Bool.noConfusion (q.2.symm.trans (by assumption)))]))).trans hvv)
            · skip
              refine lv_iinc (v := nI (k + 1)) (lv' := [(2, .int (nI (k + 1))), (0, .ref (lo (b))), (1, .ref (lo (bq)))]) hx hb dX4_usedBy_52 hl (k := 0) rfl (nI_add _ 1) (by decide) rfl (fun ls hl => ?_)
              refine lv_iload_n hx hb dX4_usedBy_55 rfl (lv_at hl 0 rfl) ?_
              exact x_iret cx hr hlk dX4_usedBy_56 ((congrArg (fun z => some (Value.int (nI z))) (show k + 1 = a_uses Q A from by have e := a_lead_eq hv hall (by first | exact Or.inl (by omega) | exact Or.inr (by assumption)); unfold a_uses; rw [e]; first | (rw [if_pos ⟨by omega, by assumption⟩]) | (rw [if_neg (fun q => absurd q.1 (by omega))]) | (rw [if_neg (fun q => Bool.noConfusion (q.2.symm.trans (by assumption)))]))).trans hvv)
        · skip
          refine lv_iinc (v := nI (k + 1)) (lv' := [(2, .int (nI (k + 1))), (0, .ref (lo (b))), (1, .ref (lo (bq)))]) hx hb dX4_usedBy_24 hl (k := 0) rfl (nI_add _ 1) (by decide) rfl (fun ls hl => ?_)
          refine lv_goto (tgt := 2) hx hb dX4_usedBy_27 (by decide) ?_
          exact ih2_1 (k + 1) (by omega) (by intro j hj; rcases Nat.lt_succ_iff_lt_or_eq.mp hj with q | q; exact hall j q; rw [q]; assumption) (by omega) _ (lv_sub hl [0, 1, 2] rfl)
  exact L2_1 (_ + 1) 0 (by omega) (by exact fun j h => absurd h (Nat.not_lt_zero j)) (Nat.lt_succ_self _) _ (lv_sub hl [0, 1, 2] rfl)
set_option maxHeartbeats 4000000 in
set_option maxRecDepth 100000 in
theorem c_o4_rows {l : Launch} {G : x_G} {lo : x_L} {co : x_C} (b tb : Nat) (A : Ad) (T : Tb) (ha : isO4 G lo co b tb A) (ht : isTb G lo co tb T) (hT : Tok T) (hA : Aok T A) (hkd : A.1 0 = 2) : x_Rd l G lo co yX5_foretoldRows cX5_foretoldRows 1 (some .int) 3 [.ref (lo (b))] (some (.int (nI (a_rows T A)))) := by
  refine x_enter RX5 rfl (by decide) (Nat.le_of_ble_eq_true rfl) ?_
  intro pp ee ss mm bb mt cd ls cx hk hw hr hlk hl
  have hl : lv_has ls 1 [(0, .ref (lo (b)))] := hl
  generalize hav : ([.ref (lo (b))] : List Value).toArray = av at cx ⊢
  generalize hvv : (some (.int (nI (a_rows T A))) : Option Value) = vv
  have hx := cx.1
  have hb := cx.2.1
  have hown := cx.2.2.2.1
  have hts := cx.2.2.2.2
  obtain ⟨k1, k2, k3, k4, k5, k6, k7, k8, k9, k0⟩ := id hT
  obtain ⟨m1, m2, m3, m4, m5, m6, m7, m8, m9, m10, m11⟩ := id hA
  have m6b := m6 (Or.inl hkd)
  refine lv_aload_n hx hb dX5_foretoldRows_0 rfl (lv_at hl 0 rfl) ?_
  refine x_get cx hk hw (ha.1) f_RX5_27_4 rfl dX5_foretoldRows_1 ?_
  refine lv_aload_n hx hb dX5_foretoldRows_4 rfl (lv_at hl 0 rfl) ?_
  refine x_get cx hk hw (ha.1) f_RX5_27_4 rfl dX5_foretoldRows_5 ?_
  refine x_get cx hk hw (ht.1) f_RX5_31_8 rfl dX5_foretoldRows_8 ?_
  refine lv_aload_n hx hb dX5_foretoldRows_11 rfl (lv_at hl 0 rfl) ?_
  refine x_get cx hk hw (ha.1) f_RX5_9_4 rfl dX5_foretoldRows_12 ?_
  refine lv_aload_n hx hb dX5_foretoldRows_15 rfl (lv_at hl 0 rfl) ?_
  refine x_get cx hk hw (ha.1) f_RX5_15_4 rfl dX5_foretoldRows_16 ?_
  refine lv_aload_n hx hb dX5_foretoldRows_19 rfl (lv_at hl 0 rfl) ?_
  refine x_get cx hk hw (ha.1) f_RX5_18_4 rfl dX5_foretoldRows_20 ?_
  refine x_rdV (av := [.int (nI (T.1 5)), .int (nI (A.1 3)), .int (nI (A.1 4)), .int (nI (A.1 5))]) (rest := []) cx hk hw (ht.1) cv_RX5_36_8 (c_t_pass tb T ht hT (T.1 5) (A.1 3) (A.1 4) (A.1 5) (by omega) (by omega) (by omega) (by omega)) hl.1 rfl rfl (Nat.le_of_ble_eq_true rfl) ⟨by decide, by decide⟩ ⟨Nat.zero_le _, Nat.zero_le _⟩ dX5_foretoldRows_23 ?_
  exact x_iret cx hr hlk dX5_foretoldRows_26 ((congrArg (fun z => some (Value.int (nI z))) (show t_pass T (T.1 5) (A.1 3) (A.1 4) (A.1 5) = a_rows T A from by rw [a_rows, if_pos hkd])).trans hvv)
set_option maxHeartbeats 4000000 in
set_option maxRecDepth 100000 in
theorem c_o4_holds {l : Launch} {G : x_G} {lo : x_L} {co : x_C} (b tb : Nat) (A : Ad) (T : Tb) (ha : isO4 G lo co b tb A) (ht : isTb G lo co tb T) (hT : Tok T) (hA : Aok T A) (hkd : A.1 0 = 2) (r : Nat) (hr_ : r < 2 ^ 31) : x_Rd l G lo co yX5_holds cX5_holds 2 (some .boolean) 3 [.ref (lo (b)), .int (nI r)] (some (.int (bI (decide (A.1 4 ≤ t_v T r (A.1 3)) && decide (t_v T r (A.1 3) ≤ A.1 5))))) := by
  refine x_enter RX5 rfl (by decide) (Nat.le_of_ble_eq_true rfl) ?_
  intro pp ee ss mm bb mt cd ls cx hk hw hr hlk hl
  have hl : lv_has ls 2 [(0, .ref (lo (b))), (1, .int (nI r))] := hl
  generalize hav : ([.ref (lo (b)), .int (nI r)] : List Value).toArray = av at cx ⊢
  generalize hvv : (some (.int (bI (decide (A.1 4 ≤ t_v T r (A.1 3)) && decide (t_v T r (A.1 3) ≤ A.1 5)))) : Option Value) = vv
  have hx := cx.1
  have hb := cx.2.1
  have hown := cx.2.2.2.1
  have hts := cx.2.2.2.2
  obtain ⟨k1, k2, k3, k4, k5, k6, k7, k8, k9, k0⟩ := id hT
  obtain ⟨m1, m2, m3, m4, m5, m6, m7, m8, m9, m10, m11⟩ := id hA
  have m6b := m6 (Or.inl hkd)
  have q7 := t_v_le hT r (A.1 3)
  refine lv_aload_n hx hb dX5_holds_0 rfl (lv_at hl 0 rfl) ?_
  refine x_get cx hk hw (ha.1) f_RX5_27_4 rfl dX5_holds_1 ?_
  refine lv_iload_n hx hb dX5_holds_4 rfl (lv_at hl 1 rfl) ?_
  refine lv_aload_n hx hb dX5_holds_5 rfl (lv_at hl 0 rfl) ?_
  refine x_get cx hk hw (ha.1) f_RX5_9_4 rfl dX5_holds_6 ?_
  refine x_rdV (av := [.int (nI r), .int (nI (A.1 3))]) (rest := []) cx hk hw (ht.1) cv_RX5_40_8 (c_t_val tb T ht hT r (A.1 3) (by omega) (by omega)) hl.1 rfl rfl (Nat.le_of_ble_eq_true rfl) ⟨by decide, by decide⟩ ⟨Nat.zero_le _, Nat.zero_le _⟩ dX5_holds_9 ?_
  refine lv_aload_n hx hb dX5_holds_12 rfl (lv_at hl 0 rfl) ?_
  refine x_get cx hk hw (ha.1) f_RX5_15_4 rfl dX5_holds_13 ?_
  refine lv_aload_n hx hb dX5_holds_16 rfl (lv_at hl 0 rfl) ?_
  refine x_get cx hk hw (ha.1) f_RX5_18_4 rfl dX5_holds_17 ?_
  refine x_rdSN (av := [.int (nI (t_v T r (A.1 3))), .int (nI (A.1 4)), .int (nI (A.1 5))]) (rest := []) cx hk hw cn_RX5_44 (c_btw (nI (t_v T r (A.1 3))) (nI (A.1 4)) (nI (A.1 5))) hl.1 rfl rfl (Nat.le_of_ble_eq_true rfl) ⟨by decide, by decide⟩ ⟨Nat.zero_le _, Nat.zero_le _⟩ dX5_holds_20 ?_
  exact x_zretB (b := decide (A.1 4 ≤ t_v T r (A.1 3)) && decide (t_v T r (A.1 3) ≤ A.1 5)) cx hr hlk dX5_holds_23 (by exact s_btw_nI (by omega) (by omega) (by omega)) hvv
set_option maxHeartbeats 4000000 in
set_option maxRecDepth 100000 in
theorem c_o4_must {l : Launch} {G : x_G} {lo : x_L} {co : x_C} (b tb : Nat) (A : Ad) (T : Tb) (ha : isO4 G lo co b tb A) (ht : isTb G lo co tb T) (hT : Tok T) (hA : Aok T A) (hkd : A.1 0 = 2) (bq : Nat) (Q : Qn) (hq : isQn G lo co bq tb Q) (hQ : Qok T Q) : x_Rd l G lo co yX4_mustFetch cX4_mustFetch 2 (some .boolean) 1 [.ref (lo (b)), .ref (lo (bq))] (some (.int (bI (true)))) := by
  refine x_enter RX4 rfl (by decide) (Nat.le_of_ble_eq_true rfl) ?_
  intro pp ee ss mm bb mt cd ls cx hk hw hr hlk hl
  have hl : lv_has ls 2 [(0, .ref (lo (b))), (1, .ref (lo (bq)))] := hl
  generalize hav : ([.ref (lo (b)), .ref (lo (bq))] : List Value).toArray = av at cx ⊢
  generalize hvv : (some (.int (bI (true))) : Option Value) = vv
  have hx := cx.1
  have hb := cx.2.1
  have hown := cx.2.2.2.1
  have hts := cx.2.2.2.2
  refine lv_iconst (v := nI 1) hx hb dX4_mustFetch_0 rfl ?_
  exact x_zretT (b := true) cx hr hlk dX4_mustFetch_1 (by rfl) hvv
set_option maxHeartbeats 4000000 in
set_option maxRecDepth 100000 in
theorem c_o4_ent {l : Launch} {G : x_G} {lo : x_L} {co : x_C} (b tb : Nat) (A : Ad) (T : Tb) (ha : isO4 G lo co b tb A) (ht : isTb G lo co tb T) (hT : Tok T) (hA : Aok T A) (hkd : A.1 0 = 2) : x_Rd l G lo co yX4_entriesOnPage cX4_entriesOnPage 1 (some .int) 1 [.ref (lo (b))] (some (.int (nI (a_ent T A)))) := by
  refine x_enter RX4 rfl (by decide) (Nat.le_of_ble_eq_true rfl) ?_
  intro pp ee ss mm bb mt cd ls cx hk hw hr hlk hl
  have hl : lv_has ls 1 [(0, .ref (lo (b)))] := hl
  generalize hav : ([.ref (lo (b))] : List Value).toArray = av at cx ⊢
  generalize hvv : (some (.int (nI (a_ent T A))) : Option Value) = vv
  have hx := cx.1
  have hb := cx.2.1
  have hown := cx.2.2.2.1
  have hts := cx.2.2.2.2
  obtain ⟨k1, k2, k3, k4, k5, k6, k7, k8, k9, k0⟩ := id hT
  obtain ⟨m1, m2, m3, m4, m5, m6, m7, m8, m9, m10, m11⟩ := id hA
  refine lv_iconst (v := nI 2) hx hb dX4_entriesOnPage_0 rfl ?_
  refine lv_aload_n hx hb dX4_entriesOnPage_1 rfl (lv_at hl 0 rfl) ?_
  refine x_get cx hk hw (ha.1) f_RX4_36_4 rfl dX4_entriesOnPage_2 ?_
  refine x_get cx hk hw (ht.1) f_RX4_45_8 rfl dX4_entriesOnPage_5 ?_
  refine x_imulN cx dX4_entriesOnPage_8 ?_
  exact x_iret cx hr hlk dX4_entriesOnPage_9 ((congrArg (fun z => some (Value.int (nI z))) (show 2 * (T.1 2) = a_ent T A from by simp [a_ent, hkd])).trans hvv)
set_option maxHeartbeats 4000000 in
set_option maxRecDepth 100000 in
theorem c_o4_cost {l : Launch} {G : x_G} {lo : x_L} {co : x_C} (b tb : Nat) (A : Ad) (T : Tb) (ha : isO4 G lo co b tb A) (ht : isTb G lo co tb T) (hT : Tok T) (hA : Aok T A) (hkd : A.1 0 = 2) (bq : Nat) (Q : Qn) (hq : isQn G lo co bq tb Q) (hQ : Qok T Q) : x_Rd l G lo co yX4_foretold cX4_foretold 5 (some .int) 4 [.ref (lo (b)), .ref (lo (bq))] (some (.int (nI (a_cost T Q A)))) := by
  refine x_enter RX4 rfl (by decide) (Nat.le_of_ble_eq_true rfl) ?_
  intro pp ee ss mm bb mt cd ls cx hk hw hr hlk hl
  have hl : lv_has ls 5 [(0, .ref (lo (b))), (1, .ref (lo (bq)))] := hl
  generalize hav : ([.ref (lo (b)), .ref (lo (bq))] : List Value).toArray = av at cx ⊢
  generalize hvv : (some (.int (nI (a_cost T Q A))) : Option Value) = vv
  have hx := cx.1
  have hb := cx.2.1
  have hown := cx.2.2.2.1
  have hts := cx.2.2.2.2
  obtain ⟨k1, k2, k3, k4, k5, k6, k7, k8, k9, k0⟩ := id hT
  obtain ⟨m1, m2, m3, m4, m5, m6, m7, m8, m9, m10, m11⟩ := id hA
  obtain ⟨j1, j2, j3, j4, j5, j6⟩ := id hQ
  have h16 := Qok.t16 hT hQ
  have hby := a_by_le hT hA
  have hu := a_uses_le Q A
  have hrw := a_rows_le hT hA
  have hent : a_ent T A ≤ 16 ∧ 2 ≤ a_ent T A := by unfold a_ent; split <;> omega
  have hpg := s_up_60 (n := T.1 5) (d := T.1 2) (by omega) (by omega)
  refine lv_aload_n hx hb dX4_foretold_0 rfl (lv_at hl 0 rfl) ?_
  refine x_rdU (av := []) (rest := []) cx hk hw (ha.1) cu_RX4_48_4 (c_o4_rows b tb A T ha ht hT hA hkd) hl.1 rfl rfl (Nat.le_of_ble_eq_true rfl) ⟨by decide, by decide⟩ ⟨Nat.zero_le _, Nat.zero_le _⟩ dX4_foretold_1 ?_
  refine lv_istore_n (lv' := [(2, .int (nI (a_rows T A))), (0, .ref (lo (b))), (1, .ref (lo (bq)))]) hx hb dX4_foretold_4 rfl hl (by decide) rfl (fun ls hl => ?_)
  refine lv_aload_n hx hb dX4_foretold_5 rfl (lv_at hl 1 rfl) ?_
  refine lv_aload_n hx hb dX4_foretold_6 rfl (lv_at hl 2 rfl) ?_
  refine x_rdU (av := [.ref (lo (bq))]) (rest := []) cx hk hw (ha.1) cu_RX4_32_4 (c_o4_uses b tb A T ha ht hT hA hkd bq Q hq hQ) hl.1 rfl rfl (Nat.le_of_ble_eq_true rfl) ⟨by decide, by decide⟩ ⟨Nat.zero_le _, Nat.zero_le _⟩ dX4_foretold_7 ?_
  refine lv_istore_n (lv' := [(3, .int (nI (a_uses Q A))), (2, .int (nI (a_rows T A))), (0, .ref (lo (b))), (1, .ref (lo (bq)))]) hx hb dX4_foretold_10 rfl hl (by decide) rfl (fun ls hl => ?_)
  refine lv_iconst (v := nI 0) hx hb dX4_foretold_11 rfl ?_
  refine lv_istore (lv' := [(4, .int (nI 0)), (3, .int (nI (a_uses Q A))), (2, .int (nI (a_rows T A))), (0, .ref (lo (b))), (1, .ref (lo (bq)))]) hx hb dX4_foretold_12 hl (by decide) rfl (fun ls hl => ?_)
  have L14_1 : ∀ (n_ : Nat) (f : Nat) (k : Nat), (k ≤ a_uses Q A) → (f = a_fold T Q A (a_rows T A) k) → a_uses Q A - k < n_ → ∀ (ls : Array Slot), lv_has ls 5 [(4, .int (nI k)), (3, .int (nI (a_uses Q A))), (2, .int (nI f)), (0, .ref (lo (b))), (1, .ref (lo (bq)))] → x_w l 4 pp ee ss mm av bb mt cd vv 14 ls [] := by
    intro n_
    induction n_ with
    | zero => intro f k hv hf hm_ ls hl; exact absurd hm_ (Nat.not_lt_zero _)
    | succ n_ ih14_1 =>
      intro f k hv hf hm_ ls hl
      have fb0 : f ≤ 60 := by rw [hf]; have := a_fold_le (A := A) hT hQ (a_rows T A) k; omega
      refine lv_iload hx hb dX4_foretold_14 (lv_at hl 0 rfl) ?_
      refine lv_iload_n hx hb dX4_foretold_16 rfl (lv_at hl 1 rfl) ?_
      refine x_icmp_ge (tgt := 49) cx dX4_foretold_17 (by decide) (by omega) (fun h17_2 => ?_) (fun h17_2 => ?_)
      · skip
        have fb : f ≤ 60 := by rw [hf]; have := a_fold_le (A := A) hT hQ (a_rows T A) k; omega
        refine lv_aload_n hx hb dX4_foretold_49 rfl (lv_at hl 3 rfl) ?_
        refine lv_aload_n hx hb dX4_foretold_50 rfl (lv_at hl 4 rfl) ?_
        refine x_rdU (av := [.ref (lo (bq))]) (rest := []) cx hk hw (ha.1) cu_RX4_56_4 (c_o4_must b tb A T ha ht hT hA hkd bq Q hq hQ) hl.1 rfl rfl (Nat.le_of_ble_eq_true rfl) ⟨by decide, by decide⟩ ⟨Nat.zero_le _, Nat.zero_le _⟩ dX4_foretold_51 ?_
        have J72_3 : ∀ (y3_s0 : Nat) (ey3_s0 : y3_s0 = if true = true then (min f (s_up (T.1 5) (T.1 2))) else 0) (ls : Array Slot), lv_has ls 5 [(4, .int (nI k)), (3, .int (nI (a_uses Q A))), (2, .int (nI f)), (0, .ref (lo (b))), (1, .ref (lo (bq)))] → x_w l 4 pp ee ss mm av bb mt cd vv 72 ls [.int (nI y3_s0)] := by
          intro y3_s0 ey3_s0 ls hl
          refine lv_istore (lv' := [(4, .int (nI y3_s0)), (3, .int (nI (a_uses Q A))), (2, .int (nI f)), (0, .ref (lo (b))), (1, .ref (lo (bq)))]) hx hb dX4_foretold_72 hl (by decide) rfl (fun ls hl => ?_)
          refine lv_iconst (v := nI 1) hx hb dX4_foretold_74 rfl ?_
          refine lv_iload_n hx hb dX4_foretold_75 rfl (lv_at hl 2 rfl) ?_
          refine lv_aload_n hx hb dX4_foretold_76 rfl (lv_at hl 3 rfl) ?_
          refine x_rdU (av := []) (rest := [.int (nI f), .int (nI 1)]) cx hk hw (ha.1) cu_RX4_68_4 (c_o4_ent b tb A T ha ht hT hA hkd) hl.1 rfl rfl (Nat.le_of_ble_eq_true rfl) ⟨by decide, by decide⟩ ⟨Nat.zero_le _, Nat.zero_le _⟩ dX4_foretold_77 ?_
          refine x_rdSN (av := [.int (nI f), .int (nI (a_ent T A))]) (rest := [.int (nI 1)]) cx hk hw cn_RX4_71 (c_up f (a_ent T A) (by omega) (by omega)) hl.1 rfl rfl (Nat.le_of_ble_eq_true rfl) ⟨by decide, by decide⟩ ⟨Nat.zero_le _, Nat.zero_le _⟩ dX4_foretold_80 ?_
          refine x_iaddN cx dX4_foretold_83 ?_
          refine lv_iload hx hb dX4_foretold_84 (lv_at hl 0 rfl) ?_
          refine x_iaddN cx dX4_foretold_86 ?_
          exact x_iret cx hr hlk dX4_foretold_87 ((congrArg (fun z => some (Value.int (nI z))) (show (1 + (s_up f (a_ent T A))) + y3_s0 = a_cost T Q A from by have ek : k = a_uses Q A := (by omega); rw [ek] at hf; have hm : f = a_mat T Q A := hf; unfold a_cost; rw [← hm]; simp_all [a_cov, a_ent])).trans hvv)
        refine x_if_eq (tgt := 71) cx dX4_foretold_54 (by decide) (fun h54_4 => ?_) (fun h54_4 => ?_)
        · skip
          refine lv_iconst (v := nI 0) hx hb dX4_foretold_71 rfl ?_
          exact J72_3 0 (by rw [if_neg (fun q => Bool.noConfusion (h54_4.symm.trans q))]) _ (lv_sub hl [0, 1, 2, 3, 4] rfl)
        · skip
          refine lv_iload_n hx hb dX4_foretold_57 rfl (lv_at hl 2 rfl) ?_
          refine lv_aload_n hx hb dX4_foretold_58 rfl (lv_at hl 3 rfl) ?_
          refine x_get cx hk hw (ha.1) f_RX4_36_4 rfl dX4_foretold_59 ?_
          refine x_rdV (av := []) (rest := [.int (nI f)]) cx hk hw (ht.1) cv_RX4_60_8 (c_t_cpages tb T ht hT) hl.1 rfl rfl (Nat.le_of_ble_eq_true rfl) ⟨by decide, by decide⟩ ⟨Nat.zero_le _, Nat.zero_le _⟩ dX4_foretold_62 ?_
          refine x_mmin cx hl.1 w_694 (by omega) w_244 w_8 w_245 ⟨Nat.le_of_ble_eq_true rfl, Nat.le_of_ble_eq_true rfl⟩ ⟨Nat.zero_le _, Nat.zero_le _⟩ dX4_foretold_65 ?_
          refine lv_goto (tgt := 72) hx hb dX4_foretold_68 (by decide) ?_
          exact J72_3 (min f (s_up (T.1 5) (T.1 2))) (by rw [if_pos h54_4]) _ (lv_sub hl [0, 1, 2, 3, 4] rfl)
      · skip
        refine lv_iload hx hb dX4_foretold_20 (lv_at hl 0 rfl) ?_
        refine lv_aload_n hx hb dX4_foretold_22 rfl (lv_at hl 3 rfl) ?_
        refine x_get cx hk hw (ha.1) f_RX4_19_4 rfl dX4_foretold_23 ?_
        refine x_alenI cx hk hw (ha.2) dX4_foretold_26 ?_
        refine x_icmp_ge (tgt := 49) cx dX4_foretold_27 (by decide) (by omega) (fun h27_5 => ?_) (fun h27_5 => ?_)
        · skip
          have fb : f ≤ 60 := by rw [hf]; have := a_fold_le (A := A) hT hQ (a_rows T A) k; omega
          refine lv_aload_n hx hb dX4_foretold_49 rfl (lv_at hl 3 rfl) ?_
          refine lv_aload_n hx hb dX4_foretold_50 rfl (lv_at hl 4 rfl) ?_
          refine x_rdU (av := [.ref (lo (bq))]) (rest := []) cx hk hw (ha.1) cu_RX4_56_4 (c_o4_must b tb A T ha ht hT hA hkd bq Q hq hQ) hl.1 rfl rfl (Nat.le_of_ble_eq_true rfl) ⟨by decide, by decide⟩ ⟨Nat.zero_le _, Nat.zero_le _⟩ dX4_foretold_51 ?_
          have J72_6 : ∀ (y6_s0 : Nat) (ey6_s0 : y6_s0 = if true = true then (min f (s_up (T.1 5) (T.1 2))) else 0) (ls : Array Slot), lv_has ls 5 [(4, .int (nI k)), (3, .int (nI (a_uses Q A))), (2, .int (nI f)), (0, .ref (lo (b))), (1, .ref (lo (bq)))] → x_w l 4 pp ee ss mm av bb mt cd vv 72 ls [.int (nI y6_s0)] := by
            intro y6_s0 ey6_s0 ls hl
            refine lv_istore (lv' := [(4, .int (nI y6_s0)), (3, .int (nI (a_uses Q A))), (2, .int (nI f)), (0, .ref (lo (b))), (1, .ref (lo (bq)))]) hx hb dX4_foretold_72 hl (by decide) rfl (fun ls hl => ?_)
            refine lv_iconst (v := nI 1) hx hb dX4_foretold_74 rfl ?_
            refine lv_iload_n hx hb dX4_foretold_75 rfl (lv_at hl 2 rfl) ?_
            refine lv_aload_n hx hb dX4_foretold_76 rfl (lv_at hl 3 rfl) ?_
            refine x_rdU (av := []) (rest := [.int (nI f), .int (nI 1)]) cx hk hw (ha.1) cu_RX4_68_4 (c_o4_ent b tb A T ha ht hT hA hkd) hl.1 rfl rfl (Nat.le_of_ble_eq_true rfl) ⟨by decide, by decide⟩ ⟨Nat.zero_le _, Nat.zero_le _⟩ dX4_foretold_77 ?_
            refine x_rdSN (av := [.int (nI f), .int (nI (a_ent T A))]) (rest := [.int (nI 1)]) cx hk hw cn_RX4_71 (c_up f (a_ent T A) (by omega) (by omega)) hl.1 rfl rfl (Nat.le_of_ble_eq_true rfl) ⟨by decide, by decide⟩ ⟨Nat.zero_le _, Nat.zero_le _⟩ dX4_foretold_80 ?_
            refine x_iaddN cx dX4_foretold_83 ?_
            refine lv_iload hx hb dX4_foretold_84 (lv_at hl 0 rfl) ?_
            refine x_iaddN cx dX4_foretold_86 ?_
            exact x_iret cx hr hlk dX4_foretold_87 ((congrArg (fun z => some (Value.int (nI z))) (show (1 + (s_up f (a_ent T A))) + y6_s0 = a_cost T Q A from by have ek : k = a_uses Q A := (by omega); rw [ek] at hf; have hm : f = a_mat T Q A := hf; unfold a_cost; rw [← hm]; simp_all [a_cov, a_ent])).trans hvv)
          refine x_if_eq (tgt := 71) cx dX4_foretold_54 (by decide) (fun h54_7 => ?_) (fun h54_7 => ?_)
          · skip
            refine lv_iconst (v := nI 0) hx hb dX4_foretold_71 rfl ?_
            exact J72_6 0 (by rw [if_neg (fun q => Bool.noConfusion (h54_7.symm.trans q))]) _ (lv_sub hl [0, 1, 2, 3, 4] rfl)
          · skip
            refine lv_iload_n hx hb dX4_foretold_57 rfl (lv_at hl 2 rfl) ?_
            refine lv_aload_n hx hb dX4_foretold_58 rfl (lv_at hl 3 rfl) ?_
            refine x_get cx hk hw (ha.1) f_RX4_36_4 rfl dX4_foretold_59 ?_
            refine x_rdV (av := []) (rest := [.int (nI f)]) cx hk hw (ht.1) cv_RX4_60_8 (c_t_cpages tb T ht hT) hl.1 rfl rfl (Nat.le_of_ble_eq_true rfl) ⟨by decide, by decide⟩ ⟨Nat.zero_le _, Nat.zero_le _⟩ dX4_foretold_62 ?_
            refine x_mmin cx hl.1 w_694 (by omega) w_244 w_8 w_245 ⟨Nat.le_of_ble_eq_true rfl, Nat.le_of_ble_eq_true rfl⟩ ⟨Nat.zero_le _, Nat.zero_le _⟩ dX4_foretold_65 ?_
            refine lv_goto (tgt := 72) hx hb dX4_foretold_68 (by decide) ?_
            exact J72_6 (min f (s_up (T.1 5) (T.1 2))) (by rw [if_pos h54_7]) _ (lv_sub hl [0, 1, 2, 3, 4] rfl)
        · skip
          refine lv_aload_n hx hb dX4_foretold_30 rfl (lv_at hl 4 rfl) ?_
          refine lv_iload_n hx hb dX4_foretold_31 rfl (lv_at hl 2 rfl) ?_
          refine lv_aload_n hx hb dX4_foretold_32 rfl (lv_at hl 3 rfl) ?_
          refine x_get cx hk hw (ha.1) f_RX4_19_4 rfl dX4_foretold_33 ?_
          refine lv_iload hx hb dX4_foretold_36 (lv_at hl 0 rfl) ?_
          refine x_ialdN cx hk hw (ha.2) (by omega) (by decide) dX4_foretold_38 ?_
          have q1 := hby k
          refine x_rdV (av := [.int (nI f), .int (nO (a_by A k))]) (rest := []) cx hk hw (hq.1) cv_RX4_52_5 (c_q_pass bq tb Q T hq ht hT hQ f (a_by A k) (by omega) (by omega)) hl.1 rfl rfl (Nat.le_of_ble_eq_true rfl) ⟨by decide, by decide⟩ ⟨Nat.zero_le _, Nat.zero_le _⟩ dX4_foretold_39 ?_
          refine lv_istore_n (lv' := [(2, .int (nI (q_pass T Q f (a_by A k)))), (4, .int (nI k)), (3, .int (nI (a_uses Q A))), (0, .ref (lo (b))), (1, .ref (lo (bq)))]) hx hb dX4_foretold_42 rfl hl (by decide) rfl (fun ls hl => ?_)
          refine lv_iinc (v := nI (k + 1)) (lv' := [(4, .int (nI (k + 1))), (2, .int (nI (q_pass T Q f (a_by A k)))), (3, .int (nI (a_uses Q A))), (0, .ref (lo (b))), (1, .ref (lo (bq)))]) hx hb dX4_foretold_43 hl (k := 1) rfl (nI_add _ 1) (by decide) rfl (fun ls hl => ?_)
          refine lv_goto (tgt := 14) hx hb dX4_foretold_46 (by decide) ?_
          exact ih14_1 (q_pass T Q f (a_by A k)) (k + 1) (by omega) (by rw [a_fold, ← hf]) (by omega) _ (lv_sub hl [0, 2, 1, 3, 4] rfl)
  exact L14_1 (_ + 1) (a_rows T A) 0 (by omega) (by rfl) (Nat.lt_succ_self _) _ (lv_sub hl [0, 1, 2, 3, 4] rfl)
set_option maxHeartbeats 4000000 in
set_option maxRecDepth 100000 in
theorem c_o4_finds {l : Launch} {G : x_G} {lo : x_L} {co : x_C} (b tb : Nat) (A : Ad) (T : Tb) (ha : isO4 G lo co b tb A) (ht : isTb G lo co tb T) (hT : Tok T) (hA : Aok T A) (hkd : A.1 0 = 2) (bq : Nat) (Q : Qn) (hq : isQn G lo co bq tb Q) (hQ : Qok T Q) (n r : Nat) (hn_ : n ≤ 3) (hr_ : r < 2 ^ 31) : x_Rd l G lo co yX4_finds cX4_finds 5 (some .boolean) 4 [.ref (lo (b)), .ref (lo (bq)), .int (nI n), .int (nI r)] (some (.int (bI (allN n (fun i => q_pat T Q r (a_by A i)))))) := by
  refine x_enter RX4 rfl (by decide) (Nat.le_of_ble_eq_true rfl) ?_
  intro pp ee ss mm bb mt cd ls cx hk hw hr hlk hl
  have hl : lv_has ls 5 [(0, .ref (lo (b))), (1, .ref (lo (bq))), (2, .int (nI n)), (3, .int (nI r))] := hl
  generalize hav : ([.ref (lo (b)), .ref (lo (bq)), .int (nI n), .int (nI r)] : List Value).toArray = av at cx ⊢
  generalize hvv : (some (.int (bI (allN n (fun i => q_pat T Q r (a_by A i))))) : Option Value) = vv
  have hx := cx.1
  have hb := cx.2.1
  have hown := cx.2.2.2.1
  have hts := cx.2.2.2.2
  obtain ⟨k1, k2, k3, k4, k5, k6, k7, k8, k9, k0⟩ := id hT
  obtain ⟨m1, m2, m3, m4, m5, m6, m7, m8, m9, m10, m11⟩ := id hA
  obtain ⟨j1, j2, j3, j4, j5, j6⟩ := id hQ
  have h16 := Qok.t16 hT hQ
  have hby := a_by_le hT hA
  refine lv_iconst (v := nI 0) hx hb dX4_finds_0 rfl ?_
  refine lv_istore (lv' := [(4, .int (nI 0)), (0, .ref (lo (b))), (1, .ref (lo (bq))), (2, .int (nI n)), (3, .int (nI r))]) hx hb dX4_finds_1 hl (by decide) rfl (fun ls hl => ?_)
  have L3_1 : ∀ (n_ : Nat) (k : Nat), (k ≤ n) → (allN k (fun i => q_pat T Q r (a_by A i)) = true) → n - k < n_ → ∀ (ls : Array Slot), lv_has ls 5 [(4, .int (nI k)), (0, .ref (lo (b))), (1, .ref (lo (bq))), (2, .int (nI n)), (3, .int (nI r))] → x_w l 4 pp ee ss mm av bb mt cd vv 3 ls [] := by
    intro n_
    induction n_ with
    | zero => intro k hv hall hm_ ls hl; exact absurd hm_ (Nat.not_lt_zero _)
    | succ n_ ih3_1 =>
      intro k hv hall hm_ ls hl
      refine lv_iload hx hb dX4_finds_3 (lv_at hl 0 rfl) ?_
      refine lv_iload_n hx hb dX4_finds_5 rfl (lv_at hl 3 rfl) ?_
      refine x_icmp_ge (tgt := 42) cx dX4_finds_6 (by decide) (by omega) (fun h6_2 => ?_) (fun h6_2 => ?_)
      · skip
        refine lv_iconst (v := nI 1) hx hb dX4_finds_42 rfl ?_
        exact x_zretT (b := allN n (fun i => q_pat T Q r (a_by A i))) cx hr hlk dX4_finds_43 (by rw [show n = k by omega]; exact hall) hvv
      · skip
        refine lv_iload hx hb dX4_finds_9 (lv_at hl 0 rfl) ?_
        refine lv_aload_n hx hb dX4_finds_11 rfl (lv_at hl 1 rfl) ?_
        refine x_get cx hk hw (ha.1) f_RX4_19_4 rfl dX4_finds_12 ?_
        refine x_alenI cx hk hw (ha.2) dX4_finds_15 ?_
        refine x_icmp_ge (tgt := 42) cx dX4_finds_16 (by decide) (by omega) (fun h16_3 => ?_) (fun h16_3 => ?_)
        · skip
          refine lv_iconst (v := nI 1) hx hb dX4_finds_42 rfl ?_
          exact x_zretT (b := allN n (fun i => q_pat T Q r (a_by A i))) cx hr hlk dX4_finds_43 (by rw [show n = k by omega]; exact hall) hvv
        · skip
          refine lv_aload_n hx hb dX4_finds_19 rfl (lv_at hl 2 rfl) ?_
          refine lv_iload_n hx hb dX4_finds_20 rfl (lv_at hl 4 rfl) ?_
          refine lv_aload_n hx hb dX4_finds_21 rfl (lv_at hl 1 rfl) ?_
          refine x_get cx hk hw (ha.1) f_RX4_19_4 rfl dX4_finds_22 ?_
          refine lv_iload hx hb dX4_finds_25 (lv_at hl 0 rfl) ?_
          refine x_ialdN cx hk hw (ha.2) (by omega) (by decide) dX4_finds_27 ?_
          have q1 := hby k
          refine x_rdV (av := [.int (nI r), .int (nO (a_by A k))]) (rest := []) cx hk hw (hq.1) cv_RX4_87_5 (c_q_pat bq tb Q T hq ht hT hQ r (a_by A k) (by omega) (by omega)) hl.1 rfl rfl (Nat.le_of_ble_eq_true rfl) ⟨by decide, by decide⟩ ⟨Nat.zero_le _, Nat.zero_le _⟩ dX4_finds_28 ?_
          refine x_if_ne (tgt := 36) cx dX4_finds_31 (by decide) (fun h31_4 => ?_) (fun h31_4 => ?_)
          · skip
            refine lv_iinc (v := nI (k + 1)) (lv' := [(4, .int (nI (k + 1))), (0, .ref (lo (b))), (1, .ref (lo (bq))), (2, .int (nI n)), (3, .int (nI r))]) hx hb dX4_finds_36 hl (k := 0) rfl (nI_add _ 1) (by decide) rfl (fun ls hl => ?_)
            refine lv_goto (tgt := 3) hx hb dX4_finds_39 (by decide) ?_
            exact ih3_1 (k + 1) (by omega) (by exact allN_step hall (by assumption)) (by omega) _ (lv_sub hl [0, 1, 2, 3, 4] rfl)
          · skip
            refine lv_iconst (v := nI 0) hx hb dX4_finds_34 rfl ?_
            exact x_zretF (b := allN n (fun i => q_pat T Q r (a_by A i))) cx hr hlk dX4_finds_35 (by exact allN_no (k := k) (by omega) (by assumption)) hvv
  exact L3_1 (_ + 1) 0 (by omega) (by rfl) (Nat.lt_succ_self _) _ (lv_sub hl [0, 1, 2, 3, 4] rfl)
set_option maxHeartbeats 4000000 in
set_option maxRecDepth 100000 in
theorem c_o4_fetch {l : Launch} {G : x_G} {lo : x_L} {co : x_C} (b tb : Nat) (A : Ad) (T : Tb) (ha : isO4 G lo co b tb A) (ht : isTb G lo co tb T) (hT : Tok T) (hA : Aok T A) (hkd : A.1 0 = 2) (bq : Nat) (Q : Qn) (hq : isQn G lo co bq tb Q) (hQ : Qok T Q) : x_Rd l G lo co yX4_fetched cX4_fetched 7 (some .int) 5 [.ref (lo (b)), .ref (lo (bq))] (some (.int (nI (a_fetch T Q A)))) := by
  refine x_enter RX4 rfl (by decide) (Nat.le_of_ble_eq_true rfl) ?_
  intro pp ee ss mm bb mt cd ls cx hk hw hr hlk hl
  have hl : lv_has ls 7 [(0, .ref (lo (b))), (1, .ref (lo (bq)))] := hl
  generalize hav : ([.ref (lo (b)), .ref (lo (bq))] : List Value).toArray = av at cx ⊢
  generalize hvv : (some (.int (nI (a_fetch T Q A))) : Option Value) = vv
  have hx := cx.1
  have hb := cx.2.1
  have hown := cx.2.2.2.1
  have hts := cx.2.2.2.2
  obtain ⟨k1, k2, k3, k4, k5, k6, k7, k8, k9, k0⟩ := id hT
  obtain ⟨m1, m2, m3, m4, m5, m6, m7, m8, m9, m10, m11⟩ := id hA
  obtain ⟨j1, j2, j3, j4, j5, j6⟩ := id hQ
  have h16 := Qok.t16 hT hQ
  have hby := a_by_le hT hA
  have hu := a_uses_le Q A
  have hent : a_ent T A ≤ 16 ∧ 2 ≤ a_ent T A := by unfold a_ent; split <;> omega
  have hnO : ∀ x y : Nat, x < 2 ^ 31 → y < 2 ^ 31 → (nI x = nO y ↔ x + 1 = y) := nO_eq
  refine lv_aload_n hx hb dX4_fetched_0 rfl (lv_at hl 0 rfl) ?_
  refine lv_aload_n hx hb dX4_fetched_1 rfl (lv_at hl 1 rfl) ?_
  refine x_rdU (av := [.ref (lo (bq))]) (rest := []) cx hk hw (ha.1) cu_RX4_32_4 (c_o4_uses b tb A T ha ht hT hA hkd bq Q hq hQ) hl.1 rfl rfl (Nat.le_of_ble_eq_true rfl) ⟨by decide, by decide⟩ ⟨Nat.zero_le _, Nat.zero_le _⟩ dX4_fetched_2 ?_
  refine lv_istore_n (lv' := [(2, .int (nI (a_uses Q A))), (0, .ref (lo (b))), (1, .ref (lo (bq)))]) hx hb dX4_fetched_5 rfl hl (by decide) rfl (fun ls hl => ?_)
  refine lv_iconst (v := nI 0) hx hb dX4_fetched_6 rfl ?_
  refine lv_istore_n (lv' := [(3, .int (nI 0)), (2, .int (nI (a_uses Q A))), (0, .ref (lo (b))), (1, .ref (lo (bq)))]) hx hb dX4_fetched_7 rfl hl (by decide) rfl (fun ls hl => ?_)
  refine lv_iconst (v := nI 0) hx hb dX4_fetched_8 rfl ?_
  refine lv_istore (lv' := [(4, .int (nI 0)), (3, .int (nI 0)), (2, .int (nI (a_uses Q A))), (0, .ref (lo (b))), (1, .ref (lo (bq)))]) hx hb dX4_fetched_9 hl (by decide) rfl (fun ls hl => ?_)
  refine lv_iconst (v := (-1)) hx hb dX4_fetched_11 rfl ?_
  refine lv_istore (lv' := [(5, .int ((-1))), (4, .int (nI 0)), (3, .int (nI 0)), (2, .int (nI (a_uses Q A))), (0, .ref (lo (b))), (1, .ref (lo (bq)))]) hx hb dX4_fetched_12 hl (by decide) rfl (fun ls hl => ?_)
  refine lv_iconst (v := nI 0) hx hb dX4_fetched_14 rfl ?_
  refine lv_istore (lv' := [(6, .int (nI 0)), (5, .int ((-1))), (4, .int (nI 0)), (3, .int (nI 0)), (2, .int (nI (a_uses Q A))), (0, .ref (lo (b))), (1, .ref (lo (bq)))]) hx hb dX4_fetched_15 hl (by decide) rfl (fun ls hl => ?_)
  have L17_1 : ∀ (n_ : Nat) (f : Nat) (g : Nat) (z : Nat) (k : Nat), (k ≤ T.1 3) → (a_run T Q A k = (f, g, z)) → T.1 3 - k < n_ → ∀ (ls : Array Slot), lv_has ls 7 [(6, .int (nI k)), (5, .int (nO z)), (4, .int (nI g)), (3, .int (nI f)), (2, .int (nI (a_uses Q A))), (0, .ref (lo (b))), (1, .ref (lo (bq)))] → x_w l 5 pp ee ss mm av bb mt cd vv 17 ls [] := by
    intro n_
    induction n_ with
    | zero => intro f g z k hv hf hm_ ls hl; exact absurd hm_ (Nat.not_lt_zero _)
    | succ n_ ih17_1 =>
      intro f g z k hv hf hm_ ls hl
      have hrl := a_run_le T Q A k
      rw [hf] at hrl
      have hrl1 : f ≤ k ∧ g ≤ k ∧ z ≤ k + 1 := hrl
      have hpo : k / T.1 2 ≤ k := Nat.div_le_self _ _
      refine lv_iload hx hb dX4_fetched_17 (lv_at hl 0 rfl) ?_
      refine lv_aload_n hx hb dX4_fetched_19 rfl (lv_at hl 5 rfl) ?_
      refine x_get cx hk hw (ha.1) f_RX4_36_4 rfl dX4_fetched_20 ?_
      refine x_get cx hk hw (ht.1) f_RX4_74_8 rfl dX4_fetched_23 ?_
      refine x_icmp_ge (tgt := 93) cx dX4_fetched_26 (by decide) (by omega) (fun h26_2 => ?_) (fun h26_2 => ?_)
      · skip
        refine lv_iconst (v := nI 1) hx hb dX4_fetched_93 rfl ?_
        refine lv_iload_n hx hb dX4_fetched_94 rfl (lv_at hl 3 rfl) ?_
        refine lv_aload_n hx hb dX4_fetched_95 rfl (lv_at hl 5 rfl) ?_
        refine x_rdU (av := []) (rest := [.int (nI f), .int (nI 1)]) cx hk hw (ha.1) cu_RX4_68_4 (c_o4_ent b tb A T ha ht hT hA hkd) hl.1 rfl rfl (Nat.le_of_ble_eq_true rfl) ⟨by decide, by decide⟩ ⟨Nat.zero_le _, Nat.zero_le _⟩ dX4_fetched_96 ?_
        refine x_rdSN (av := [.int (nI f), .int (nI (a_ent T A))]) (rest := [.int (nI 1)]) cx hk hw cn_RX4_71 (c_up f (a_ent T A) (by omega) (by omega)) hl.1 rfl rfl (Nat.le_of_ble_eq_true rfl) ⟨by decide, by decide⟩ ⟨Nat.zero_le _, Nat.zero_le _⟩ dX4_fetched_99 ?_
        refine x_iaddN cx dX4_fetched_102 ?_
        refine lv_aload_n hx hb dX4_fetched_103 rfl (lv_at hl 5 rfl) ?_
        refine lv_aload_n hx hb dX4_fetched_104 rfl (lv_at hl 6 rfl) ?_
        refine x_rdU (av := [.ref (lo (bq))]) (rest := [.int (nI (1 + (s_up f (a_ent T A))))]) cx hk hw (ha.1) cu_RX4_56_4 (c_o4_must b tb A T ha ht hT hA hkd bq Q hq hQ) hl.1 rfl rfl (Nat.le_of_ble_eq_true rfl) ⟨by decide, by decide⟩ ⟨Nat.zero_le _, Nat.zero_le _⟩ dX4_fetched_105 ?_
        have J117_3 : ∀ (y3_s0 : Nat) (ey3_s0 : y3_s0 = if true = true then g else 0) (ls : Array Slot), lv_has ls 7 [(6, .int (nI k)), (5, .int (nO z)), (4, .int (nI g)), (3, .int (nI f)), (2, .int (nI (a_uses Q A))), (0, .ref (lo (b))), (1, .ref (lo (bq)))] → x_w l 5 pp ee ss mm av bb mt cd vv 117 ls [.int (nI y3_s0), .int (nI (1 + (s_up f (a_ent T A))))] := by
          intro y3_s0 ey3_s0 ls hl
          refine x_iaddN cx dX4_fetched_117 ?_
          exact x_iret cx hr hlk dX4_fetched_118 ((congrArg (fun z => some (Value.int (nI z))) (show (1 + (s_up f (a_ent T A))) + y3_s0 = a_fetch T Q A from by have ek : T.1 3 = k := (by omega); unfold a_fetch; rw [ek, hf]; simp_all [a_cov, a_ent])).trans hvv)
        refine x_if_eq (tgt := 116) cx dX4_fetched_108 (by decide) (fun h108_4 => ?_) (fun h108_4 => ?_)
        · skip
          refine lv_iconst (v := nI 0) hx hb dX4_fetched_116 rfl ?_
          exact J117_3 0 (by rw [if_neg (fun q => Bool.noConfusion (h108_4.symm.trans q))]) _ (lv_sub hl [0, 1, 2, 3, 4, 5, 6] rfl)
        · skip
          refine lv_iload hx hb dX4_fetched_111 (lv_at hl 2 rfl) ?_
          refine lv_goto (tgt := 117) hx hb dX4_fetched_113 (by decide) ?_
          exact J117_3 g (by rw [if_pos h108_4]) _ (lv_sub hl [0, 1, 2, 3, 4, 5, 6] rfl)
      · skip
        refine lv_aload_n hx hb dX4_fetched_29 rfl (lv_at hl 5 rfl) ?_
        refine lv_iload hx hb dX4_fetched_30 (lv_at hl 0 rfl) ?_
        refine x_rdU (av := [.int (nI k)]) (rest := []) cx hk hw (ha.1) cu_RX4_77_4 (c_o4_holds b tb A T ha ht hT hA hkd k (by omega)) hl.1 rfl rfl (Nat.le_of_ble_eq_true rfl) ⟨by decide, by decide⟩ ⟨Nat.zero_le _, Nat.zero_le _⟩ dX4_fetched_32 ?_
        refine x_if_eq (tgt := 87) cx dX4_fetched_35 (by decide) (fun h35_5 => ?_) (fun h35_5 => ?_)
        · skip
          refine lv_iinc (v := nI (k + 1)) (lv' := [(6, .int (nI (k + 1))), (5, .int (nO z)), (4, .int (nI g)), (3, .int (nI f)), (2, .int (nI (a_uses Q A))), (0, .ref (lo (b))), (1, .ref (lo (bq)))]) hx hb dX4_fetched_87 hl (k := 0) rfl (nI_add _ 1) (by decide) rfl (fun ls hl => ?_)
          refine lv_goto (tgt := 17) hx hb dX4_fetched_90 (by decide) ?_
          exact ih17_1 f g z (k + 1) (by omega) (by rw [a_run, hf]; first | (simp_all [a_hit]; done) | (simp_all [a_hit]; intros; omega)) (by omega) _ (lv_sub hl [0, 1, 2, 3, 4, 5, 6] rfl)
        · skip
          refine lv_aload_n hx hb dX4_fetched_38 rfl (lv_at hl 5 rfl) ?_
          refine lv_aload_n hx hb dX4_fetched_39 rfl (lv_at hl 6 rfl) ?_
          refine lv_iload_n hx hb dX4_fetched_40 rfl (lv_at hl 4 rfl) ?_
          refine lv_iload hx hb dX4_fetched_41 (lv_at hl 0 rfl) ?_
          refine x_rdU (av := [.ref (lo (bq)), .int (nI (a_uses Q A)), .int (nI k)]) (rest := []) cx hk hw (ha.1) cu_RX4_80_4 (c_o4_finds b tb A T ha ht hT hA hkd bq Q hq hQ (a_uses Q A) k (by omega) (by omega)) hl.1 rfl rfl (Nat.le_of_ble_eq_true rfl) ⟨by decide, by decide⟩ ⟨Nat.zero_le _, Nat.zero_le _⟩ dX4_fetched_43 ?_
          refine x_if_eq (tgt := 87) cx dX4_fetched_46 (by decide) (fun h46_6 => ?_) (fun h46_6 => ?_)
          · skip
            refine lv_iinc (v := nI (k + 1)) (lv' := [(6, .int (nI (k + 1))), (5, .int (nO z)), (4, .int (nI g)), (3, .int (nI f)), (2, .int (nI (a_uses Q A))), (0, .ref (lo (b))), (1, .ref (lo (bq)))]) hx hb dX4_fetched_87 hl (k := 0) rfl (nI_add _ 1) (by decide) rfl (fun ls hl => ?_)
            refine lv_goto (tgt := 17) hx hb dX4_fetched_90 (by decide) ?_
            exact ih17_1 f g z (k + 1) (by omega) (by rw [a_run, hf]; first | (simp_all [a_hit]; done) | (simp_all [a_hit]; intros; omega)) (by omega) _ (lv_sub hl [0, 1, 2, 3, 4, 5, 6] rfl)
          · skip
            refine lv_iinc (v := nI (f + 1)) (lv' := [(3, .int (nI (f + 1))), (6, .int (nI k)), (5, .int (nO z)), (4, .int (nI g)), (2, .int (nI (a_uses Q A))), (0, .ref (lo (b))), (1, .ref (lo (bq)))]) hx hb dX4_fetched_49 hl (k := 3) rfl (nI_add _ 1) (by decide) rfl (fun ls hl => ?_)
            refine lv_iload hx hb dX4_fetched_52 (lv_at hl 3 rfl) ?_
            refine lv_aload_n hx hb dX4_fetched_54 rfl (lv_at hl 5 rfl) ?_
            refine x_get cx hk hw (ha.1) f_RX4_36_4 rfl dX4_fetched_55 ?_
            refine lv_iload hx hb dX4_fetched_58 (lv_at hl 1 rfl) ?_
            refine x_rdV (av := [.int (nI k)]) (rest := [.int (nI g)]) cx hk hw (ht.1) cv_RX4_84_8 (c_t_pageOf tb T ht hT k (by omega)) hl.1 rfl rfl (Nat.le_of_ble_eq_true rfl) ⟨by decide, by decide⟩ ⟨Nat.zero_le _, Nat.zero_le _⟩ dX4_fetched_60 ?_
            refine lv_iload hx hb dX4_fetched_63 (lv_at hl 2 rfl) ?_
            refine x_icmpNO_ne (tgt := 72) cx dX4_fetched_65 (by decide) (by omega) (fun h65_7 => ?_) (fun h65_7 => ?_)
            · skip
              refine lv_iconst (v := nI 1) hx hb dX4_fetched_72 rfl ?_
              refine x_iaddN cx dX4_fetched_73 ?_
              refine lv_istore (lv' := [(4, .int (nI (g + 1))), (3, .int (nI (f + 1))), (6, .int (nI k)), (5, .int (nO z)), (2, .int (nI (a_uses Q A))), (0, .ref (lo (b))), (1, .ref (lo (bq)))]) hx hb dX4_fetched_74 hl (by decide) rfl (fun ls hl => ?_)
              refine lv_aload_n hx hb dX4_fetched_76 rfl (lv_at hl 5 rfl) ?_
              refine x_get cx hk hw (ha.1) f_RX4_36_4 rfl dX4_fetched_77 ?_
              refine lv_iload hx hb dX4_fetched_80 (lv_at hl 2 rfl) ?_
              refine x_rdV (av := [.int (nI k)]) (rest := []) cx hk hw (ht.1) cv_RX4_84_8 (c_t_pageOf tb T ht hT k (by omega)) hl.1 rfl rfl (Nat.le_of_ble_eq_true rfl) ⟨by decide, by decide⟩ ⟨Nat.zero_le _, Nat.zero_le _⟩ dX4_fetched_82 ?_
              refine lv_istore (lv' := [(5, .int (nI (k / T.1 2))), (4, .int (nI (g + 1))), (3, .int (nI (f + 1))), (6, .int (nI k)), (2, .int (nI (a_uses Q A))), (0, .ref (lo (b))), (1, .ref (lo (bq)))]) hx hb dX4_fetched_85 hl (by decide) rfl (fun ls hl => ?_)
              refine lv_iinc (v := nI (k + 1)) (lv' := [(6, .int (nI (k + 1))), (5, .int (nI (k / T.1 2))), (4, .int (nI (g + 1))), (3, .int (nI (f + 1))), (2, .int (nI (a_uses Q A))), (0, .ref (lo (b))), (1, .ref (lo (bq)))]) hx hb dX4_fetched_87 hl (k := 3) rfl (nI_add _ 1) (by decide) rfl (fun ls hl => ?_)
              refine lv_goto (tgt := 17) hx hb dX4_fetched_90 (by decide) ?_
              exact ih17_1 (f + 1) (g + 1) ((k / T.1 2) + 1) (k + 1) (by omega) (by rw [a_run, hf]; first | (simp_all [a_hit]; done) | (simp_all [a_hit]; intros; omega)) (by omega) _ (lv_sub hl [0, 1, 2, 3, 4, 5, 6] rfl)
            · skip
              refine lv_iconst (v := nI 0) hx hb dX4_fetched_68 rfl ?_
              refine lv_goto (tgt := 73) hx hb dX4_fetched_69 (by decide) ?_
              refine x_iaddN cx dX4_fetched_73 ?_
              refine lv_istore (lv' := [(4, .int (nI (g + 0))), (3, .int (nI (f + 1))), (6, .int (nI k)), (5, .int (nO z)), (2, .int (nI (a_uses Q A))), (0, .ref (lo (b))), (1, .ref (lo (bq)))]) hx hb dX4_fetched_74 hl (by decide) rfl (fun ls hl => ?_)
              refine lv_aload_n hx hb dX4_fetched_76 rfl (lv_at hl 5 rfl) ?_
              refine x_get cx hk hw (ha.1) f_RX4_36_4 rfl dX4_fetched_77 ?_
              refine lv_iload hx hb dX4_fetched_80 (lv_at hl 2 rfl) ?_
              refine x_rdV (av := [.int (nI k)]) (rest := []) cx hk hw (ht.1) cv_RX4_84_8 (c_t_pageOf tb T ht hT k (by omega)) hl.1 rfl rfl (Nat.le_of_ble_eq_true rfl) ⟨by decide, by decide⟩ ⟨Nat.zero_le _, Nat.zero_le _⟩ dX4_fetched_82 ?_
              refine lv_istore (lv' := [(5, .int (nI (k / T.1 2))), (4, .int (nI (g + 0))), (3, .int (nI (f + 1))), (6, .int (nI k)), (2, .int (nI (a_uses Q A))), (0, .ref (lo (b))), (1, .ref (lo (bq)))]) hx hb dX4_fetched_85 hl (by decide) rfl (fun ls hl => ?_)
              refine lv_iinc (v := nI (k + 1)) (lv' := [(6, .int (nI (k + 1))), (5, .int (nI (k / T.1 2))), (4, .int (nI (g + 0))), (3, .int (nI (f + 1))), (2, .int (nI (a_uses Q A))), (0, .ref (lo (b))), (1, .ref (lo (bq)))]) hx hb dX4_fetched_87 hl (k := 3) rfl (nI_add _ 1) (by decide) rfl (fun ls hl => ?_)
              refine lv_goto (tgt := 17) hx hb dX4_fetched_90 (by decide) ?_
              exact ih17_1 (f + 1) (g + 0) ((k / T.1 2) + 1) (k + 1) (by omega) (by rw [a_run, hf]; first | (simp_all [a_hit]; done) | (simp_all [a_hit]; intros; omega)) (by omega) _ (lv_sub hl [0, 1, 2, 3, 4, 5, 6] rfl)
  exact L17_1 (_ + 1) 0 0 0 0 (by omega) (by rfl) (Nat.lt_succ_self _) _ (lv_sub hl [0, 1, 2, 3, 4, 5, 6] rfl)
set_option maxHeartbeats 4000000 in
set_option maxRecDepth 100000 in
theorem c_o4_space {l : Launch} {G : x_G} {lo : x_L} {co : x_C} (b tb : Nat) (A : Ad) (T : Tb) (ha : isO4 G lo co b tb A) (ht : isTb G lo co tb T) (hT : Tok T) (hA : Aok T A) (hkd : A.1 0 = 2) : x_Rd l G lo co yX4_space cX4_space 1 (some .int) 4 [.ref (lo (b))] (some (.int (nI (a_space T A)))) := by
  refine x_enter RX4 rfl (by decide) (Nat.le_of_ble_eq_true rfl) ?_
  intro pp ee ss mm bb mt cd ls cx hk hw hr hlk hl
  have hl : lv_has ls 1 [(0, .ref (lo (b)))] := hl
  generalize hav : ([.ref (lo (b))] : List Value).toArray = av at cx ⊢
  generalize hvv : (some (.int (nI (a_space T A))) : Option Value) = vv
  have hx := cx.1
  have hb := cx.2.1
  have hown := cx.2.2.2.1
  have hts := cx.2.2.2.2
  obtain ⟨k1, k2, k3, k4, k5, k6, k7, k8, k9, k0⟩ := id hT
  obtain ⟨m1, m2, m3, m4, m5, m6, m7, m8, m9, m10, m11⟩ := id hA
  have hrw := a_rows_le hT hA
  refine lv_aload_n hx hb dX4_space_0 rfl (lv_at hl 0 rfl) ?_
  refine x_rdU (av := []) (rest := []) cx hk hw (ha.1) cu_RX4_48_4 (c_o4_rows b tb A T ha ht hT hA hkd) hl.1 rfl rfl (Nat.le_of_ble_eq_true rfl) ⟨by decide, by decide⟩ ⟨Nat.zero_le _, Nat.zero_le _⟩ dX4_space_1 ?_
  refine lv_iconst (v := nI 2) hx hb dX4_space_4 rfl ?_
  refine lv_aload_n hx hb dX4_space_5 rfl (lv_at hl 0 rfl) ?_
  refine x_get cx hk hw (ha.1) f_RX4_36_4 rfl dX4_space_6 ?_
  refine x_get cx hk hw (ht.1) f_RX4_45_8 rfl dX4_space_9 ?_
  refine x_imulN cx dX4_space_12 ?_
  refine x_rdSN (av := [.int (nI (a_rows T A)), .int (nI (2 * (T.1 2)))]) (rest := []) cx hk hw cn_RX4_71 (c_up (a_rows T A) (2 * (T.1 2)) (by omega) (by omega)) hl.1 rfl rfl (Nat.le_of_ble_eq_true rfl) ⟨by decide, by decide⟩ ⟨Nat.zero_le _, Nat.zero_le _⟩ dX4_space_13 ?_
  exact x_iret cx hr hlk dX4_space_16 ((congrArg (fun z => some (Value.int (nI z))) (show s_up (a_rows T A) (2 * (T.1 2)) = a_space T A from by simp [a_space, hkd])).trans hvv)
set_option maxHeartbeats 4000000 in
set_option maxRecDepth 100000 in
theorem c_o4_helps {l : Launch} {G : x_G} {lo : x_L} {co : x_C} (b tb : Nat) (A : Ad) (T : Tb) (ha : isO4 G lo co b tb A) (ht : isTb G lo co tb T) (hT : Tok T) (hA : Aok T A) (hkd : A.1 0 = 2) (bq : Nat) (Q : Qn) (hq : isQn G lo co bq tb Q) (hQ : Qok T Q) : x_Rd l G lo co yX5_helps cX5_helps 2 (some .boolean) 4 [.ref (lo (b)), .ref (lo (bq))] (some (.int (bI (a_helps Q A)))) := by
  refine x_enter RX5 rfl (by decide) (Nat.le_of_ble_eq_true rfl) ?_
  intro pp ee ss mm bb mt cd ls cx hk hw hr hlk hl
  have hl : lv_has ls 2 [(0, .ref (lo (b))), (1, .ref (lo (bq)))] := hl
  generalize hav : ([.ref (lo (b)), .ref (lo (bq))] : List Value).toArray = av at cx ⊢
  generalize hvv : (some (.int (bI (a_helps Q A))) : Option Value) = vv
  have hx := cx.1
  have hb := cx.2.1
  have hown := cx.2.2.2.1
  have hts := cx.2.2.2.2
  obtain ⟨k1, k2, k3, k4, k5, k6, k7, k8, k9, k0⟩ := id hT
  obtain ⟨m1, m2, m3, m4, m5, m6, m7, m8, m9, m10, m11⟩ := id hA
  obtain ⟨j1, j2, j3, j4, j5, j6⟩ := id hQ
  have h16 := Qok.t16 hT hQ
  have m6b := m6 (Or.inl hkd)
  refine lv_aload_n hx hb dX5_helps_0 rfl (lv_at hl 1 rfl) ?_
  refine lv_aload_n hx hb dX5_helps_1 rfl (lv_at hl 0 rfl) ?_
  refine x_get cx hk hw (ha.1) f_RX5_9_4 rfl dX5_helps_2 ?_
  refine lv_aload_n hx hb dX5_helps_5 rfl (lv_at hl 0 rfl) ?_
  refine x_get cx hk hw (ha.1) f_RX5_15_4 rfl dX5_helps_6 ?_
  refine lv_aload_n hx hb dX5_helps_9 rfl (lv_at hl 0 rfl) ?_
  refine x_get cx hk hw (ha.1) f_RX5_18_4 rfl dX5_helps_10 ?_
  refine x_rdV (av := [.int (nI (A.1 3)), .int (nI (A.1 4)), .int (nI (A.1 5))]) (rest := []) cx hk hw (hq.1) cv_RX5_21_5 (c_q_in bq tb Q T hq ht hT hQ (A.1 3) (A.1 4) (A.1 5) (by omega) (by omega) (by omega)) hl.1 rfl rfl (Nat.le_of_ble_eq_true rfl) ⟨by decide, by decide⟩ ⟨Nat.zero_le _, Nat.zero_le _⟩ dX5_helps_13 ?_
  exact x_zretB (b := a_helps Q A) cx hr hlk dX5_helps_16 (by rw [a_helps, if_pos hkd]) hvv
set_option maxHeartbeats 4000000 in
set_option maxRecDepth 100000 in
theorem c_o4_keep {l : Launch} {G : x_G} {lo : x_L} {co : x_C} (b tb : Nat) (A : Ad) (T : Tb) (ha : isO4 G lo co b tb A) (ht : isTb G lo co tb T) (hT : Tok T) (hA : Aok T A) (hkd : A.1 0 = 2) : x_Rd l G lo co yX5_keeping cX5_keeping 1 (some .int) 1 [.ref (lo (b))] (some (.int (nI (a_keep A)))) := by
  refine x_enter RX5 rfl (by decide) (Nat.le_of_ble_eq_true rfl) ?_
  intro pp ee ss mm bb mt cd ls cx hk hw hr hlk hl
  have hl : lv_has ls 1 [(0, .ref (lo (b)))] := hl
  generalize hav : ([.ref (lo (b))] : List Value).toArray = av at cx ⊢
  generalize hvv : (some (.int (nI (a_keep A))) : Option Value) = vv
  have hx := cx.1
  have hb := cx.2.1
  have hown := cx.2.2.2.1
  have hts := cx.2.2.2.2
  refine lv_iconst (v := nI 1) hx hb dX5_keeping_0 rfl ?_
  exact x_iret cx hr hlk dX5_keeping_1 ((congrArg (fun z => some (Value.int (nI z))) (show 1 = a_keep A from by simp [a_keep, hkd])).trans hvv)
set_option maxHeartbeats 4000000 in
set_option maxRecDepth 100000 in
theorem c_o7_helps {l : Launch} {G : x_G} {lo : x_L} {co : x_C} (b tb : Nat) (A : Ad) (T : Tb) (ha : isO7 G lo co b tb A) (ht : isTb G lo co tb T) (hT : Tok T) (hA : Aok T A) (hkd : A.1 0 = 3) (bq : Nat) (Q : Qn) (hq : isQn G lo co bq tb Q) (hQ : Qok T Q) : x_Rd l G lo co yX8_helps cX8_helps 2 (some .boolean) 1 [.ref (lo (b)), .ref (lo (bq))] (some (.int (bI (a_helps Q A)))) := by
  refine x_enter RX8 rfl (by decide) (Nat.le_of_ble_eq_true rfl) ?_
  intro pp ee ss mm bb mt cd ls cx hk hw hr hlk hl
  have hl : lv_has ls 2 [(0, .ref (lo (b))), (1, .ref (lo (bq)))] := hl
  generalize hav : ([.ref (lo (b)), .ref (lo (bq))] : List Value).toArray = av at cx ⊢
  generalize hvv : (some (.int (bI (a_helps Q A))) : Option Value) = vv
  have hx := cx.1
  have hb := cx.2.1
  have hown := cx.2.2.2.1
  have hts := cx.2.2.2.2
  obtain ⟨k1, k2, k3, k4, k5, k6, k7, k8, k9, k0⟩ := id hT
  obtain ⟨m1, m2, m3, m4, m5, m6, m7, m8, m9, m10, m11⟩ := id hA
  obtain ⟨j1, j2, j3, j4, j5, j6⟩ := id hQ
  have h16 := Qok.t16 hT hQ
  have m6b := m6 (Or.inr hkd)
  have hQ0 : Q.1 0 < 16 := Nat.lt_of_lt_of_le j1 (pow_col k2)
  refine lv_aload_n hx hb dX8_helps_0 rfl (lv_at hl 1 rfl) ?_
  refine x_get cx hk hw (hq.1) f_RX8_18_5 rfl dX8_helps_1 ?_
  refine x_ifN_ne (tgt := 36) cx dX8_helps_4 (by decide) (by omega) (fun h4_1 => ?_) (fun h4_1 => ?_)
  · skip
    refine lv_iconst (v := nI 0) hx hb dX8_helps_36 rfl ?_
    exact x_zretF (b := a_helps Q A) cx hr hlk dX8_helps_37 (by rw [a_helps, if_neg (by omega), if_pos hkd]; simp_all [nO_eq2]) hvv
  · skip
    refine lv_aload_n hx hb dX8_helps_7 rfl (lv_at hl 1 rfl) ?_
    refine x_get cx hk hw (hq.1) f_RX8_23_5 rfl dX8_helps_8 ?_
    refine lv_aload_n hx hb dX8_helps_11 rfl (lv_at hl 0 rfl) ?_
    refine x_get cx hk hw (ha) f_RX8_15_7 rfl dX8_helps_12 ?_
    refine x_icmpON_ne (tgt := 36) cx dX8_helps_15 (by decide) (by omega) (fun h15_2 => ?_) (fun h15_2 => ?_)
    · skip
      refine lv_iconst (v := nI 0) hx hb dX8_helps_36 rfl ?_
      exact x_zretF (b := a_helps Q A) cx hr hlk dX8_helps_37 (by rw [a_helps, if_neg (by omega), if_pos hkd]; simp_all [nO_eq2]) hvv
    · skip
      refine lv_aload_n hx hb dX8_helps_18 rfl (lv_at hl 1 rfl) ?_
      refine x_get cx hk hw (hq.1) f_RX8_26_5 rfl dX8_helps_19 ?_
      refine lv_aload_n hx hb dX8_helps_22 rfl (lv_at hl 0 rfl) ?_
      refine x_get cx hk hw (ha) f_RX8_9_7 rfl dX8_helps_23 ?_
      refine lv_iconst (v := (-1)) hx hb dX8_helps_26 rfl ?_
      refine lv_ixor hx hb dX8_helps_27 ?_
      refine lv_iand hx hb dX8_helps_28 ?_
      refine lv_if_ne (tgt := 36) hx hb dX8_helps_29 (by decide) (fun h29_3 => ?_) (fun h29_3 => ?_)
      · skip
        refine lv_iconst (v := nI 0) hx hb dX8_helps_36 rfl ?_
        exact x_zretF (b := a_helps Q A) cx hr hlk dX8_helps_37 (by rw [a_helps, if_neg (by omega), if_pos hkd]; simp_all [nO_eq2]) hvv
      · skip
        refine lv_iconst (v := nI 1) hx hb dX8_helps_32 rfl ?_
        refine lv_goto (tgt := 37) hx hb dX8_helps_33 (by decide) ?_
        exact x_zretT (b := a_helps Q A) cx hr hlk dX8_helps_37 (by rw [a_helps, if_neg (by omega), if_pos hkd]; simp_all [nO_eq2]) hvv
set_option maxHeartbeats 4000000 in
set_option maxRecDepth 100000 in
theorem c_o7_space {l : Launch} {G : x_G} {lo : x_L} {co : x_C} (b tb : Nat) (A : Ad) (T : Tb) (ha : isO7 G lo co b tb A) (ht : isTb G lo co tb T) (hT : Tok T) (hA : Aok T A) (hkd : A.1 0 = 3) : x_Rd l G lo co yX8_space cX8_space 1 (some .int) 3 [.ref (lo (b))] (some (.int (nI (a_space T A)))) := by
  refine x_enter RX8 rfl (by decide) (Nat.le_of_ble_eq_true rfl) ?_
  intro pp ee ss mm bb mt cd ls cx hk hw hr hlk hl
  have hl : lv_has ls 1 [(0, .ref (lo (b)))] := hl
  generalize hav : ([.ref (lo (b))] : List Value).toArray = av at cx ⊢
  generalize hvv : (some (.int (nI (a_space T A))) : Option Value) = vv
  have hx := cx.1
  have hb := cx.2.1
  have hown := cx.2.2.2.1
  have hts := cx.2.2.2.2
  obtain ⟨k1, k2, k3, k4, k5, k6, k7, k8, k9, k0⟩ := id hT
  obtain ⟨m1, m2, m3, m4, m5, m6, m7, m8, m9, m10, m11⟩ := id hA
  have hg : t_groups T (A.1 2) ≤ 60 := Nat.le_trans (Nat.min_le_right _ _) k7
  refine lv_aload_n hx hb dX8_space_0 rfl (lv_at hl 0 rfl) ?_
  refine x_get cx hk hw (ha) f_RX8_33_7 rfl dX8_space_1 ?_
  refine lv_aload_n hx hb dX8_space_4 rfl (lv_at hl 0 rfl) ?_
  refine x_get cx hk hw (ha) f_RX8_9_7 rfl dX8_space_5 ?_
  refine x_rdV (av := [.int (nI (A.1 2))]) (rest := []) cx hk hw (ht.1) cv_RX8_50_8 (c_t_groups tb T ht hT (A.1 2) (by omega)) hl.1 rfl rfl (Nat.le_of_ble_eq_true rfl) ⟨by decide, by decide⟩ ⟨Nat.zero_le _, Nat.zero_le _⟩ dX8_space_8 ?_
  refine lv_iconst (v := nI 2) hx hb dX8_space_11 rfl ?_
  refine lv_aload_n hx hb dX8_space_12 rfl (lv_at hl 0 rfl) ?_
  refine x_get cx hk hw (ha) f_RX8_33_7 rfl dX8_space_13 ?_
  refine x_get cx hk hw (ht.1) f_RX8_43_8 rfl dX8_space_16 ?_
  refine x_imulN cx dX8_space_19 ?_
  refine x_rdSN (av := [.int (nI (t_groups T (A.1 2))), .int (nI (2 * (T.1 2)))]) (rest := []) cx hk hw cn_RX8_46 (c_up (t_groups T (A.1 2)) (2 * (T.1 2)) (by omega) (by omega)) hl.1 rfl rfl (Nat.le_of_ble_eq_true rfl) ⟨by decide, by decide⟩ ⟨Nat.zero_le _, Nat.zero_le _⟩ dX8_space_20 ?_
  exact x_iret cx hr hlk dX8_space_23 ((congrArg (fun z => some (Value.int (nI z))) (show s_up (t_groups T (A.1 2)) (2 * (T.1 2)) = a_space T A from by rw [a_space, if_neg (by omega), if_pos hkd])).trans hvv)
set_option maxHeartbeats 4000000 in
set_option maxRecDepth 100000 in
theorem c_o7_cost {l : Launch} {G : x_G} {lo : x_L} {co : x_C} (b tb : Nat) (A : Ad) (T : Tb) (ha : isO7 G lo co b tb A) (ht : isTb G lo co tb T) (hT : Tok T) (hA : Aok T A) (hkd : A.1 0 = 3) (bq : Nat) (Q : Qn) (hq : isQn G lo co bq tb Q) (hQ : Qok T Q) : x_Rd l G lo co yX8_foretold cX8_foretold 2 (some .int) 4 [.ref (lo (b)), .ref (lo (bq))] (some (.int (nI (a_cost T Q A)))) := by
  refine x_enter RX8 rfl (by decide) (Nat.le_of_ble_eq_true rfl) ?_
  intro pp ee ss mm bb mt cd ls cx hk hw hr hlk hl
  have hl : lv_has ls 2 [(0, .ref (lo (b))), (1, .ref (lo (bq)))] := hl
  generalize hav : ([.ref (lo (b)), .ref (lo (bq))] : List Value).toArray = av at cx ⊢
  generalize hvv : (some (.int (nI (a_cost T Q A))) : Option Value) = vv
  have hx := cx.1
  have hb := cx.2.1
  have hown := cx.2.2.2.1
  have hts := cx.2.2.2.2
  obtain ⟨k1, k2, k3, k4, k5, k6, k7, k8, k9, k0⟩ := id hT
  obtain ⟨m1, m2, m3, m4, m5, m6, m7, m8, m9, m10, m11⟩ := id hA
  obtain ⟨j1, j2, j3, j4, j5, j6⟩ := id hQ
  have h16 := Qok.t16 hT hQ
  refine lv_iconst (v := nI 1) hx hb dX8_foretold_0 rfl ?_
  refine lv_aload_n hx hb dX8_foretold_1 rfl (lv_at hl 0 rfl) ?_
  refine x_rdV (av := []) (rest := [.int (nI 1)]) cx hk hw (ha) cv_RX8_29_7 (c_o7_space b tb A T ha ht hT hA hkd) hl.1 rfl rfl (Nat.le_of_ble_eq_true rfl) ⟨by decide, by decide⟩ ⟨Nat.zero_le _, Nat.zero_le _⟩ dX8_foretold_2 ?_
  refine x_iaddN cx dX8_foretold_5 ?_
  exact x_iret cx hr hlk dX8_foretold_6 ((congrArg (fun z => some (Value.int (nI z))) (show 1 + (a_space T A) = a_cost T Q A from by rw [a_cost, if_pos hkd, a_space, if_neg (by omega), if_pos hkd])).trans hvv)
set_option maxHeartbeats 4000000 in
set_option maxRecDepth 100000 in
theorem c_o7_fetch {l : Launch} {G : x_G} {lo : x_L} {co : x_C} (b tb : Nat) (A : Ad) (T : Tb) (ha : isO7 G lo co b tb A) (ht : isTb G lo co tb T) (hT : Tok T) (hA : Aok T A) (hkd : A.1 0 = 3) (bq : Nat) (Q : Qn) (hq : isQn G lo co bq tb Q) (hQ : Qok T Q) : x_Rd l G lo co yX8_fetched cX8_fetched 2 (some .int) 6 [.ref (lo (b)), .ref (lo (bq))] (some (.int (nI (a_fetch T Q A)))) := by
  refine x_enter RX8 rfl (by decide) (Nat.le_of_ble_eq_true rfl) ?_
  intro pp ee ss mm bb mt cd ls cx hk hw hr hlk hl
  have hl : lv_has ls 2 [(0, .ref (lo (b))), (1, .ref (lo (bq)))] := hl
  generalize hav : ([.ref (lo (b)), .ref (lo (bq))] : List Value).toArray = av at cx ⊢
  generalize hvv : (some (.int (nI (a_fetch T Q A))) : Option Value) = vv
  have hx := cx.1
  have hb := cx.2.1
  have hown := cx.2.2.2.1
  have hts := cx.2.2.2.2
  obtain ⟨k1, k2, k3, k4, k5, k6, k7, k8, k9, k0⟩ := id hT
  obtain ⟨m1, m2, m3, m4, m5, m6, m7, m8, m9, m10, m11⟩ := id hA
  obtain ⟨j1, j2, j3, j4, j5, j6⟩ := id hQ
  have h16 := Qok.t16 hT hQ
  have hg : t_unl T (A.1 2) ≤ 60 := Nat.le_trans (cntN_le _) k5
  refine lv_iconst (v := nI 1) hx hb dX8_fetched_0 rfl ?_
  refine lv_aload_n hx hb dX8_fetched_1 rfl (lv_at hl 0 rfl) ?_
  refine x_get cx hk hw (ha) f_RX8_33_7 rfl dX8_fetched_2 ?_
  refine lv_aload_n hx hb dX8_fetched_5 rfl (lv_at hl 0 rfl) ?_
  refine x_get cx hk hw (ha) f_RX8_9_7 rfl dX8_fetched_6 ?_
  refine x_rdV (av := [.int (nI (A.1 2))]) (rest := [.int (nI 1)]) cx hk hw (ht.1) cv_RX8_37_8 (c_t_unl tb T ht hT (A.1 2) (by omega)) hl.1 rfl rfl (Nat.le_of_ble_eq_true rfl) ⟨by decide, by decide⟩ ⟨Nat.zero_le _, Nat.zero_le _⟩ dX8_fetched_9 ?_
  refine lv_iconst (v := nI 2) hx hb dX8_fetched_12 rfl ?_
  refine lv_aload_n hx hb dX8_fetched_13 rfl (lv_at hl 0 rfl) ?_
  refine x_get cx hk hw (ha) f_RX8_33_7 rfl dX8_fetched_14 ?_
  refine x_get cx hk hw (ht.1) f_RX8_43_8 rfl dX8_fetched_17 ?_
  refine x_imulN cx dX8_fetched_20 ?_
  refine x_rdSN (av := [.int (nI (t_unl T (A.1 2))), .int (nI (2 * (T.1 2)))]) (rest := [.int (nI 1)]) cx hk hw cn_RX8_46 (c_up (t_unl T (A.1 2)) (2 * (T.1 2)) (by omega) (by omega)) hl.1 rfl rfl (Nat.le_of_ble_eq_true rfl) ⟨by decide, by decide⟩ ⟨Nat.zero_le _, Nat.zero_le _⟩ dX8_fetched_21 ?_
  refine x_iaddN cx dX8_fetched_24 ?_
  exact x_iret cx hr hlk dX8_fetched_25 ((congrArg (fun z => some (Value.int (nI z))) (show 1 + (s_up (t_unl T (A.1 2)) (2 * (T.1 2))) = a_fetch T Q A from by rw [a_fetch, if_pos hkd])).trans hvv)
set_option maxHeartbeats 4000000 in
set_option maxRecDepth 100000 in
theorem c_o7_keep {l : Launch} {G : x_G} {lo : x_L} {co : x_C} (b tb : Nat) (A : Ad) (T : Tb) (ha : isO7 G lo co b tb A) (ht : isTb G lo co tb T) (hT : Tok T) (hA : Aok T A) (hkd : A.1 0 = 3) : x_Rd l G lo co yX8_keeping cX8_keeping 1 (some .int) 1 [.ref (lo (b))] (some (.int (nI (a_keep A)))) := by
  refine x_enter RX8 rfl (by decide) (Nat.le_of_ble_eq_true rfl) ?_
  intro pp ee ss mm bb mt cd ls cx hk hw hr hlk hl
  have hl : lv_has ls 1 [(0, .ref (lo (b)))] := hl
  generalize hav : ([.ref (lo (b))] : List Value).toArray = av at cx ⊢
  generalize hvv : (some (.int (nI (a_keep A))) : Option Value) = vv
  have hx := cx.1
  have hb := cx.2.1
  have hown := cx.2.2.2.1
  have hts := cx.2.2.2.2
  refine lv_iconst (v := nI 2) hx hb dX8_keeping_0 rfl ?_
  exact x_iret cx hr hlk dX8_keeping_1 ((congrArg (fun z => some (Value.int (nI z))) (show 2 = a_keep A from by simp [a_keep, hkd])).trans hvv)
