set_option maxHeartbeats 4000000 in
set_option maxRecDepth 100000 in
theorem d_plan {l : Launch} {G : x_G} {lo : x_L} {co : x_C} (dd : Nat) (S : St) (X : Sc) (hd : isDk G lo co dd S X) (hj : x_J lo co) (hS : Sok S) (q : Int32) : x_Rd l G lo co yX10_plan cX10_plan 7 (some .int) 8 [.ref (lo (0)), .int (q)] (some (.int (P_plan S q))) := by
  refine x_enter RX10 rfl (by decide) (Nat.le_of_ble_eq_true rfl) ?_
  intro pp ee ss mm bb mt cd ls cx hk hw hr hlk hl
  have hl : lv_has ls 7 [(0, .ref (lo (0))), (1, .int (q))] := hl
  generalize hav : ([.ref (lo (0)), .int (q)] : List Value).toArray = av at cx ⊢
  generalize hvv : (some (.int (P_plan S q)) : Option Value) = vv
  have hx := cx.1
  have hb := cx.2.1
  have hown := cx.2.2.2.1
  have hts := cx.2.2.2.2
  obtain ⟨s1, s2, s3, s4, s5, s6⟩ := id hS
  obtain ⟨ft, hf1, hft⟩ := hd.2.1
  obtain ⟨mcq, evq, hq0⟩ := hd.L2.obj
  obtain ⟨mca, eva, ha0⟩ := hd.L4.obj
  refine lv_aload_n hx hb dX10_plan_0 rfl (lv_at hl 0 rfl) ?_
  refine lv_iload_n hx hb dX10_plan_1 rfl (lv_at hl 1 rfl) ?_
  refine x_rdV (av := [.int (q)]) (rest := []) cx hk hw (hd.1) cv_RX10_95_9 (d_questionAt dd S X hd hj hS q) hl.1 rfl rfl (Nat.le_of_ble_eq_true rfl) ⟨by decide, by decide⟩ ⟨Nat.zero_le _, Nat.zero_le _⟩ dX10_plan_2 ?_
  by_cases hc_q : x_in (sn S 0) q = true
  · skip
    obtain ⟨q1_q, hq1_q, hq3_q⟩ := x_in_ex (n := sn S 0) (by omega) hc_q
    obtain ⟨v1_q, v2_q, hQq_q⟩ := s5 q1_q hq1_q
    have hTq_q := (s1 _ v1_q).1 v2_q
    have htq_q := hd.T v1_q v2_q
    have hqq_q := hd.Q (q := q1_q) hq1_q
    rw [d_qn_1 hc_q hq3_q (by omega)]
    rw [hq3_q] at hl
    refine lv_astore_n (lv' := [(2, .ref (lo (tQ q1_q))), (0, .ref (lo (0))), (1, .int (nI q1_q))]) hx hb dX10_plan_5 rfl hl (by decide) rfl (fun ls hl => ?_)
    refine lv_aload_n hx hb dX10_plan_6 rfl (lv_at hl 0 rfl) ?_
    refine lv_ifnonnull (tgt := 13) hx hb dX10_plan_7 (by decide) ?_
    refine lv_iconst (v := (-1)) hx hb dX10_plan_13 rfl ?_
    refine lv_istore_n (lv' := [(3, .int ((-1))), (2, .ref (lo (tQ q1_q))), (0, .ref (lo (0))), (1, .int (nI q1_q))]) hx hb dX10_plan_14 rfl hl (by decide) rfl (fun ls hl => ?_)
    refine lv_aload_n hx hb dX10_plan_15 rfl (lv_at hl 2 rfl) ?_
    refine lv_iload_n hx hb dX10_plan_16 rfl (lv_at hl 3 rfl) ?_
    refine lv_iconst (v := (-1)) hx hb dX10_plan_17 rfl ?_
    refine x_rdV (av := [.int (nI q1_q), .int ((-1))]) (rest := []) cx hk hw (hd.1) cv_RX10_199_9 (d_cost dd S X hd hj hS (nI q1_q) (-1)) hl.1 rfl rfl (Nat.le_of_ble_eq_true rfl) ⟨by decide, by decide⟩ ⟨Nat.zero_le _, Nat.zero_le _⟩ dX10_plan_18 ?_
    rw [P_cost_m1 hS (by omega)]
    have hpl0 := m_plain_le hS hq1_q
    refine lv_istore (lv' := [(4, .int (nI (m_plain S q1_q))), (3, .int ((-1))), (2, .ref (lo (tQ q1_q))), (0, .ref (lo (0))), (1, .int (nI q1_q))]) hx hb dX10_plan_21 hl (by decide) rfl (fun ls hl => ?_)
    refine lv_iconst (v := nI 0) hx hb dX10_plan_23 rfl ?_
    refine lv_istore (lv' := [(5, .int (nI 0)), (4, .int (nI (m_plain S q1_q))), (3, .int ((-1))), (2, .ref (lo (tQ q1_q))), (0, .ref (lo (0))), (1, .int (nI q1_q))]) hx hb dX10_plan_24 hl (by decide) rfl (fun ls hl => ?_)
    have L26_1 : ∀ (n_ : Nat) (p : Nat) (v : Nat) (k : Nat), (k ≤ sn S 1) → (p = m_pl S q1_q (sn S 2) k) → (v = m_pc S q1_q p) → sn S 1 - k < n_ → ∀ (ls : Array Slot), lv_has ls 7 [(5, .int (nI k)), (4, .int (nI v)), (3, .int (nO p)), (2, .ref (lo (tQ q1_q))), (0, .ref (lo (0))), (1, .int (nI q1_q))] → x_w l 8 pp ee ss mm av bb mt cd vv 26 ls [] := by
      intro n_
      induction n_ with
      | zero => intro p v k hv hp hvl hm_ ls hl; exact absurd hm_ (Nat.not_lt_zero _)
      | succ n_ ih26_1 =>
        intro p v k hv hp hvl hm_ ls hl
        have hv60 : v ≤ 60 := by rw [hvl, hp, m_pc_lc]; exact m_lc_le hS hq1_q k
        refine lv_iload hx hb dX10_plan_26 (lv_at hl 0 rfl) ?_
        refine lv_aload_n hx hb dX10_plan_28 rfl (lv_at hl 4 rfl) ?_
        refine x_get (v := .ref (lo (4))) cx hk hw (hd.1) f_RX10_22_9 rfl dX10_plan_29 ?_
        refine x_rdV (av := []) (rest := [.int (nI k)]) cx hk hw (ha0) cv_RX10_76_0 (l_size 4 mca eva (sn S 1) ha0) hl.1 rfl rfl (Nat.le_of_ble_eq_true rfl) ⟨by decide, by decide⟩ ⟨Nat.zero_le _, Nat.zero_le _⟩ dX10_plan_32 ?_
        refine x_icmp_ge (tgt := 95) cx dX10_plan_35 (by decide) (by omega) (fun h35_2 => ?_) (fun h35_2 => ?_)
        · skip
          refine lv_iload_n hx hb dX10_plan_95 rfl (lv_at hl 2 rfl) ?_
          exact x_iret cx hr hlk dX10_plan_96 ((congrArg (fun z => some (Value.int z)) (show nO p = P_plan S q from by rw [P_plan, if_pos hc_q, hq3_q, nI_clamp (by omega), hp, show k = sn S 1 by omega]; rfl)).trans hvv)
        · skip
          refine lv_aload_n hx hb dX10_plan_38 rfl (lv_at hl 4 rfl) ?_
          refine x_get (v := .ref (lo (4))) cx hk hw (hd.1) f_RX10_22_9 rfl dX10_plan_39 ?_
          refine lv_iload hx hb dX10_plan_42 (lv_at hl 0 rfl) ?_
          refine x_rdV (av := [.int (nI k)]) (rest := []) cx hk hw ha0 cv_RX10_202_0 (l_get dd 4 5 (sn S 1) _ hd.L4 k (by omega) (by omega)) hl.1 rfl rfl (Nat.le_of_ble_eq_true rfl) ⟨by decide, by decide⟩ ⟨Nat.zero_le _, Nat.zero_le _⟩ dX10_plan_44 ?_
          obtain ⟨u1_44_3, u2_44_3, hAa_44_3⟩ := s6 k (by omega)
          have hTa_44_3 := (s1 _ u1_44_3).1 u2_44_3
          have hta_44_3 := hd.T u1_44_3 u2_44_3
          have had_44_3 := hd.A (a := k) (by omega)
          have hBa_44_3 := aok_bA (S := S) hAa_44_3
          have hA4_44_3 := hAa_44_3.1
          refine ac_RX10_159 cx hk hw had_44_3 dX10_plan_47 ?_
          refine ag_RX10_158 cx hk hw had_44_3 dX10_plan_50 ?_
          rw [b6_bA]
          refine x_if_eq (tgt := 66) cx dX10_plan_53 (by decide) (fun h53_4 => ?_) (fun h53_4 => ?_)
          · skip
            refine lv_iconst (v := (-1)) hx hb dX10_plan_66 rfl ?_
            refine lv_istore (lv' := [(6, .int ((-1))), (5, .int (nI k)), (4, .int (nI v)), (3, .int (nO p)), (2, .ref (lo (tQ q1_q))), (0, .ref (lo (0))), (1, .int (nI q1_q))]) hx hb dX10_plan_67 hl (by decide) rfl (fun ls hl => ?_)
            refine lv_iload hx hb dX10_plan_69 (lv_at hl 0 rfl) ?_
            refine lv_iconst (v := (-1)) hx hb dX10_plan_71 rfl ?_
            refine lv_icmp_eq (tgt := 89) hx hb dX10_plan_72 (by decide) (fun h72_5 => ?_) (fun h72_5 => ?_)
            · skip
              refine lv_iinc (v := nI (k + 1)) (lv' := [(5, .int (nI (k + 1))), (6, .int ((-1))), (4, .int (nI v)), (3, .int (nO p)), (2, .ref (lo (tQ q1_q))), (0, .ref (lo (0))), (1, .int (nI q1_q))]) hx hb dX10_plan_89 hl (k := 1) rfl (nI_add _ 1) (by decide) rfl (fun ls hl => ?_)
              refine lv_goto (tgt := 26) hx hb dX10_plan_92 (by decide) ?_
              exact ih26_1 p v (k + 1) (by omega) (by rw [m_pl, ← hp, ← hvl]; first | (rw [if_pos ⟨by assumption, hhp, by omega⟩]; done) | (rw [if_neg (fun z => by have z3 := z.2.2; omega)]; done) | (rw [if_neg (fun z => by have z1 := z.1; simp_all)]; done) | (rw [if_neg (fun z => by have z2 := z.2.1; rw [if_pos z2] at *; omega)])) (by first | (rw [m_pc, if_neg (Nat.succ_ne_zero k)]; rfl) | exact hvl) (by omega) _ (lv_sub hl [0, 2, 3, 4, 5, 6] rfl)
            · skip
              exact absurd rfl (by assumption)
          · skip
            refine lv_aload_n hx hb dX10_plan_56 rfl (lv_at hl 4 rfl) ?_
            refine lv_iload_n hx hb dX10_plan_57 rfl (lv_at hl 5 rfl) ?_
            refine lv_iload hx hb dX10_plan_58 (lv_at hl 0 rfl) ?_
            refine x_rdV (av := [.int (nI q1_q), .int (nI k)]) (rest := []) cx hk hw (hd.1) cv_RX10_199_9 (d_cost dd S X hd hj hS (nI q1_q) (nI k)) hl.1 rfl rfl (Nat.le_of_ble_eq_true rfl) ⟨by decide, by decide⟩ ⟨Nat.zero_le _, Nat.zero_le _⟩ dX10_plan_60 ?_
            rw [P_cost_a hS (by omega) (by omega)]
            have hcl0 : (if m_helps S q1_q k = true then m_cost S q1_q k + 1 else 0) ≤ 122 := by by_cases hhp : m_helps S q1_q k = true; rw [if_pos hhp]; have hcl : m_cost S q1_q k ≤ 121 := (by obtain ⟨u1, u2, hA⟩ := s6 k (by omega); have hsm := m_helps_same hhp; have hQ := hQq_q; rw [← hsm] at hQ; exact a_cost_le ((s1 _ u1).1 u2) hQ hA); omega; rw [if_neg hhp]; omega
            refine lv_goto (tgt := 67) hx hb dX10_plan_63 (by decide) ?_
            refine lv_istore (lv' := [(6, .int (nO (if m_helps S q1_q k = true then m_cost S q1_q k + 1 else 0))), (5, .int (nI k)), (4, .int (nI v)), (3, .int (nO p)), (2, .ref (lo (tQ q1_q))), (0, .ref (lo (0))), (1, .int (nI q1_q))]) hx hb dX10_plan_67 hl (by decide) rfl (fun ls hl => ?_)
            refine lv_iload hx hb dX10_plan_69 (lv_at hl 0 rfl) ?_
            refine lv_iconst (v := (-1)) hx hb dX10_plan_71 rfl ?_
            refine x_icmpO1_eq (tgt := 89) cx dX10_plan_72 (by decide) (by omega) (fun h72_6 => ?_) (fun h72_6 => ?_)
            · skip
              refine lv_iinc (v := nI (k + 1)) (lv' := [(5, .int (nI (k + 1))), (6, .int (nO (if m_helps S q1_q k = true then m_cost S q1_q k + 1 else 0))), (4, .int (nI v)), (3, .int (nO p)), (2, .ref (lo (tQ q1_q))), (0, .ref (lo (0))), (1, .int (nI q1_q))]) hx hb dX10_plan_89 hl (k := 1) rfl (nI_add _ 1) (by decide) rfl (fun ls hl => ?_)
              refine lv_goto (tgt := 26) hx hb dX10_plan_92 (by decide) ?_
              exact ih26_1 p v (k + 1) (by omega) (by rw [m_pl, ← hp, ← hvl]; first | (rw [if_pos ⟨by assumption, hhp, by omega⟩]; done) | (rw [if_neg (fun z => by have z3 := z.2.2; omega)]; done) | (rw [if_neg (fun z => by have z1 := z.1; simp_all)]; done) | (rw [if_neg (fun z => by have z2 := z.2.1; rw [if_pos z2] at *; omega)])) (by first | (rw [m_pc, if_neg (Nat.succ_ne_zero k)]; rfl) | exact hvl) (by omega) _ (lv_sub hl [0, 2, 3, 4, 5, 6] rfl)
            · skip
              have hhp : m_helps S q1_q k = true := by cases e_ : m_helps S q1_q k with | true => rfl | false => exact absurd (by rw [e_]; rfl) (by assumption : ¬ (if m_helps S q1_q k = true then m_cost S q1_q k + 1 else 0) = 0)
              rw [show nO (if m_helps S q1_q k = true then m_cost S q1_q k + 1 else 0) = nI (m_cost S q1_q k) from by rw [if_pos hhp]; rfl] at hl
              have hcl : m_cost S q1_q k ≤ 121 := (by obtain ⟨u1, u2, hA⟩ := s6 k (by omega); have hsm := m_helps_same hhp; have hQ := hQq_q; rw [← hsm] at hQ; exact a_cost_le ((s1 _ u1).1 u2) hQ hA)
              refine lv_iload hx hb dX10_plan_75 (lv_at hl 0 rfl) ?_
              refine lv_iload hx hb dX10_plan_77 (lv_at hl 2 rfl) ?_
              refine x_icmp_ge (tgt := 89) cx dX10_plan_79 (by decide) (by omega) (fun h79_7 => ?_) (fun h79_7 => ?_)
              · skip
                refine lv_iinc (v := nI (k + 1)) (lv' := [(5, .int (nI (k + 1))), (6, .int (nI (m_cost S q1_q k))), (4, .int (nI v)), (3, .int (nO p)), (2, .ref (lo (tQ q1_q))), (0, .ref (lo (0))), (1, .int (nI q1_q))]) hx hb dX10_plan_89 hl (k := 1) rfl (nI_add _ 1) (by decide) rfl (fun ls hl => ?_)
                refine lv_goto (tgt := 26) hx hb dX10_plan_92 (by decide) ?_
                exact ih26_1 p v (k + 1) (by omega) (by rw [m_pl, ← hp, ← hvl]; first | (rw [if_pos ⟨by assumption, hhp, by omega⟩]; done) | (rw [if_neg (fun z => by have z3 := z.2.2; omega)]; done) | (rw [if_neg (fun z => by have z1 := z.1; simp_all)]; done) | (rw [if_neg (fun z => by have z2 := z.2.1; rw [if_pos z2] at *; omega)])) (by first | (rw [m_pc, if_neg (Nat.succ_ne_zero k)]; rfl) | exact hvl) (by omega) _ (lv_sub hl [0, 2, 3, 4, 5, 6] rfl)
              · skip
                refine lv_iload hx hb dX10_plan_82 (lv_at hl 1 rfl) ?_
                refine lv_istore_n (lv' := [(3, .int (nI k)), (6, .int (nI (m_cost S q1_q k))), (5, .int (nI k)), (4, .int (nI v)), (2, .ref (lo (tQ q1_q))), (0, .ref (lo (0))), (1, .int (nI q1_q))]) hx hb dX10_plan_84 rfl hl (by decide) rfl (fun ls hl => ?_)
                refine lv_iload hx hb dX10_plan_85 (lv_at hl 1 rfl) ?_
                refine lv_istore (lv' := [(4, .int (nI (m_cost S q1_q k))), (3, .int (nI k)), (6, .int (nI (m_cost S q1_q k))), (5, .int (nI k)), (2, .ref (lo (tQ q1_q))), (0, .ref (lo (0))), (1, .int (nI q1_q))]) hx hb dX10_plan_87 hl (by decide) rfl (fun ls hl => ?_)
                refine lv_iinc (v := nI (k + 1)) (lv' := [(5, .int (nI (k + 1))), (4, .int (nI (m_cost S q1_q k))), (3, .int (nI k)), (6, .int (nI (m_cost S q1_q k))), (2, .ref (lo (tQ q1_q))), (0, .ref (lo (0))), (1, .int (nI q1_q))]) hx hb dX10_plan_89 hl (k := 3) rfl (nI_add _ 1) (by decide) rfl (fun ls hl => ?_)
                refine lv_goto (tgt := 26) hx hb dX10_plan_92 (by decide) ?_
                exact ih26_1 (k + 1) (m_cost S q1_q k) (k + 1) (by omega) (by rw [m_pl, ← hp, ← hvl]; first | (rw [if_pos ⟨by assumption, hhp, by omega⟩]; done) | (rw [if_neg (fun z => by have z3 := z.2.2; omega)]; done) | (rw [if_neg (fun z => by have z1 := z.1; simp_all)]; done) | (rw [if_neg (fun z => by have z2 := z.2.1; rw [if_pos z2] at *; omega)])) (by first | (rw [m_pc, if_neg (Nat.succ_ne_zero k)]; rfl) | exact hvl) (by omega) _ (lv_sub hl [0, 1, 2, 4, 5, 6] rfl)
    exact L26_1 (_ + 1) 0 (m_plain S q1_q) 0 (by omega) (by rfl) (by rfl) (Nat.lt_succ_self _) _ (lv_sub hl [0, 1, 2, 3, 4, 5] rfl)
  · skip
    rw [d_qn_0 hc_q]
    refine lv_astore_nN (lv' := [(2, .null), (0, .ref (lo (0))), (1, .int (q))]) hx hb dX10_plan_5 rfl hl (by decide) rfl (fun ls hl => ?_)
    refine lv_aload_nN hx hb dX10_plan_6 rfl (lv_at hl 0 rfl) ?_
    refine lv_ifnonnullN hx hb dX10_plan_7 ?_
    refine lv_bipush (v := (-2)) hx hb dX10_plan_10 rfl ?_
    exact x_iret cx hr hlk dX10_plan_12 ((congrArg (fun z => some (Value.int z)) (show (-2) = P_plan S q from by simp [P_plan, *])).trans hvv)
set_option maxHeartbeats 4000000 in
set_option maxRecDepth 100000 in
theorem d_run {l : Launch} {G : x_G} {lo : x_L} {co : x_C} (dd : Nat) (S : St) (X : Sc) (hd : isDk G lo co dd S X) (hj : x_J lo co) (hS : Sok S) (q w : Int32) : x_Rd l G lo co yX10_run cX10_run 5 (some .int) 9 [.ref (lo (0)), .int (q), .int (w)] (some (.int (P_run S q w))) := by
  refine x_enter RX10 rfl (by decide) (Nat.le_of_ble_eq_true rfl) ?_
  intro pp ee ss mm bb mt cd ls cx hk hw hr hlk hl
  have hl : lv_has ls 5 [(0, .ref (lo (0))), (1, .int (q)), (2, .int (w))] := hl
  generalize hav : ([.ref (lo (0)), .int (q), .int (w)] : List Value).toArray = av at cx ⊢
  generalize hvv : (some (.int (P_run S q w)) : Option Value) = vv
  have hx := cx.1
  have hb := cx.2.1
  have hown := cx.2.2.2.1
  have hts := cx.2.2.2.2
  obtain ⟨s1, s2, s3, s4, s5, s6⟩ := id hS
  obtain ⟨ft, hf1, hft⟩ := hd.2.1
  obtain ⟨mcq, evq, hq0⟩ := hd.L2.obj
  obtain ⟨mca, eva, ha0⟩ := hd.L4.obj
  refine lv_aload_n hx hb dX10_run_0 rfl (lv_at hl 0 rfl) ?_
  refine lv_iload_n hx hb dX10_run_1 rfl (lv_at hl 1 rfl) ?_
  refine x_rdV (av := [.int (q)]) (rest := []) cx hk hw (hd.1) cv_RX10_95_9 (d_questionAt dd S X hd hj hS q) hl.1 rfl rfl (Nat.le_of_ble_eq_true rfl) ⟨by decide, by decide⟩ ⟨Nat.zero_le _, Nat.zero_le _⟩ dX10_run_2 ?_
  by_cases hc_q : x_in (sn S 0) q = true
  · skip
    obtain ⟨q1_q, hq1_q, hq3_q⟩ := x_in_ex (n := sn S 0) (by omega) hc_q
    obtain ⟨v1_q, v2_q, hQq_q⟩ := s5 q1_q hq1_q
    have hTq_q := (s1 _ v1_q).1 v2_q
    have htq_q := hd.T v1_q v2_q
    have hqq_q := hd.Q (q := q1_q) hq1_q
    rw [d_qn_1 hc_q hq3_q (by omega)]
    rw [hq3_q] at hl
    refine lv_astore_n (lv' := [(3, .ref (lo (tQ q1_q))), (0, .ref (lo (0))), (1, .int (nI q1_q)), (2, .int (w))]) hx hb dX10_run_5 rfl hl (by decide) rfl (fun ls hl => ?_)
    refine lv_aload_n hx hb dX10_run_6 rfl (lv_at hl 0 rfl) ?_
    refine lv_ifnonnull (tgt := 12) hx hb dX10_run_7 (by decide) ?_
    refine lv_iload_n hx hb dX10_run_12 rfl (lv_at hl 3 rfl) ?_
    by_cases hs13_0 : w = 0
    · skip
      refine x_tin (v := 0) (tgt := 44) (off := 31) cx dX10_run_13 hs13_0 (by decide) (by decide) (by decide) (by decide) ?_
      refine lv_aload_n hx hb dX10_run_44 rfl (lv_at hl 0 rfl) ?_
      refine x_rdV (av := []) (rest := []) cx hk hw (hqq_q.1) cv_RX10_206_5 (c_q_ans (tQ q1_q) (tT (qt S q1_q)) (qQ S q1_q) (sT S (qt S q1_q)) hqq_q htq_q hTq_q hQq_q) hl.1 rfl rfl (Nat.le_of_ble_eq_true rfl) ⟨by decide, by decide⟩ ⟨Nat.zero_le _, Nat.zero_le _⟩ dX10_run_45 ?_
      exact x_iret cx hr hlk dX10_run_48 ((congrArg (fun z => some (Value.int z)) (show nI (q_ans (sT S (qt S q1_q)) (qQ S q1_q)) = P_run S q w from by rw [P_run, if_pos hc_q, hq3_q, nI_clamp (by omega)]; rw [if_pos (by assumption)])).trans hvv)
    by_cases hs13_1 : w = 1
    · skip
      refine x_tin (v := 1) (tgt := 49) (off := 36) cx dX10_run_13 hs13_1 (by decide) (by decide) (by decide) (by decide) ?_
      refine lv_aload_n hx hb dX10_run_49 rfl (lv_at hl 0 rfl) ?_
      refine x_rdV (av := []) (rest := []) cx hk hw (hqq_q.1) cv_RX10_209_5 (c_q_sum (tQ q1_q) (tT (qt S q1_q)) (qQ S q1_q) (sT S (qt S q1_q)) hqq_q htq_q hTq_q hQq_q) hl.1 rfl rfl (Nat.le_of_ble_eq_true rfl) ⟨by decide, by decide⟩ ⟨Nat.zero_le _, Nat.zero_le _⟩ dX10_run_50 ?_
      exact x_iret cx hr hlk dX10_run_53 ((congrArg (fun z => some (Value.int z)) (show nI (q_sum (sT S (qt S q1_q)) (qQ S q1_q)) = P_run S q w from by rw [P_run, if_pos hc_q, hq3_q, nI_clamp (by omega)]; rw [if_neg (by assumption), if_pos (by assumption)])).trans hvv)
    by_cases hs13_2 : w = 2
    · skip
      refine x_tin (v := 2) (tgt := 54) (off := 41) cx dX10_run_13 hs13_2 (by decide) (by decide) (by decide) (by decide) ?_
      refine lv_aload_n hx hb dX10_run_54 rfl (lv_at hl 1 rfl) ?_
      refine lv_aload_n hx hb dX10_run_55 rfl (lv_at hl 1 rfl) ?_
      refine lv_iload_n hx hb dX10_run_56 rfl (lv_at hl 2 rfl) ?_
      refine x_rdV (av := [.int (nI q1_q)]) (rest := [.ref (lo (0))]) cx hk hw (hd.1) cv_RX10_212_9 (d_plan dd S X hd hj hS (nI q1_q)) hl.1 rfl rfl (Nat.le_of_ble_eq_true rfl) ⟨by decide, by decide⟩ ⟨Nat.zero_le _, Nat.zero_le _⟩ dX10_run_57 ?_
      rw [P_plan_q hS (by omega)]
      refine x_rdV (av := [.int (nO (m_plan S q1_q))]) (rest := []) cx hk hw (hd.1) cv_RX10_154_9 (d_aidAt dd S X hd hj hS (nO (m_plan S q1_q))) hl.1 rfl rfl (Nat.le_of_ble_eq_true rfl) ⟨by decide, by decide⟩ ⟨Nat.zero_le _, Nat.zero_le _⟩ dX10_run_60 ?_
      by_cases hpz : m_plan S q1_q = 0
      · skip
        rw [hpz, d_ad_z]
        refine lv_astoreN (lv' := [(4, .null), (3, .ref (lo (tQ q1_q))), (0, .ref (lo (0))), (1, .int (nI q1_q)), (2, .int (w))]) hx hb dX10_run_63 hl (by decide) rfl (fun ls hl => ?_)
        refine lv_aloadN hx hb dX10_run_65 (lv_at hl 0 rfl) ?_
        refine lv_ifnonnullN hx hb dX10_run_67 ?_
        refine lv_aload_n hx hb dX10_run_70 rfl (lv_at hl 1 rfl) ?_
        refine x_get (v := .ref (lo (tT (qt S q1_q)))) cx hk hw (hqq_q.1) f_RX10_99_5 rfl dX10_run_71 ?_
        refine x_rdV (av := []) (rest := []) cx hk hw (htq_q.1) cv_RX10_215_8 (c_t_pages (tT (qt S q1_q)) (sT S (qt S q1_q)) htq_q hTq_q) hl.1 rfl rfl (Nat.le_of_ble_eq_true rfl) ⟨by decide, by decide⟩ ⟨Nat.zero_le _, Nat.zero_le _⟩ dX10_run_74 ?_
        refine lv_goto (tgt := 86) hx hb dX10_run_77 (by decide) ?_
        exact x_iret cx hr hlk dX10_run_86 ((congrArg (fun z => some (Value.int z)) (show nI (s_up ((sT S (qt S q1_q)).1 3) ((sT S (qt S q1_q)).1 2)) = P_run S q w from by rw [P_run, if_pos hc_q, hq3_q, nI_clamp (by omega)]; rw [if_neg (by assumption), if_neg (by assumption), if_pos (by assumption), m_fetch]; first | (rw [if_pos hpz]; done) | (rw [if_neg hpz, hsm]))).trans hvv)
      · skip
        obtain ⟨hpl1, hph⟩ := (m_pl_ok (S := S) q1_q (sn S 2)).resolve_left hpz
        have hpl2 : m_plan S q1_q - 1 < sn S 1 := hpl1
        obtain ⟨u1_p, u2_p, hAa_p⟩ := s6 (m_plan S q1_q - 1) hpl2
        have hTa_p := (s1 _ u1_p).1 u2_p
        have hta_p := hd.T u1_p u2_p
        have had_p := hd.A (a := m_plan S q1_q - 1) hpl2
        have hBa_p := aok_bA (S := S) hAa_p
        have hA4_p := hAa_p.1
        have hsm : ao S (m_plan S q1_q - 1) = qt S q1_q := m_helps_same hph
        have hqs_m : isQn G lo co (tQ q1_q) (tT (ao S (m_plan S q1_q - 1))) (qQ S q1_q) := by rw [hsm]; exact hqq_q
        have hQs_m : Qok (sT S (ao S (m_plan S q1_q - 1))) (qQ S q1_q) := by rw [hsm]; exact hQq_q
        rw [d_ad_s hS hpz hpl2]
        refine lv_astore (lv' := [(4, .ref (lo (tA (m_plan S q1_q - 1)))), (3, .ref (lo (tQ q1_q))), (0, .ref (lo (0))), (1, .int (nI q1_q)), (2, .int (w))]) hx hb dX10_run_63 hl (by decide) rfl (fun ls hl => ?_)
        refine lv_aload hx hb dX10_run_65 (lv_at hl 0 rfl) ?_
        refine lv_ifnonnull (tgt := 80) hx hb dX10_run_67 (by decide) ?_
        refine lv_aload hx hb dX10_run_80 (lv_at hl 0 rfl) ?_
        refine lv_aload_n hx hb dX10_run_82 rfl (lv_at hl 1 rfl) ?_
        refine av_RX10_218 cx hk hw had_p hta_p hTa_p hBa_p hqs_m hQs_m hl.1 (Nat.le_of_ble_eq_true rfl) ⟨by decide, by decide⟩ ⟨Nat.zero_le _, Nat.zero_le _⟩ dX10_run_83 ?_
        rw [fetch_bA]
        exact x_iret cx hr hlk dX10_run_86 ((congrArg (fun z => some (Value.int z)) (show nI (a_fetch (sT S (ao S (m_plan S q1_q - 1))) (qQ S q1_q) (aA S (m_plan S q1_q - 1))) = P_run S q w from by rw [P_run, if_pos hc_q, hq3_q, nI_clamp (by omega)]; rw [if_neg (by assumption), if_neg (by assumption), if_pos (by assumption), m_fetch]; first | (rw [if_pos hpz]; done) | (rw [if_neg hpz, hsm]))).trans hvv)
    by_cases hs13_3 : w = 3
    · skip
      refine x_tin (v := 3) (tgt := 87) (off := 74) cx dX10_run_13 hs13_3 (by decide) (by decide) (by decide) (by decide) ?_
      refine lv_aload_n hx hb dX10_run_87 rfl (lv_at hl 1 rfl) ?_
      refine lv_iload_n hx hb dX10_run_88 rfl (lv_at hl 2 rfl) ?_
      refine lv_aload_n hx hb dX10_run_89 rfl (lv_at hl 1 rfl) ?_
      refine lv_iload_n hx hb dX10_run_90 rfl (lv_at hl 2 rfl) ?_
      refine x_rdV (av := [.int (nI q1_q)]) (rest := [.int (nI q1_q), .ref (lo (0))]) cx hk hw (hd.1) cv_RX10_212_9 (d_plan dd S X hd hj hS (nI q1_q)) hl.1 rfl rfl (Nat.le_of_ble_eq_true rfl) ⟨by decide, by decide⟩ ⟨Nat.zero_le _, Nat.zero_le _⟩ dX10_run_91 ?_
      rw [P_plan_q hS (by omega)]
      refine x_rdV (av := [.int (nI q1_q), .int (nO (m_plan S q1_q))]) (rest := []) cx hk hw (hd.1) cv_RX10_199_9 (d_cost dd S X hd hj hS (nI q1_q) (nO (m_plan S q1_q))) hl.1 rfl rfl (Nat.le_of_ble_eq_true rfl) ⟨by decide, by decide⟩ ⟨Nat.zero_le _, Nat.zero_le _⟩ dX10_run_94 ?_
      exact x_iret cx hr hlk dX10_run_97 ((congrArg (fun z => some (Value.int z)) (show P_cost S (nI q1_q) (nO (m_plan S q1_q)) = P_run S q w from by rw [P_run, if_pos hc_q, hq3_q, nI_clamp (by omega)]; rw [if_neg (by assumption), if_neg (by assumption), if_neg (by assumption), if_pos (by assumption)]; exact P_cost_pl hS hq1_q)).trans hvv)
    refine x_tout (tgt := 98) (lo := 0) (hi := 3) cx dX10_run_13 (by decide) (fun z h1 h2 => by rcases (show z = 0 ∨ z = 1 ∨ z = 2 ∨ z = 3 by omega) with rfl | rfl | rfl | rfl <;> (first | exact hs13_0 | exact hs13_1 | exact hs13_2 | exact hs13_3)) ?_
    refine lv_iconst (v := (-1)) hx hb dX10_run_98 rfl ?_
    exact x_iret cx hr hlk dX10_run_99 ((congrArg (fun z => some (Value.int z)) (show (-1) = P_run S q w from by rw [P_run, if_pos hc_q, hq3_q, nI_clamp (by omega)]; rw [if_neg (by assumption), if_neg (by assumption), if_neg (by assumption), if_neg (by assumption)])).trans hvv)
  · skip
    rw [d_qn_0 hc_q]
    refine lv_astore_nN (lv' := [(3, .null), (0, .ref (lo (0))), (1, .int (q)), (2, .int (w))]) hx hb dX10_run_5 rfl hl (by decide) rfl (fun ls hl => ?_)
    refine lv_aload_nN hx hb dX10_run_6 rfl (lv_at hl 0 rfl) ?_
    refine lv_ifnonnullN hx hb dX10_run_7 ?_
    refine lv_iconst (v := (-1)) hx hb dX10_run_10 rfl ?_
    exact x_iret cx hr hlk dX10_run_11 ((congrArg (fun z => some (Value.int z)) (show (-1) = P_run S q w from by simp [P_run, *])).trans hvv)
set_option maxHeartbeats 4000000 in
set_option maxRecDepth 100000 in
theorem d_room {l : Launch} {G : x_G} {lo : x_L} {co : x_C} (dd : Nat) (S : St) (X : Sc) (hd : isDk G lo co dd S X) (hj : x_J lo co) (hS : Sok S) (s : Int32) : x_Rd l G lo co yX10_room cX10_room 4 (some .int) 7 [.ref (lo (0)), .int (s)] (some (.int (P_room S s))) := by
  refine x_enter RX10 rfl (by decide) (Nat.le_of_ble_eq_true rfl) ?_
  intro pp ee ss mm bb mt cd ls cx hk hw hr hlk hl
  have hl : lv_has ls 4 [(0, .ref (lo (0))), (1, .int (s))] := hl
  generalize hav : ([.ref (lo (0)), .int (s)] : List Value).toArray = av at cx ⊢
  generalize hvv : (some (.int (P_room S s)) : Option Value) = vv
  have hx := cx.1
  have hb := cx.2.1
  have hown := cx.2.2.2.1
  have hts := cx.2.2.2.2
  obtain ⟨s1, s2, s3, s4, s5, s6⟩ := id hS
  obtain ⟨ft, hf1, hft⟩ := hd.2.1
  obtain ⟨mcq, evq, hq0⟩ := hd.L2.obj
  obtain ⟨mca, eva, ha0⟩ := hd.L4.obj
  have hb12 := Sok.b12 hS
  refine lv_aload_n hx hb dX10_room_0 rfl (lv_at hl 0 rfl) ?_
  refine lv_iload_n hx hb dX10_room_1 rfl (lv_at hl 1 rfl) ?_
  refine x_rdV (av := [.int (s)]) (rest := []) cx hk hw (hd.1) cv_RX10_221_9 (d_isSet dd S X hd hj hS s) hl.1 rfl rfl (Nat.le_of_ble_eq_true rfl) ⟨by decide, by decide⟩ ⟨Nat.zero_le _, Nat.zero_le _⟩ dX10_room_2 ?_
  refine x_if_ne (tgt := 10) cx dX10_room_5 (by decide) (fun h5_1 => ?_) (fun h5_1 => ?_)
  · skip
    obtain ⟨n, hn1, hn2, hn⟩ := m_isS_ex hS (by assumption)
    rw [hn] at hl
    refine lv_iconst (v := nI 0) hx hb dX10_room_10 rfl ?_
    refine lv_istore_n (lv' := [(2, .int (nI 0)), (0, .ref (lo (0))), (1, .int (nI n))]) hx hb dX10_room_11 rfl hl (by decide) rfl (fun ls hl => ?_)
    refine lv_iconst (v := nI 0) hx hb dX10_room_12 rfl ?_
    refine lv_istore_n (lv' := [(3, .int (nI 0)), (2, .int (nI 0)), (0, .ref (lo (0))), (1, .int (nI n))]) hx hb dX10_room_13 rfl hl (by decide) rfl (fun ls hl => ?_)
    have L14_2 : ∀ (n_ : Nat) (f : Nat) (k : Nat), (k ≤ sn S 1) → (f = m_rs S n k) → sn S 1 - k < n_ → ∀ (ls : Array Slot), lv_has ls 4 [(3, .int (nI k)), (2, .int (nI f)), (0, .ref (lo (0))), (1, .int (nI n))] → x_w l 7 pp ee ss mm av bb mt cd vv 14 ls [] := by
      intro n_
      induction n_ with
      | zero => intro f k hv hf hm_ ls hl; exact absurd hm_ (Nat.not_lt_zero _)
      | succ n_ ih14_2 =>
        intro f k hv hf hm_ ls hl
        refine lv_iload_n hx hb dX10_room_14 rfl (lv_at hl 0 rfl) ?_
        refine lv_aload_n hx hb dX10_room_15 rfl (lv_at hl 2 rfl) ?_
        refine x_get (v := .ref (lo (4))) cx hk hw (hd.1) f_RX10_22_9 rfl dX10_room_16 ?_
        refine x_rdV (av := []) (rest := [.int (nI k)]) cx hk hw (ha0) cv_RX10_76_0 (l_size 4 mca eva (sn S 1) ha0) hl.1 rfl rfl (Nat.le_of_ble_eq_true rfl) ⟨by decide, by decide⟩ ⟨Nat.zero_le _, Nat.zero_le _⟩ dX10_room_19 ?_
        refine x_icmp_ge (tgt := 60) cx dX10_room_22 (by decide) (by omega) (fun h22_3 => ?_) (fun h22_3 => ?_)
        · skip
          refine lv_iload_n hx hb dX10_room_60 rfl (lv_at hl 1 rfl) ?_
          exact x_iret cx hr hlk dX10_room_61 ((congrArg (fun z => some (Value.int z)) (show nI f = P_room S s from by rw [P_room, if_pos (by assumption), hn, nI_clamp (by omega), hf, show k = sn S 1 by omega])).trans hvv)
        · skip
          refine lv_iload_n hx hb dX10_room_25 rfl (lv_at hl 1 rfl) ?_
          refine lv_iload_n hx hb dX10_room_26 rfl (lv_at hl 0 rfl) ?_
          refine lv_iload_n hx hb dX10_room_27 rfl (lv_at hl 3 rfl) ?_
          refine x_rdS (av := [.int (nI k), .int (nI n)]) (rest := [.int (nI f)]) cx hk hw cs_RX10_224 (c_isIn k n (by omega) (by omega)) hl.1 rfl rfl (Nat.le_of_ble_eq_true rfl) ⟨by decide, by decide⟩ ⟨Nat.zero_le _, Nat.zero_le _⟩ dX10_room_28 ?_
          have J52_5 : ∀ (y5_s0 : Nat) (ey5_s0 : y5_s0 = if (n.testBit k) = true then (m_sp S k) else 0) (ls : Array Slot), lv_has ls 4 [(3, .int (nI k)), (2, .int (nI f)), (0, .ref (lo (0))), (1, .int (nI n))] → x_w l 7 pp ee ss mm av bb mt cd vv 52 ls [.int (nI y5_s0), .int (nI f)] := by
            intro y5_s0 ey5_s0 ls hl
            have dy5_s0 : ((n.testBit k) = true ∧ (y5_s0 = (m_sp S k))) ∨ (¬ ((n.testBit k) = true) ∧ (y5_s0 = 0)) := by rw [ey5_s0]; repeat' (first | (exact rfl) | (split <;> first | (refine Or.inl ⟨by assumption, ?_⟩) | (refine Or.inr ⟨by assumption, ?_⟩)))
            refine x_iaddN cx dX10_room_52 ?_
            refine lv_istore_n (lv' := [(2, .int (nI (f + y5_s0))), (3, .int (nI k)), (0, .ref (lo (0))), (1, .int (nI n))]) hx hb dX10_room_53 rfl hl (by decide) rfl (fun ls hl => ?_)
            refine lv_iinc (v := nI (k + 1)) (lv' := [(3, .int (nI (k + 1))), (2, .int (nI (f + y5_s0))), (0, .ref (lo (0))), (1, .int (nI n))]) hx hb dX10_room_54 hl (k := 1) rfl (nI_add _ 1) (by decide) rfl (fun ls hl => ?_)
            refine lv_goto (tgt := 14) hx hb dX10_room_57 (by decide) ?_
            exact ih14_2 (f + y5_s0) (k + 1) (by omega) (by rw [hf]; unfold m_rs; rw [sumN]; congr 1) (by omega) _ (lv_sub hl [0, 1, 2, 3] rfl)
          refine x_if_eq (tgt := 51) cx dX10_room_31 (by decide) (fun h31_6 => ?_) (fun h31_6 => ?_)
          · skip
            refine lv_iconst (v := nI 0) hx hb dX10_room_51 rfl ?_
            exact J52_5 0 (by rw [if_neg (fun q => Bool.noConfusion (h31_6.symm.trans q))]) _ (lv_sub hl [0, 1, 2, 3] rfl)
          · skip
            refine lv_aload_n hx hb dX10_room_34 rfl (lv_at hl 2 rfl) ?_
            refine x_get (v := .ref (lo (4))) cx hk hw (hd.1) f_RX10_22_9 rfl dX10_room_35 ?_
            refine lv_iload_n hx hb dX10_room_38 rfl (lv_at hl 0 rfl) ?_
            refine x_rdV (av := [.int (nI k)]) (rest := [.int (nI f)]) cx hk hw ha0 cv_RX10_202_0 (l_get dd 4 5 (sn S 1) _ hd.L4 k (by omega) (by omega)) hl.1 rfl rfl (Nat.le_of_ble_eq_true rfl) ⟨by decide, by decide⟩ ⟨Nat.zero_le _, Nat.zero_le _⟩ dX10_room_39 ?_
            obtain ⟨u1_39_7, u2_39_7, hAa_39_7⟩ := s6 k (by omega)
            have hTa_39_7 := (s1 _ u1_39_7).1 u2_39_7
            have hta_39_7 := hd.T u1_39_7 u2_39_7
            have had_39_7 := hd.A (a := k) (by omega)
            have hBa_39_7 := aok_bA (S := S) hAa_39_7
            have hA4_39_7 := hAa_39_7.1
            refine ac_RX10_159 cx hk hw had_39_7 dX10_room_42 ?_
            refine av_RX10_180 cx hk hw had_39_7 hta_39_7 hTa_39_7 hBa_39_7 hl.1 (Nat.le_of_ble_eq_true rfl) ⟨by decide, by decide⟩ ⟨Nat.zero_le _, Nat.zero_le _⟩ dX10_room_45 ?_
            rw [show nI (a_space (sT S (ao S k)) (bA S k)) = nI (m_sp S k) from rfl]
            refine lv_goto (tgt := 52) hx hb dX10_room_48 (by decide) ?_
            exact J52_5 (m_sp S k) (by rw [if_pos h31_6]) _ (lv_sub hl [0, 1, 2, 3] rfl)
    exact L14_2 (_ + 1) 0 0 (by omega) (by rfl) (Nat.lt_succ_self _) _ (lv_sub hl [0, 1, 2, 3] rfl)
  · skip
    refine lv_iconst (v := (-1)) hx hb dX10_room_8 rfl ?_
    exact x_iret cx hr hlk dX10_room_9 ((congrArg (fun z => some (Value.int z)) (show (-1) = P_room S s from by simp [P_room, *])).trans hvv)
