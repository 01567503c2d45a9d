set_option maxHeartbeats 4000000 in
set_option maxRecDepth 100000 in
theorem m_pnow {l : Launch} {G : x_G} {lo : x_L} {co : x_C} (S : St) (m : Nat → Nat → Int32) (hm : isM G lo co S m) (hS : Sok S) (t r c f u : Nat) (ht_ : t < 4) (ht2 : 0 < (sT S t).1 1) (hr_ : r < (sT S t).1 3) (hc_ : c < (sT S t).1 1) (hf_ : f ≤ 999) (hu_ : u ≤ 999) : x_Rd l G lo co yX11_passesNow cX11_passesNow 6 (some .boolean) 2 [.ref (lo (0)), .int (nI t), .int (nI r), .int (nI c), .int (nI f), .int (nI u)] (some (.int (bI (decide (f ≤ t_v (sT S t) r c) && decide (t_v (sT S t) r c ≤ u))))) := by
  refine x_enter RX11 rfl (by decide) (Nat.le_of_ble_eq_true rfl) ?_
  intro pp ee ss mm bb mt cd ls cx hk hw hr hlk hl
  have hl : lv_has ls 6 [(0, .ref (lo (0))), (1, .int (nI t)), (2, .int (nI r)), (3, .int (nI c)), (4, .int (nI f)), (5, .int (nI u))] := hl
  generalize hav : ([.ref (lo (0)), .int (nI t), .int (nI r), .int (nI c), .int (nI f), .int (nI u)] : List Value).toArray = av at cx ⊢
  generalize hvv : (some (.int (bI (decide (f ≤ t_v (sT S t) r c) && decide (t_v (sT S t) r c ≤ u)))) : Option Value) = vv
  have hx := cx.1
  have hb := cx.2.1
  have hown := cx.2.2.2.1
  have hts := cx.2.2.2.2
  obtain ⟨s1, s2, s3, s4, s5, s6⟩ := id hS
  have hT := (s1 t ht_).1 ht2
  have q7 := t_v_le hT r c
  refine lv_aload_n hx hb dX11_passesNow_0 rfl (lv_at hl 0 rfl) ?_
  refine lv_iload_n hx hb dX11_passesNow_1 rfl (lv_at hl 1 rfl) ?_
  refine lv_iload_n hx hb dX11_passesNow_2 rfl (lv_at hl 2 rfl) ?_
  refine lv_iload_n hx hb dX11_passesNow_3 rfl (lv_at hl 3 rfl) ?_
  refine x_rdV (av := [.int (nI t), .int (nI r), .int (nI c)]) (rest := []) cx hk hw (hm.1) cv_RX11_101_10 (m_at S m hm hS t r c (by omega) (by first | assumption | omega) (by omega) (by first | assumption | omega)) hl.1 rfl rfl (Nat.le_of_ble_eq_true rfl) ⟨by decide, by decide⟩ ⟨Nat.zero_le _, Nat.zero_le _⟩ dX11_passesNow_4 ?_
  refine lv_iload hx hb dX11_passesNow_7 (lv_at hl 4 rfl) ?_
  refine lv_iload hx hb dX11_passesNow_9 (lv_at hl 5 rfl) ?_
  refine x_rdS (av := [.int (nI (t_v (sT S t) r c)), .int (nI f), .int (nI u)]) (rest := []) cx hk hw cs_RX11_89 (m_lies (nI (t_v (sT S t) r c)) (nI f) (nI u)) hl.1 rfl rfl (Nat.le_of_ble_eq_true rfl) ⟨by decide, by decide⟩ ⟨Nat.zero_le _, Nat.zero_le _⟩ dX11_passesNow_11 ?_
  exact x_zretB (b := decide (f ≤ t_v (sT S t) r c) && decide (t_v (sT S t) r c ≤ u)) cx hr hlk dX11_passesNow_14 (by exact s_btw_nI (by omega) (by omega) (by omega)) hvv
set_option maxHeartbeats 4000000 in
set_option maxRecDepth 100000 in
theorem m_answers {l : Launch} {G : x_G} {lo : x_L} {co : x_C} (S : St) (m : Nat → Nat → Int32) (hm : isM G lo co S m) (hS : Sok S) (q r : Nat) (hq_ : q < sn S 0) (hr_ : r < (sT S (qt S q)).1 3) : x_Rd l G lo co yX11_answers cX11_answers 4 (some .boolean) 3 [.ref (lo (0)), .int (nI q), .int (nI r)] (some (.int (bI (q_passes (sT S (qt S q)) (qQ S q) r)))) := by
  refine x_enter RX11 rfl (by decide) (Nat.le_of_ble_eq_true rfl) ?_
  intro pp ee ss mm bb mt cd ls cx hk hw hr hlk hl
  have hl : lv_has ls 4 [(0, .ref (lo (0))), (1, .int (nI q)), (2, .int (nI r))] := hl
  generalize hav : ([.ref (lo (0)), .int (nI q), .int (nI r)] : List Value).toArray = av at cx ⊢
  generalize hvv : (some (.int (bI (q_passes (sT S (qt S q)) (qQ S q) r))) : Option Value) = vv
  have hx := cx.1
  have hb := cx.2.1
  have hown := cx.2.2.2.1
  have hts := cx.2.2.2.2
  obtain ⟨s1, s2, s3, s4, s5, s6⟩ := id hS
  obtain ⟨v1, v2, hQ⟩ := s5 q hq_
  have hTq := (s1 _ v1).1 v2
  obtain ⟨k1, k2, k3, k4, k5, k6, k7, k8, k9, k0⟩ := id hTq
  obtain ⟨j1, j2, j3, j4, j5, j6⟩ := id hQ
  have h16 := Qok.t16 hTq hQ
  have hw16 := Qok.w16 hTq hQ
  refine lv_iconst (v := nI 0) hx hb dX11_answers_0 rfl ?_
  refine lv_istore_n (lv' := [(3, .int (nI 0)), (0, .ref (lo (0))), (1, .int (nI q)), (2, .int (nI r))]) hx hb dX11_answers_1 rfl hl (by decide) rfl (fun ls hl => ?_)
  have L2_1 : ∀ (n_ : Nat) (k : Nat), (k ≤ 4) → (allN k (fun c => q_pat (sT S (qt S q)) (qQ S q) r (c + 1)) = true) → 4 - k < n_ → ∀ (ls : Array Slot), lv_has ls 4 [(3, .int (nI k)), (0, .ref (lo (0))), (1, .int (nI q)), (2, .int (nI r))] → x_w l 3 pp ee ss mm av bb mt cd vv 2 ls [] := by
    intro n_
    induction n_ with
    | zero => intro k hv hall hm_ ls hl; exact absurd hm_ (Nat.not_lt_zero _)
    | succ n_ ih2_1 =>
      intro k hv hall hm_ ls hl
      refine lv_iload_n hx hb dX11_answers_2 rfl (lv_at hl 0 rfl) ?_
      refine lv_iconst (v := nI 4) hx hb dX11_answers_3 rfl ?_
      refine x_icmp_ge (tgt := 63) cx dX11_answers_4 (by decide) (by omega) (fun h4_2 => ?_) (fun h4_2 => ?_)
      · skip
        refine lv_iconst (v := nI 1) hx hb dX11_answers_63 rfl ?_
        exact x_zretT (b := q_passes (sT S (qt S q)) (qQ S q) r) cx hr hlk dX11_answers_64 (by rw [q_passes, show 4 = k by omega]; exact hall) hvv
      · skip
        refine lv_aload_n hx hb dX11_answers_7 rfl (lv_at hl 1 rfl) ?_
        refine x_get cx hk hw (hm.1) f_RX11_49_10 rfl dX11_answers_8 ?_
        refine lv_iconst (v := nI 4) hx hb dX11_answers_11 rfl ?_
        refine lv_iload_n hx hb dX11_answers_12 rfl (lv_at hl 2 rfl) ?_
        refine x_imulN cx dX11_answers_13 ?_
        refine lv_iload_n hx hb dX11_answers_14 rfl (lv_at hl 0 rfl) ?_
        refine x_iaddN cx dX11_answers_15 ?_
        refine x_zaldE (x := bI (((qQ S q).1 2).testBit k)) cx hk hw (hm.2 15 _ rfl) (by omega) (by decide) (by rw [(dm4 (t := q) (c := k) (by omega)).1, (dm4 (t := q) (c := k) (by omega)).2]) dX11_answers_16 ?_
        refine x_if_eq (tgt := 57) cx dX11_answers_17 (by decide) (fun h17_3 => ?_) (fun h17_3 => ?_)
        · skip
          refine lv_iinc (v := nI (k + 1)) (lv' := [(3, .int (nI (k + 1))), (0, .ref (lo (0))), (1, .int (nI q)), (2, .int (nI r))]) hx hb dX11_answers_57 hl (k := 0) rfl (nI_add _ 1) (by decide) rfl (fun ls hl => ?_)
          refine lv_goto (tgt := 2) hx hb dX11_answers_60 (by decide) ?_
          exact ih2_1 (k + 1) (by omega) (by first | exact allN_step hall (q_pat_n (by assumption)) | exact allN_step hall ((q_pat_s (by assumption)).trans (by assumption))) (by omega) _ (lv_sub hl [0, 1, 2, 3] rfl)
        · skip
          have hkc := q_bc hQ (by assumption)
          have q6 := j6 k (by omega)
          refine lv_aload_n hx hb dX11_answers_20 rfl (lv_at hl 1 rfl) ?_
          refine lv_aload_n hx hb dX11_answers_21 rfl (lv_at hl 1 rfl) ?_
          refine x_get cx hk hw (hm.1) f_RX11_37_10 rfl dX11_answers_22 ?_
          refine lv_iload_n hx hb dX11_answers_25 rfl (lv_at hl 2 rfl) ?_
          refine x_ialdN cx hk hw (hm.2 11 _ rfl) (by omega) (by decide) dX11_answers_26 ?_
          refine lv_iload_n hx hb dX11_answers_27 rfl (lv_at hl 3 rfl) ?_
          refine lv_iload_n hx hb dX11_answers_28 rfl (lv_at hl 0 rfl) ?_
          refine lv_aload_n hx hb dX11_answers_29 rfl (lv_at hl 1 rfl) ?_
          refine x_get cx hk hw (hm.1) f_RX11_53_10 rfl dX11_answers_30 ?_
          refine lv_iconst (v := nI 4) hx hb dX11_answers_33 rfl ?_
          refine lv_iload_n hx hb dX11_answers_34 rfl (lv_at hl 2 rfl) ?_
          refine x_imulN cx dX11_answers_35 ?_
          refine lv_iload_n hx hb dX11_answers_36 rfl (lv_at hl 0 rfl) ?_
          refine x_iaddN cx dX11_answers_37 ?_
          refine x_ialdE (x := nI ((qQ S q).2 0 k)) cx hk hw (hm.2 16 _ rfl) (by omega) (by decide) (by rw [(dm4 (t := q) (c := k) (by omega)).1, (dm4 (t := q) (c := k) (by omega)).2]) dX11_answers_38 ?_
          refine lv_aload_n hx hb dX11_answers_39 rfl (lv_at hl 1 rfl) ?_
          refine x_get cx hk hw (hm.1) f_RX11_56_10 rfl dX11_answers_40 ?_
          refine lv_iconst (v := nI 4) hx hb dX11_answers_43 rfl ?_
          refine lv_iload_n hx hb dX11_answers_44 rfl (lv_at hl 2 rfl) ?_
          refine x_imulN cx dX11_answers_45 ?_
          refine lv_iload_n hx hb dX11_answers_46 rfl (lv_at hl 0 rfl) ?_
          refine x_iaddN cx dX11_answers_47 ?_
          refine x_ialdE (x := nI ((qQ S q).2 1 k)) cx hk hw (hm.2 17 _ rfl) (by omega) (by decide) (by rw [(dm4 (t := q) (c := k) (by omega)).1, (dm4 (t := q) (c := k) (by omega)).2]) dX11_answers_48 ?_
          refine x_rdV (av := [.int (nI (qt S q)), .int (nI r), .int (nI k), .int (nI ((qQ S q).2 0 k)), .int (nI ((qQ S q).2 1 k))]) (rest := []) cx hk hw (hm.1) cv_RX11_179_10 (m_pnow S m hm hS (qt S q) r k ((qQ S q).2 0 k) ((qQ S q).2 1 k) (by first | assumption | omega) (by first | assumption | omega) (by first | assumption | omega) (by first | assumption | omega) (by first | assumption | omega) (by first | assumption | omega)) hl.1 rfl rfl (Nat.le_of_ble_eq_true rfl) ⟨by decide, by decide⟩ ⟨Nat.zero_le _, Nat.zero_le _⟩ dX11_answers_49 ?_
          refine x_if_ne (tgt := 57) cx dX11_answers_52 (by decide) (fun h52_4 => ?_) (fun h52_4 => ?_)
          · skip
            refine lv_iinc (v := nI (k + 1)) (lv' := [(3, .int (nI (k + 1))), (0, .ref (lo (0))), (1, .int (nI q)), (2, .int (nI r))]) hx hb dX11_answers_57 hl (k := 0) rfl (nI_add _ 1) (by decide) rfl (fun ls hl => ?_)
            refine lv_goto (tgt := 2) hx hb dX11_answers_60 (by decide) ?_
            exact ih2_1 (k + 1) (by omega) (by first | exact allN_step hall (q_pat_n (by assumption)) | exact allN_step hall ((q_pat_s (by assumption)).trans (by assumption))) (by omega) _ (lv_sub hl [0, 1, 2, 3] rfl)
          · skip
            refine lv_iconst (v := nI 0) hx hb dX11_answers_55 rfl ?_
            exact x_zretF (b := q_passes (sT S (qt S q)) (qQ S q) r) cx hr hlk dX11_answers_56 (by exact allN_no (k := k) (by omega) ((q_pat_s (by assumption)).trans (by assumption))) hvv
  exact L2_1 (_ + 1) 0 (by omega) (by rfl) (Nat.lt_succ_self _) _ (lv_sub hl [0, 1, 2, 3] rfl)
set_option maxHeartbeats 4000000 in
set_option maxRecDepth 100000 in
theorem m_mnow {l : Launch} {G : x_G} {lo : x_L} {co : x_C} (S : St) (m : Nat → Nat → Int32) (hm : isM G lo co S m) (hS : Sok S) (hM : Mok S m) (q a r : Nat) (hq_ : q < sn S 0) (ha_ : a < sn S 1) (hsame : ao S a = qt S q) (hr_ : r < (sT S (qt S q)).1 3) : x_Rd l G lo co yX11_matchesNow cX11_matchesNow 8 (some .boolean) 3 [.ref (lo (0)), .int (nI q), .int (nI a), .int (nI r)] (some (.int (bI (a_hit (sT S (qt S q)) (qQ S q) (aA S a) r)))) := by
  refine x_enter RX11 rfl (by decide) (Nat.le_of_ble_eq_true rfl) ?_
  intro pp ee ss mm bb mt cd ls cx hk hw hr hlk hl
  have hl : lv_has ls 8 [(0, .ref (lo (0))), (1, .int (nI q)), (2, .int (nI a)), (3, .int (nI r))] := hl
  generalize hav : ([.ref (lo (0)), .int (nI q), .int (nI a), .int (nI r)] : List Value).toArray = av at cx ⊢
  generalize hvv : (some (.int (bI (a_hit (sT S (qt S q)) (qQ S q) (aA S a) r))) : Option Value) = vv
  have hx := cx.1
  have hb := cx.2.1
  have hown := cx.2.2.2.1
  have hts := cx.2.2.2.2
  obtain ⟨s1, s2, s3, s4, s5, s6⟩ := id hS
  obtain ⟨u1, u2, hA⟩ := s6 a ha_
  have hT := (s1 _ u1).1 u2
  obtain ⟨k1, k2, k3, k4, k5, k6, k7, k8, k9, k0⟩ := id hT
  obtain ⟨m1, m2, m3, m4, m5, m6, m7, m8, m9, m10, m11⟩ := id hA
  obtain ⟨v1, v2, hQ⟩ := s5 q hq_
  have hTq := (s1 _ v1).1 v2
  have hA0 := hA
  rw [hsame] at hA u1 u2 hT k1 k2 k3 k4 k5 k6 k7 k8 k9 k0 m3 m6
  obtain ⟨j1, j2, j3, j4, j5, j6⟩ := id hQ
  have h16 := Qok.t16 hTq hQ
  have hu := a_uses_le (qQ S q) (aA S a)
  have hum := mu_many (Q := qQ S q) (A := aA S a) m2
  refine lv_aload_n hx hb dX11_matchesNow_0 rfl (lv_at hl 0 rfl) ?_
  refine x_get cx hk hw (hm.1) f_RX11_37_10 rfl dX11_matchesNow_1 ?_
  refine lv_iload_n hx hb dX11_matchesNow_4 rfl (lv_at hl 1 rfl) ?_
  refine x_ialdN cx hk hw (hm.2 11 _ rfl) (by omega) (by decide) dX11_matchesNow_5 ?_
  refine lv_istore (lv' := [(4, .int (nI (qt S q))), (0, .ref (lo (0))), (1, .int (nI q)), (2, .int (nI a)), (3, .int (nI r))]) hx hb dX11_matchesNow_6 hl (by decide) rfl (fun ls hl => ?_)
  refine lv_aload_n hx hb dX11_matchesNow_8 rfl (lv_at hl 1 rfl) ?_
  refine x_get cx hk hw (hm.1) f_RX11_59_10 rfl dX11_matchesNow_9 ?_
  refine lv_iload_n hx hb dX11_matchesNow_12 rfl (lv_at hl 3 rfl) ?_
  refine x_ialdN cx hk hw (hm.2 20 _ rfl) (by omega) (by decide) dX11_matchesNow_13 ?_
  refine lv_iconst (v := nI 2) hx hb dX11_matchesNow_14 rfl ?_
  refine x_icmp_ne (tgt := 48) cx dX11_matchesNow_15 (by decide) (by omega) (fun h15_1 => ?_) (fun h15_1 => ?_)
  · skip
    refine lv_aload_n hx hb dX11_matchesNow_48 rfl (lv_at hl 1 rfl) ?_
    refine lv_iload_n hx hb dX11_matchesNow_49 rfl (lv_at hl 2 rfl) ?_
    refine lv_iload_n hx hb dX11_matchesNow_50 rfl (lv_at hl 3 rfl) ?_
    refine x_rdV (av := [.int (nI q), .int (nI a)]) (rest := []) cx hk hw (hm.1) cv_RX11_152_10 (m_uses S m hm hS hM q a (by omega) (by omega) (by assumption)) hl.1 rfl rfl (Nat.le_of_ble_eq_true rfl) ⟨by decide, by decide⟩ ⟨Nat.zero_le _, Nat.zero_le _⟩ dX11_matchesNow_51 ?_
    refine lv_istore (lv' := [(5, .int (nI (a_uses (qQ S q) (aA S a)))), (4, .int (nI (qt S q))), (0, .ref (lo (0))), (1, .int (nI q)), (2, .int (nI a)), (3, .int (nI r))]) hx hb dX11_matchesNow_54 hl (by decide) rfl (fun ls hl => ?_)
    refine lv_iconst (v := nI 0) hx hb dX11_matchesNow_56 rfl ?_
    refine lv_istore (lv' := [(6, .int (nI 0)), (5, .int (nI (a_uses (qQ S q) (aA S a)))), (4, .int (nI (qt S q))), (0, .ref (lo (0))), (1, .int (nI q)), (2, .int (nI a)), (3, .int (nI r))]) hx hb dX11_matchesNow_57 hl (by decide) rfl (fun ls hl => ?_)
    have L59_2 : ∀ (n_ : Nat) (k : Nat), (k ≤ a_uses (qQ S q) (aA S a)) → (allN k (fun i => q_pat (sT S (qt S q)) (qQ S q) r (a_by (aA S a) i)) = true) → a_uses (qQ S q) (aA S a) - k < n_ → ∀ (ls : Array Slot), lv_has ls 8 [(6, .int (nI k)), (5, .int (nI (a_uses (qQ S q) (aA S a)))), (4, .int (nI (qt S q))), (0, .ref (lo (0))), (1, .int (nI q)), (2, .int (nI a)), (3, .int (nI r))] → x_w l 3 pp ee ss mm av bb mt cd vv 59 ls [] := by
      intro n_
      induction n_ with
      | zero => intro k hv hall hm_ ls hl; exact absurd hm_ (Nat.not_lt_zero _)
      | succ n_ ih59_2 =>
        intro k hv hall hm_ ls hl
        refine lv_iload hx hb dX11_matchesNow_59 (lv_at hl 0 rfl) ?_
        refine lv_iload hx hb dX11_matchesNow_61 (lv_at hl 1 rfl) ?_
        refine x_icmp_ge (tgt := 121) cx dX11_matchesNow_63 (by decide) (by omega) (fun h63_3 => ?_) (fun h63_3 => ?_)
        · skip
          refine lv_iconst (v := nI 1) hx hb dX11_matchesNow_121 rfl ?_
          exact x_zretT (b := a_hit (sT S (qt S q)) (qQ S q) (aA S a) r) cx hr hlk dX11_matchesNow_122 (by unfold a_hit; rw [show a_uses (qQ S q) (aA S a) = k by omega, hall]; simp_all) hvv
        · skip
          have hbk := m3 k (by omega)
          have ebk : a_by (aA S a) k = (aA S a).2 k + 1 := by rw [a_by, if_pos (by omega)]
          have q6 := j6 ((aA S a).2 k) (by omega)
          have hut := mu_t (Q := qQ S q) (A := aA S a) (k := k) (by omega)
          rw [ebk] at hut
          have hut2 : ((qQ S q).1 2).testBit ((aA S a).2 k) = true := by rw [q_ts (by omega)] at hut; exact hut
          refine lv_aload_n hx hb dX11_matchesNow_66 rfl (lv_at hl 3 rfl) ?_
          refine x_get cx hk hw (hm.1) f_RX11_68_10 rfl dX11_matchesNow_67 ?_
          refine lv_iconst (v := nI 3) hx hb dX11_matchesNow_70 rfl ?_
          refine lv_iload_n hx hb dX11_matchesNow_71 rfl (lv_at hl 5 rfl) ?_
          refine x_imulN cx dX11_matchesNow_72 ?_
          refine lv_iload hx hb dX11_matchesNow_73 (lv_at hl 0 rfl) ?_
          refine x_iaddN cx dX11_matchesNow_75 ?_
          refine x_ialdE (x := nI ((aA S a).2 k)) cx hk hw (hm.2 23 _ rfl) (by omega) (by decide) ((hM a (by omega)).1 k (by omega)) dX11_matchesNow_76 ?_
          refine lv_istore (lv' := [(7, .int (nI ((aA S a).2 k))), (6, .int (nI k)), (5, .int (nI (a_uses (qQ S q) (aA S a)))), (4, .int (nI (qt S q))), (0, .ref (lo (0))), (1, .int (nI q)), (2, .int (nI a)), (3, .int (nI r))]) hx hb dX11_matchesNow_77 hl (by decide) rfl (fun ls hl => ?_)
          refine lv_aload_n hx hb dX11_matchesNow_79 rfl (lv_at hl 4 rfl) ?_
          refine lv_iload hx hb dX11_matchesNow_80 (lv_at hl 3 rfl) ?_
          refine lv_iload_n hx hb dX11_matchesNow_82 rfl (lv_at hl 7 rfl) ?_
          refine lv_iload hx hb dX11_matchesNow_83 (lv_at hl 0 rfl) ?_
          refine lv_aload_n hx hb dX11_matchesNow_85 rfl (lv_at hl 4 rfl) ?_
          refine x_get cx hk hw (hm.1) f_RX11_53_10 rfl dX11_matchesNow_86 ?_
          refine lv_iconst (v := nI 4) hx hb dX11_matchesNow_89 rfl ?_
          refine lv_iload_n hx hb dX11_matchesNow_90 rfl (lv_at hl 5 rfl) ?_
          refine x_imulN cx dX11_matchesNow_91 ?_
          refine lv_iload hx hb dX11_matchesNow_92 (lv_at hl 0 rfl) ?_
          refine x_iaddN cx dX11_matchesNow_94 ?_
          refine x_ialdE (x := nI ((qQ S q).2 0 ((aA S a).2 k))) cx hk hw (hm.2 16 _ rfl) (by omega) (by decide) (by rw [(dm4 (t := q) (c := ((aA S a).2 k)) (by omega)).1, (dm4 (t := q) (c := ((aA S a).2 k)) (by omega)).2]) dX11_matchesNow_95 ?_
          refine lv_aload_n hx hb dX11_matchesNow_96 rfl (lv_at hl 4 rfl) ?_
          refine x_get cx hk hw (hm.1) f_RX11_56_10 rfl dX11_matchesNow_97 ?_
          refine lv_iconst (v := nI 4) hx hb dX11_matchesNow_100 rfl ?_
          refine lv_iload_n hx hb dX11_matchesNow_101 rfl (lv_at hl 5 rfl) ?_
          refine x_imulN cx dX11_matchesNow_102 ?_
          refine lv_iload hx hb dX11_matchesNow_103 (lv_at hl 0 rfl) ?_
          refine x_iaddN cx dX11_matchesNow_105 ?_
          refine x_ialdE (x := nI ((qQ S q).2 1 ((aA S a).2 k))) cx hk hw (hm.2 17 _ rfl) (by omega) (by decide) (by rw [(dm4 (t := q) (c := ((aA S a).2 k)) (by omega)).1, (dm4 (t := q) (c := ((aA S a).2 k)) (by omega)).2]) dX11_matchesNow_106 ?_
          refine x_rdV (av := [.int (nI (qt S q)), .int (nI r), .int (nI ((aA S a).2 k)), .int (nI ((qQ S q).2 0 ((aA S a).2 k))), .int (nI ((qQ S q).2 1 ((aA S a).2 k)))]) (rest := []) cx hk hw (hm.1) cv_RX11_179_10 (m_pnow S m hm hS (qt S q) r ((aA S a).2 k) ((qQ S q).2 0 ((aA S a).2 k)) ((qQ S q).2 1 ((aA S a).2 k)) (by first | assumption | omega) (by first | assumption | omega) (by first | assumption | omega) (by first | assumption | omega) (by first | assumption | omega) (by first | assumption | omega)) hl.1 rfl rfl (Nat.le_of_ble_eq_true rfl) ⟨by decide, by decide⟩ ⟨Nat.zero_le _, Nat.zero_le _⟩ dX11_matchesNow_107 ?_
          refine x_if_ne (tgt := 115) cx dX11_matchesNow_110 (by decide) (fun h110_4 => ?_) (fun h110_4 => ?_)
          · skip
            refine lv_iinc (v := nI (k + 1)) (lv' := [(6, .int (nI (k + 1))), (7, .int (nI ((aA S a).2 k))), (5, .int (nI (a_uses (qQ S q) (aA S a)))), (4, .int (nI (qt S q))), (0, .ref (lo (0))), (1, .int (nI q)), (2, .int (nI a)), (3, .int (nI r))]) hx hb dX11_matchesNow_115 hl (k := 1) rfl (nI_add _ 1) (by decide) rfl (fun ls hl => ?_)
            refine lv_goto (tgt := 59) hx hb dX11_matchesNow_118 (by decide) ?_
            exact ih59_2 (k + 1) (by omega) (by exact allN_step hall (by rw [ebk]; exact (q_pat_s hut2).trans (by assumption))) (by omega) _ (lv_sub hl [0, 2, 3, 4, 5, 6, 7] rfl)
          · skip
            refine lv_iconst (v := nI 0) hx hb dX11_matchesNow_113 rfl ?_
            exact x_zretF (b := a_hit (sT S (qt S q)) (qQ S q) (aA S a) r) cx hr hlk dX11_matchesNow_114 (by unfold a_hit; rw [allN_no (k := k) (by omega) (by rw [ebk]; exact (q_pat_s hut2).trans (by assumption))]; simp) hvv
    exact L59_2 (_ + 1) 0 (by omega) (by rfl) (Nat.lt_succ_self _) _ (lv_sub hl [0, 1, 2, 3, 4, 5, 6] rfl)
  · skip
    have m6b := m6 (by omega)
    refine lv_aload_n hx hb dX11_matchesNow_18 rfl (lv_at hl 1 rfl) ?_
    refine lv_iload hx hb dX11_matchesNow_19 (lv_at hl 0 rfl) ?_
    refine lv_iload_n hx hb dX11_matchesNow_21 rfl (lv_at hl 4 rfl) ?_
    refine lv_aload_n hx hb dX11_matchesNow_22 rfl (lv_at hl 1 rfl) ?_
    refine x_get cx hk hw (hm.1) f_RX11_74_10 rfl dX11_matchesNow_23 ?_
    refine lv_iload_n hx hb dX11_matchesNow_26 rfl (lv_at hl 3 rfl) ?_
    refine x_ialdE (x := nI ((aA S a).1 3)) cx hk hw (hm.2 25 _ rfl) (by omega) (by decide) ((hM a (by omega)).2 (by omega)) dX11_matchesNow_27 ?_
    refine lv_aload_n hx hb dX11_matchesNow_28 rfl (lv_at hl 1 rfl) ?_
    refine x_get cx hk hw (hm.1) f_RX11_77_10 rfl dX11_matchesNow_29 ?_
    refine lv_iload_n hx hb dX11_matchesNow_32 rfl (lv_at hl 3 rfl) ?_
    refine x_ialdN cx hk hw (hm.2 26 _ rfl) (by omega) (by decide) dX11_matchesNow_33 ?_
    refine lv_aload_n hx hb dX11_matchesNow_34 rfl (lv_at hl 1 rfl) ?_
    refine x_get cx hk hw (hm.1) f_RX11_80_10 rfl dX11_matchesNow_35 ?_
    refine lv_iload_n hx hb dX11_matchesNow_38 rfl (lv_at hl 3 rfl) ?_
    refine x_ialdN cx hk hw (hm.2 27 _ rfl) (by omega) (by decide) dX11_matchesNow_39 ?_
    refine x_rdV (av := [.int (nI (qt S q)), .int (nI r), .int (nI ((aA S a).1 3)), .int (nI ((aA S a).1 4)), .int (nI ((aA S a).1 5))]) (rest := []) cx hk hw (hm.1) cv_RX11_179_10 (m_pnow S m hm hS (qt S q) r ((aA S a).1 3) ((aA S a).1 4) ((aA S a).1 5) (by first | assumption | omega) (by first | assumption | omega) (by first | assumption | omega) (by first | assumption | omega) (by first | assumption | omega) (by first | assumption | omega)) hl.1 rfl rfl (Nat.le_of_ble_eq_true rfl) ⟨by decide, by decide⟩ ⟨Nat.zero_le _, Nat.zero_le _⟩ dX11_matchesNow_40 ?_
    refine x_if_ne (tgt := 48) cx dX11_matchesNow_43 (by decide) (fun h43_5 => ?_) (fun h43_5 => ?_)
    · skip
      refine lv_aload_n hx hb dX11_matchesNow_48 rfl (lv_at hl 1 rfl) ?_
      refine lv_iload_n hx hb dX11_matchesNow_49 rfl (lv_at hl 2 rfl) ?_
      refine lv_iload_n hx hb dX11_matchesNow_50 rfl (lv_at hl 3 rfl) ?_
      refine x_rdV (av := [.int (nI q), .int (nI a)]) (rest := []) cx hk hw (hm.1) cv_RX11_152_10 (m_uses S m hm hS hM q a (by omega) (by omega) (by assumption)) hl.1 rfl rfl (Nat.le_of_ble_eq_true rfl) ⟨by decide, by decide⟩ ⟨Nat.zero_le _, Nat.zero_le _⟩ dX11_matchesNow_51 ?_
      refine lv_istore (lv' := [(5, .int (nI (a_uses (qQ S q) (aA S a)))), (4, .int (nI (qt S q))), (0, .ref (lo (0))), (1, .int (nI q)), (2, .int (nI a)), (3, .int (nI r))]) hx hb dX11_matchesNow_54 hl (by decide) rfl (fun ls hl => ?_)
      refine lv_iconst (v := nI 0) hx hb dX11_matchesNow_56 rfl ?_
      refine lv_istore (lv' := [(6, .int (nI 0)), (5, .int (nI (a_uses (qQ S q) (aA S a)))), (4, .int (nI (qt S q))), (0, .ref (lo (0))), (1, .int (nI q)), (2, .int (nI a)), (3, .int (nI r))]) hx hb dX11_matchesNow_57 hl (by decide) rfl (fun ls hl => ?_)
      have L59_6 : ∀ (n_ : Nat) (k : Nat), (k ≤ a_uses (qQ S q) (aA S a)) → (allN k (fun i => q_pat (sT S (qt S q)) (qQ S q) r (a_by (aA S a) i)) = true) → a_uses (qQ S q) (aA S a) - k < n_ → ∀ (ls : Array Slot), lv_has ls 8 [(6, .int (nI k)), (5, .int (nI (a_uses (qQ S q) (aA S a)))), (4, .int (nI (qt S q))), (0, .ref (lo (0))), (1, .int (nI q)), (2, .int (nI a)), (3, .int (nI r))] → x_w l 3 pp ee ss mm av bb mt cd vv 59 ls [] := by
        intro n_
        induction n_ with
        | zero => intro k hv hall hm_ ls hl; exact absurd hm_ (Nat.not_lt_zero _)
        | succ n_ ih59_6 =>
          intro k hv hall hm_ ls hl
          refine lv_iload hx hb dX11_matchesNow_59 (lv_at hl 0 rfl) ?_
          refine lv_iload hx hb dX11_matchesNow_61 (lv_at hl 1 rfl) ?_
          refine x_icmp_ge (tgt := 121) cx dX11_matchesNow_63 (by decide) (by omega) (fun h63_7 => ?_) (fun h63_7 => ?_)
          · skip
            refine lv_iconst (v := nI 1) hx hb dX11_matchesNow_121 rfl ?_
            exact x_zretT (b := a_hit (sT S (qt S q)) (qQ S q) (aA S a) r) cx hr hlk dX11_matchesNow_122 (by unfold a_hit; rw [show a_uses (qQ S q) (aA S a) = k by omega, hall]; simp_all) hvv
          · skip
            have hbk := m3 k (by omega)
            have ebk : a_by (aA S a) k = (aA S a).2 k + 1 := by rw [a_by, if_pos (by omega)]
            have q6 := j6 ((aA S a).2 k) (by omega)
            have hut := mu_t (Q := qQ S q) (A := aA S a) (k := k) (by omega)
            rw [ebk] at hut
            have hut2 : ((qQ S q).1 2).testBit ((aA S a).2 k) = true := by rw [q_ts (by omega)] at hut; exact hut
            refine lv_aload_n hx hb dX11_matchesNow_66 rfl (lv_at hl 3 rfl) ?_
            refine x_get cx hk hw (hm.1) f_RX11_68_10 rfl dX11_matchesNow_67 ?_
            refine lv_iconst (v := nI 3) hx hb dX11_matchesNow_70 rfl ?_
            refine lv_iload_n hx hb dX11_matchesNow_71 rfl (lv_at hl 5 rfl) ?_
            refine x_imulN cx dX11_matchesNow_72 ?_
            refine lv_iload hx hb dX11_matchesNow_73 (lv_at hl 0 rfl) ?_
            refine x_iaddN cx dX11_matchesNow_75 ?_
            refine x_ialdE (x := nI ((aA S a).2 k)) cx hk hw (hm.2 23 _ rfl) (by omega) (by decide) ((hM a (by omega)).1 k (by omega)) dX11_matchesNow_76 ?_
            refine lv_istore (lv' := [(7, .int (nI ((aA S a).2 k))), (6, .int (nI k)), (5, .int (nI (a_uses (qQ S q) (aA S a)))), (4, .int (nI (qt S q))), (0, .ref (lo (0))), (1, .int (nI q)), (2, .int (nI a)), (3, .int (nI r))]) hx hb dX11_matchesNow_77 hl (by decide) rfl (fun ls hl => ?_)
            refine lv_aload_n hx hb dX11_matchesNow_79 rfl (lv_at hl 4 rfl) ?_
            refine lv_iload hx hb dX11_matchesNow_80 (lv_at hl 3 rfl) ?_
            refine lv_iload_n hx hb dX11_matchesNow_82 rfl (lv_at hl 7 rfl) ?_
            refine lv_iload hx hb dX11_matchesNow_83 (lv_at hl 0 rfl) ?_
            refine lv_aload_n hx hb dX11_matchesNow_85 rfl (lv_at hl 4 rfl) ?_
            refine x_get cx hk hw (hm.1) f_RX11_53_10 rfl dX11_matchesNow_86 ?_
            refine lv_iconst (v := nI 4) hx hb dX11_matchesNow_89 rfl ?_
            refine lv_iload_n hx hb dX11_matchesNow_90 rfl (lv_at hl 5 rfl) ?_
            refine x_imulN cx dX11_matchesNow_91 ?_
            refine lv_iload hx hb dX11_matchesNow_92 (lv_at hl 0 rfl) ?_
            refine x_iaddN cx dX11_matchesNow_94 ?_
            refine x_ialdE (x := nI ((qQ S q).2 0 ((aA S a).2 k))) cx hk hw (hm.2 16 _ rfl) (by omega) (by decide) (by rw [(dm4 (t := q) (c := ((aA S a).2 k)) (by omega)).1, (dm4 (t := q) (c := ((aA S a).2 k)) (by omega)).2]) dX11_matchesNow_95 ?_
            refine lv_aload_n hx hb dX11_matchesNow_96 rfl (lv_at hl 4 rfl) ?_
            refine x_get cx hk hw (hm.1) f_RX11_56_10 rfl dX11_matchesNow_97 ?_
            refine lv_iconst (v := nI 4) hx hb dX11_matchesNow_100 rfl ?_
            refine lv_iload_n hx hb dX11_matchesNow_101 rfl (lv_at hl 5 rfl) ?_
            refine x_imulN cx dX11_matchesNow_102 ?_
            refine lv_iload hx hb dX11_matchesNow_103 (lv_at hl 0 rfl) ?_
            refine x_iaddN cx dX11_matchesNow_105 ?_
            refine x_ialdE (x := nI ((qQ S q).2 1 ((aA S a).2 k))) cx hk hw (hm.2 17 _ rfl) (by omega) (by decide) (by rw [(dm4 (t := q) (c := ((aA S a).2 k)) (by omega)).1, (dm4 (t := q) (c := ((aA S a).2 k)) (by omega)).2]) dX11_matchesNow_106 ?_
            refine x_rdV (av := [.int (nI (qt S q)), .int (nI r), .int (nI ((aA S a).2 k)), .int (nI ((qQ S q).2 0 ((aA S a).2 k))), .int (nI ((qQ S q).2 1 ((aA S a).2 k)))]) (rest := []) cx hk hw (hm.1) cv_RX11_179_10 (m_pnow S m hm hS (qt S q) r ((aA S a).2 k) ((qQ S q).2 0 ((aA S a).2 k)) ((qQ S q).2 1 ((aA S a).2 k)) (by first | assumption | omega) (by first | assumption | omega) (by first | assumption | omega) (by first | assumption | omega) (by first | assumption | omega) (by first | assumption | omega)) hl.1 rfl rfl (Nat.le_of_ble_eq_true rfl) ⟨by decide, by decide⟩ ⟨Nat.zero_le _, Nat.zero_le _⟩ dX11_matchesNow_107 ?_
            refine x_if_ne (tgt := 115) cx dX11_matchesNow_110 (by decide) (fun h110_8 => ?_) (fun h110_8 => ?_)
            · skip
              refine lv_iinc (v := nI (k + 1)) (lv' := [(6, .int (nI (k + 1))), (7, .int (nI ((aA S a).2 k))), (5, .int (nI (a_uses (qQ S q) (aA S a)))), (4, .int (nI (qt S q))), (0, .ref (lo (0))), (1, .int (nI q)), (2, .int (nI a)), (3, .int (nI r))]) hx hb dX11_matchesNow_115 hl (k := 1) rfl (nI_add _ 1) (by decide) rfl (fun ls hl => ?_)
              refine lv_goto (tgt := 59) hx hb dX11_matchesNow_118 (by decide) ?_
              exact ih59_6 (k + 1) (by omega) (by exact allN_step hall (by rw [ebk]; exact (q_pat_s hut2).trans (by assumption))) (by omega) _ (lv_sub hl [0, 2, 3, 4, 5, 6, 7] rfl)
            · skip
              refine lv_iconst (v := nI 0) hx hb dX11_matchesNow_113 rfl ?_
              exact x_zretF (b := a_hit (sT S (qt S q)) (qQ S q) (aA S a) r) cx hr hlk dX11_matchesNow_114 (by unfold a_hit; rw [allN_no (k := k) (by omega) (by rw [ebk]; exact (q_pat_s hut2).trans (by assumption))]; simp) hvv
      exact L59_6 (_ + 1) 0 (by omega) (by rfl) (Nat.lt_succ_self _) _ (lv_sub hl [0, 1, 2, 3, 4, 5, 6] rfl)
    · skip
      refine lv_iconst (v := nI 0) hx hb dX11_matchesNow_46 rfl ?_
      exact x_zretF (b := a_hit (sT S (qt S q)) (qQ S q) (aA S a) r) cx hr hlk dX11_matchesNow_47 (by unfold a_hit; rw [decide_eq_true (by assumption : (aA S a).1 0 = 2), (by assumption : (decide ((aA S a).1 4 ≤ t_v (sT S (qt S q)) r ((aA S a).1 3)) && decide (t_v (sT S (qt S q)) r ((aA S a).1 3) ≤ (aA S a).1 5)) = false)]; rfl) hvv
set_option maxHeartbeats 4000000 in
set_option maxRecDepth 100000 in
theorem m_alike {l : Launch} {G : x_G} {lo : x_L} {co : x_C} (S : St) (m : Nat → Nat → Int32) (hm : isM G lo co S m) (hS : Sok S) (t r p b : Nat) (ht_ : t < 4) (ht2 : 0 < (sT S t).1 1) (hr_ : r < (sT S t).1 3) (hp_ : p < (sT S t).1 3) (hb_ : b < 2 ^ 31) : x_Rd l G lo co yX11_alike cX11_alike 6 (some .boolean) 2 [.ref (lo (0)), .int (nI t), .int (nI r), .int (nI p), .int (nI b)] (some (.int (bI (t_like (sT S t) r p b)))) := by
  refine x_enter RX11 rfl (by decide) (Nat.le_of_ble_eq_true rfl) ?_
  intro pp ee ss mm bb mt cd ls cx hk hw hr hlk hl
  have hl : lv_has ls 6 [(0, .ref (lo (0))), (1, .int (nI t)), (2, .int (nI r)), (3, .int (nI p)), (4, .int (nI b))] := hl
  generalize hav : ([.ref (lo (0)), .int (nI t), .int (nI r), .int (nI p), .int (nI b)] : List Value).toArray = av at cx ⊢
  generalize hvv : (some (.int (bI (t_like (sT S t) r p b))) : Option Value) = vv
  have hx := cx.1
  have hb := cx.2.1
  have hown := cx.2.2.2.1
  have hts := cx.2.2.2.2
  obtain ⟨s1, s2, s3, s4, s5, s6⟩ := id hS
  have hT := (s1 t ht_).1 ht2
  obtain ⟨k1, k2, k3, k4, k5, k6, k7, k8, k9, k0⟩ := id hT
  refine lv_iconst (v := nI 0) hx hb dX11_alike_0 rfl ?_
  refine lv_istore (lv' := [(5, .int (nI 0)), (0, .ref (lo (0))), (1, .int (nI t)), (2, .int (nI r)), (3, .int (nI p)), (4, .int (nI b))]) hx hb dX11_alike_1 hl (by decide) rfl (fun ls hl => ?_)
  have L3_1 : ∀ (n_ : Nat) (k : Nat), (k ≤ (sT S t).1 1) → (allN k (fun c => !b.testBit c || decide (t_v (sT S t) r c = t_v (sT S t) p c)) = true) → (sT S t).1 1 - k < n_ → ∀ (ls : Array Slot), lv_has ls 6 [(5, .int (nI k)), (0, .ref (lo (0))), (1, .int (nI t)), (2, .int (nI r)), (3, .int (nI p)), (4, .int (nI b))] → x_w l 2 pp ee ss mm av bb mt cd vv 3 ls [] := by
    intro n_
    induction n_ with
    | zero => intro k hv hall hm_ ls hl; exact absurd hm_ (Nat.not_lt_zero _)
    | succ n_ ih3_1 =>
      intro k hv hall hm_ ls hl
      refine lv_iload hx hb dX11_alike_3 (lv_at hl 0 rfl) ?_
      refine lv_aload_n hx hb dX11_alike_5 rfl (lv_at hl 1 rfl) ?_
      refine x_get cx hk hw (hm.1) f_RX11_7_10 rfl dX11_alike_6 ?_
      refine lv_iload_n hx hb dX11_alike_9 rfl (lv_at hl 2 rfl) ?_
      refine x_ialdN cx hk hw (hm.2 1 _ rfl) (by first | omega | (have f1 := t_v_le hT r k; have f2 := t_v_le hT p k; omega)) (by decide) dX11_alike_10 ?_
      refine x_icmp_ge (tgt := 51) cx dX11_alike_11 (by decide) (by first | omega | (have f1 := t_v_le hT r k; have f2 := t_v_le hT p k; omega)) (fun h11_2 => ?_) (fun h11_2 => ?_)
      · skip
        refine lv_iconst (v := nI 1) hx hb dX11_alike_51 rfl ?_
        exact x_zretT (b := t_like (sT S t) r p b) cx hr hlk dX11_alike_52 (by rw [t_like, show (sT S t).1 1 = k by omega]; exact hall) hvv
      · skip
        refine lv_iload hx hb dX11_alike_14 (lv_at hl 5 rfl) ?_
        refine lv_iload hx hb dX11_alike_16 (lv_at hl 0 rfl) ?_
        refine x_rdS (av := [.int (nI b), .int (nI k)]) (rest := []) cx hk hw cs_RX11_97 (m_isIn b k (by omega) (by omega)) hl.1 rfl rfl (Nat.le_of_ble_eq_true rfl) ⟨by decide, by decide⟩ ⟨Nat.zero_le _, Nat.zero_le _⟩ dX11_alike_18 ?_
        refine x_if_eq (tgt := 45) cx dX11_alike_21 (by decide) (fun h21_3 => ?_) (fun h21_3 => ?_)
        · skip
          refine lv_iinc (v := nI (k + 1)) (lv' := [(5, .int (nI (k + 1))), (0, .ref (lo (0))), (1, .int (nI t)), (2, .int (nI r)), (3, .int (nI p)), (4, .int (nI b))]) hx hb dX11_alike_45 hl (k := 0) rfl (nI_add _ 1) (by decide) rfl (fun ls hl => ?_)
          refine lv_goto (tgt := 3) hx hb dX11_alike_48 (by decide) ?_
          exact ih3_1 (k + 1) (by omega) (by exact allN_step hall (by simp [*])) (by omega) _ (lv_sub hl [0, 1, 2, 3, 4, 5] rfl)
        · skip
          refine lv_aload_n hx hb dX11_alike_24 rfl (lv_at hl 1 rfl) ?_
          refine lv_iload_n hx hb dX11_alike_25 rfl (lv_at hl 2 rfl) ?_
          refine lv_iload_n hx hb dX11_alike_26 rfl (lv_at hl 3 rfl) ?_
          refine lv_iload hx hb dX11_alike_27 (lv_at hl 0 rfl) ?_
          refine x_rdV (av := [.int (nI t), .int (nI r), .int (nI k)]) (rest := []) cx hk hw (hm.1) cv_RX11_101_10 (m_at S m hm hS t r k (by omega) (by first | assumption | omega) (by omega) (by first | assumption | omega)) hl.1 rfl rfl (Nat.le_of_ble_eq_true rfl) ⟨by decide, by decide⟩ ⟨Nat.zero_le _, Nat.zero_le _⟩ dX11_alike_29 ?_
          refine lv_aload_n hx hb dX11_alike_32 rfl (lv_at hl 1 rfl) ?_
          refine lv_iload_n hx hb dX11_alike_33 rfl (lv_at hl 2 rfl) ?_
          refine lv_iload_n hx hb dX11_alike_34 rfl (lv_at hl 4 rfl) ?_
          refine lv_iload hx hb dX11_alike_35 (lv_at hl 0 rfl) ?_
          refine x_rdV (av := [.int (nI t), .int (nI p), .int (nI k)]) (rest := [.int (nI (t_v (sT S t) r k))]) cx hk hw (hm.1) cv_RX11_101_10 (m_at S m hm hS t p k (by omega) (by first | assumption | omega) (by omega) (by first | assumption | omega)) hl.1 rfl rfl (Nat.le_of_ble_eq_true rfl) ⟨by decide, by decide⟩ ⟨Nat.zero_le _, Nat.zero_le _⟩ dX11_alike_37 ?_
          refine x_icmp_eq (tgt := 45) cx dX11_alike_40 (by decide) (by first | omega | (have f1 := t_v_le hT r k; have f2 := t_v_le hT p k; omega)) (fun h40_4 => ?_) (fun h40_4 => ?_)
          · skip
            refine lv_iinc (v := nI (k + 1)) (lv' := [(5, .int (nI (k + 1))), (0, .ref (lo (0))), (1, .int (nI t)), (2, .int (nI r)), (3, .int (nI p)), (4, .int (nI b))]) hx hb dX11_alike_45 hl (k := 0) rfl (nI_add _ 1) (by decide) rfl (fun ls hl => ?_)
            refine lv_goto (tgt := 3) hx hb dX11_alike_48 (by decide) ?_
            exact ih3_1 (k + 1) (by omega) (by exact allN_step hall (by simp [*])) (by omega) _ (lv_sub hl [0, 1, 2, 3, 4, 5] rfl)
          · skip
            refine lv_iconst (v := nI 0) hx hb dX11_alike_43 rfl ?_
            exact x_zretF (b := t_like (sT S t) r p b) cx hr hlk dX11_alike_44 (by exact allN_no (k := k) (by omega) (by simp [*])) hvv
  exact L3_1 (_ + 1) 0 (by omega) (by rfl) (Nat.lt_succ_self _) _ (lv_sub hl [0, 1, 2, 3, 4, 5] rfl)
set_option maxHeartbeats 4000000 in
set_option maxRecDepth 100000 in
theorem m_fetched {l : Launch} {G : x_G} {lo : x_L} {co : x_C} (S : St) (m : Nat → Nat → Int32) (hm : isM G lo co S m) (hS : Sok S) (hM : Mok S m) (q : Nat) (hq_ : q < sn S 0) : x_Rd l G lo co yX11_fetched cX11_fetched 8 (some .int) 8 [.ref (lo (0)), .int (nI q)] (some (.int (nI (m_fetch S q (m_plan S q))))) := by
  refine x_enter RX11 rfl (by decide) (Nat.le_of_ble_eq_true rfl) ?_
  intro pp ee ss mm bb mt cd ls cx hk hw hr hlk hl
  have hl : lv_has ls 8 [(0, .ref (lo (0))), (1, .int (nI q))] := hl
  generalize hav : ([.ref (lo (0)), .int (nI q)] : List Value).toArray = av at cx ⊢
  generalize hvv : (some (.int (nI (m_fetch S q (m_plan S q)))) : Option Value) = vv
  have hx := cx.1
  have hb := cx.2.1
  have hown := cx.2.2.2.1
  have hts := cx.2.2.2.2
  obtain ⟨s1, s2, s3, s4, s5, s6⟩ := id hS
  obtain ⟨v1, v2, hQ⟩ := s5 q hq_
  have hTq := (s1 _ v1).1 v2
  obtain ⟨k1, k2, k3, k4, k5, k6, k7, k8, k9, k0⟩ := id hTq
  obtain ⟨j1, j2, j3, j4, j5, j6⟩ := id hQ
  have h16 := Qok.t16 hTq hQ
  have hw16 := Qok.w16 hTq hQ
  have hb12 := Sok.b12 hS
  have hpk := m_pl_le S q (sn S 2) (sn S 1)
  have hpo := m_pl_ok (S := S) q (sn S 2)
  generalize hpl : m_pl S q (sn S 2) (sn S 1) = pl at hpk hpo
  refine lv_aload_n hx hb dX11_fetched_0 rfl (lv_at hl 0 rfl) ?_
  refine x_get cx hk hw (hm.1) f_RX11_37_10 rfl dX11_fetched_1 ?_
  refine lv_iload_n hx hb dX11_fetched_4 rfl (lv_at hl 1 rfl) ?_
  refine x_ialdN cx hk hw (hm.2 11 _ rfl) (by omega) (by decide) dX11_fetched_5 ?_
  refine lv_istore_n (lv' := [(2, .int (nI (qt S q))), (0, .ref (lo (0))), (1, .int (nI q))]) hx hb dX11_fetched_6 rfl hl (by decide) rfl (fun ls hl => ?_)
  refine lv_aload_n hx hb dX11_fetched_7 rfl (lv_at hl 1 rfl) ?_
  refine lv_iload_n hx hb dX11_fetched_8 rfl (lv_at hl 2 rfl) ?_
  refine lv_aload_n hx hb dX11_fetched_9 rfl (lv_at hl 1 rfl) ?_
  refine x_get cx hk hw (hm.1) f_RX11_140_10 rfl dX11_fetched_10 ?_
  refine x_rdV (av := [.int (nI q), .int (nI (sn S 2))]) (rest := []) cx hk hw (hm.1) cv_RX11_176_10 (m_planOf S m hm hS hM q (sn S 2) (by omega) (by omega)) hl.1 rfl rfl (Nat.le_of_ble_eq_true rfl) ⟨by decide, by decide⟩ ⟨Nat.zero_le _, Nat.zero_le _⟩ dX11_fetched_13 ?_
  rw [hpl]
  refine lv_istore_n (lv' := [(3, .int (nO pl)), (2, .int (nI (qt S q))), (0, .ref (lo (0))), (1, .int (nI q))]) hx hb dX11_fetched_16 rfl hl (by decide) rfl (fun ls hl => ?_)
  refine lv_iload_n hx hb dX11_fetched_17 rfl (lv_at hl 0 rfl) ?_
  refine lv_iconst (v := (-1)) hx hb dX11_fetched_18 rfl ?_
  refine x_icmpO1_ne (tgt := 38) cx dX11_fetched_19 (by decide) (by omega) (fun h19_1 => ?_) (fun h19_1 => ?_)
  · skip
    rw [nO_s (k := pl) (by assumption)] at hl
    have hp2 := hpo.resolve_left (by assumption)
    have hsame := m_helps_same hp2.2
    obtain ⟨u1, u2, hA⟩ := s6 (pl - 1) hp2.1
    obtain ⟨m1, m2, m3, m4, m5, m6, m7, m8, m9, m10, m11⟩ := id hA
    refine lv_iconst (v := nI 0) hx hb dX11_fetched_38 rfl ?_
    refine lv_istore (lv' := [(4, .int (nI 0)), (3, .int (nI (pl - 1))), (2, .int (nI (qt S q))), (0, .ref (lo (0))), (1, .int (nI q))]) hx hb dX11_fetched_39 hl (by decide) rfl (fun ls hl => ?_)
    refine lv_aload_n hx hb dX11_fetched_41 rfl (lv_at hl 3 rfl) ?_
    refine x_get cx hk hw (hm.1) f_RX11_59_10 rfl dX11_fetched_42 ?_
    refine lv_iload_n hx hb dX11_fetched_45 rfl (lv_at hl 1 rfl) ?_
    refine x_ialdN cx hk hw (hm.2 20 _ rfl) (by omega) (by decide) dX11_fetched_46 ?_
    refine lv_iconst (v := nI 3) hx hb dX11_fetched_47 rfl ?_
    refine x_icmp_ne (tgt := 151) cx dX11_fetched_48 (by decide) (by omega) (fun h48_2 => ?_) (fun h48_2 => ?_)
    · skip
      refine lv_iconst (v := (-1)) hx hb dX11_fetched_151 rfl ?_
      refine lv_istore (lv' := [(5, .int ((-1))), (4, .int (nI 0)), (3, .int (nI (pl - 1))), (2, .int (nI (qt S q))), (0, .ref (lo (0))), (1, .int (nI q))]) hx hb dX11_fetched_152 hl (by decide) rfl (fun ls hl => ?_)
      refine lv_iconst (v := nI 0) hx hb dX11_fetched_154 rfl ?_
      refine lv_istore (lv' := [(6, .int (nI 0)), (5, .int ((-1))), (4, .int (nI 0)), (3, .int (nI (pl - 1))), (2, .int (nI (qt S q))), (0, .ref (lo (0))), (1, .int (nI q))]) hx hb dX11_fetched_155 hl (by decide) rfl (fun ls hl => ?_)
      refine lv_iconst (v := nI 0) hx hb dX11_fetched_157 rfl ?_
      refine lv_istore (lv' := [(7, .int (nI 0)), (6, .int (nI 0)), (5, .int ((-1))), (4, .int (nI 0)), (3, .int (nI (pl - 1))), (2, .int (nI (qt S q))), (0, .ref (lo (0))), (1, .int (nI q))]) hx hb dX11_fetched_158 hl (by decide) rfl (fun ls hl => ?_)
      have L160_3 : ∀ (n_ : Nat) (f : Nat) (z : Nat) (g : Nat) (k : Nat), (k ≤ (sT S (qt S q)).1 3) → (a_run (sT S (qt S q)) (qQ S q) (aA S (pl - 1)) k = (f, g, z)) → (sT S (qt S q)).1 3 - k < n_ → ∀ (ls : Array Slot), lv_has ls 8 [(7, .int (nI k)), (6, .int (nI g)), (5, .int (nO z)), (4, .int (nI f)), (3, .int (nI (pl - 1))), (2, .int (nI (qt S q))), (0, .ref (lo (0))), (1, .int (nI q))] → x_w l 8 pp ee ss mm av bb mt cd vv 160 ls [] := by
        intro n_
        induction n_ with
        | zero => intro f z g k hv hf hm_ ls hl; exact absurd hm_ (Nat.not_lt_zero _)
        | succ n_ ih160_3 =>
          intro f z g k hv hf hm_ ls hl
          have hrl := a_run_le (sT S (qt S q)) (qQ S q) (aA S (pl - 1)) k
          rw [hf] at hrl
          have hrl1 : f ≤ k ∧ g ≤ k ∧ z ≤ k + 1 := hrl
          have hpo2 : k / (sT S (qt S q)).1 2 ≤ k := Nat.div_le_self _ _
          refine lv_iload hx hb dX11_fetched_160 (lv_at hl 0 rfl) ?_
          refine lv_aload_n hx hb dX11_fetched_162 rfl (lv_at hl 6 rfl) ?_
          refine x_get cx hk hw (hm.1) f_RX11_16_10 rfl dX11_fetched_163 ?_
          refine lv_iload_n hx hb dX11_fetched_166 rfl (lv_at hl 5 rfl) ?_
          refine x_ialdN cx hk hw (hm.2 3 _ rfl) (by omega) (by decide) dX11_fetched_167 ?_
          refine x_icmp_ge (tgt := 229) cx dX11_fetched_168 (by decide) (by omega) (fun h168_4 => ?_) (fun h168_4 => ?_)
          · skip
            have rb := a_run_le (sT S (qt S q)) (qQ S q) (aA S (pl - 1)) k
            rw [hf] at rb
            have rb1 : f ≤ k ∧ g ≤ k ∧ z ≤ k + 1 := rb
            refine lv_aload_n hx hb dX11_fetched_229 rfl (lv_at hl 6 rfl) ?_
            refine x_get cx hk hw (hm.1) f_RX11_59_10 rfl dX11_fetched_230 ?_
            refine lv_iload_n hx hb dX11_fetched_233 rfl (lv_at hl 4 rfl) ?_
            refine x_ialdN cx hk hw (hm.2 20 _ rfl) (by omega) (by decide) dX11_fetched_234 ?_
            refine lv_iconst (v := nI 4) hx hb dX11_fetched_235 rfl ?_
            refine x_icmp_ne (tgt := 253) cx dX11_fetched_236 (by decide) (by omega) (fun h236_5 => ?_) (fun h236_5 => ?_)
            · skip
              refine lv_iconst (v := nI 1) hx hb dX11_fetched_253 rfl ?_
              refine lv_iload hx hb dX11_fetched_254 (lv_at hl 3 rfl) ?_
              refine lv_iconst (v := nI 2) hx hb dX11_fetched_256 rfl ?_
              refine lv_aload_n hx hb dX11_fetched_257 rfl (lv_at hl 6 rfl) ?_
              refine x_get cx hk hw (hm.1) f_RX11_13_10 rfl dX11_fetched_258 ?_
              refine lv_iload_n hx hb dX11_fetched_261 rfl (lv_at hl 5 rfl) ?_
              refine x_ialdN cx hk hw (hm.2 2 _ rfl) (by omega) (by decide) dX11_fetched_262 ?_
              refine x_imulN cx dX11_fetched_263 ?_
              refine x_rdS (av := [.int (nI f), .int (nI (2 * ((sT S (qt S q)).1 2)))]) (rest := [.int (nI 1)]) cx hk hw cs_RX11_105 (m_up f (2 * ((sT S (qt S q)).1 2)) (by omega) (by omega) (by omega)) hl.1 rfl rfl (Nat.le_of_ble_eq_true rfl) ⟨by decide, by decide⟩ ⟨Nat.zero_le _, Nat.zero_le _⟩ dX11_fetched_264 ?_
              refine x_iaddN cx dX11_fetched_267 ?_
              refine lv_aload_n hx hb dX11_fetched_268 rfl (lv_at hl 6 rfl) ?_
              refine lv_iload_n hx hb dX11_fetched_269 rfl (lv_at hl 7 rfl) ?_
              refine lv_iload_n hx hb dX11_fetched_270 rfl (lv_at hl 4 rfl) ?_
              refine x_rdV (av := [.int (nI q), .int (nI (pl - 1))]) (rest := [.int (nI (1 + (s_up f (2 * ((sT S (qt S q)).1 2)))))]) cx hk hw (hm.1) cv_RX11_164_10 (m_cov S m hm hS hM q (pl - 1) (by omega) (by omega)) hl.1 rfl rfl (Nat.le_of_ble_eq_true rfl) ⟨by decide, by decide⟩ ⟨Nat.zero_le _, Nat.zero_le _⟩ dX11_fetched_271 ?_
              have J283_6 : ∀ (y6_s0 : Nat) (ey6_s0 : y6_s0 = if (a_cov (qQ S q) (aA S (pl - 1))) = true then 0 else g) (ls : Array Slot), lv_has ls 8 [(7, .int (nI k)), (6, .int (nI g)), (5, .int (nO z)), (4, .int (nI f)), (3, .int (nI (pl - 1))), (2, .int (nI (qt S q))), (0, .ref (lo (0))), (1, .int (nI q))] → x_w l 8 pp ee ss mm av bb mt cd vv 283 ls [.int (nI y6_s0), .int (nI (1 + (s_up f (2 * ((sT S (qt S q)).1 2)))))] := by
                intro y6_s0 ey6_s0 ls hl
                have dy6_s0 : ((a_cov (qQ S q) (aA S (pl - 1))) = true ∧ (y6_s0 = 0)) ∨ (¬ ((a_cov (qQ S q) (aA S (pl - 1))) = true) ∧ (y6_s0 = g)) := by rw [ey6_s0]; repeat' (first | (exact rfl) | (split <;> first | (refine Or.inl ⟨by assumption, ?_⟩) | (refine Or.inr ⟨by assumption, ?_⟩)))
                refine x_iaddN cx dX11_fetched_283 ?_
                exact x_iret cx hr hlk dX11_fetched_284 ((congrArg (fun z => some (Value.int (nI z))) (show (1 + (s_up f (2 * ((sT S (qt S q)).1 2)))) + y6_s0 = m_fetch S q (m_plan S q) from by unfold m_fetch m_plan a_fetch a_ent; rw [hpl, if_neg (by assumption), if_neg (by assumption), show (sT S (qt S q)).1 3 = k by omega, hf]; simp_all)).trans hvv)
              refine x_if_eq (tgt := 281) cx dX11_fetched_274 (by decide) (fun h274_7 => ?_) (fun h274_7 => ?_)
              · skip
                refine lv_iload hx hb dX11_fetched_281 (lv_at hl 1 rfl) ?_
                exact J283_6 g (by rw [if_neg (fun q => Bool.noConfusion (h274_7.symm.trans q))]) _ (lv_sub hl [0, 1, 2, 3, 4, 5, 6, 7] rfl)
              · skip
                refine lv_iconst (v := nI 0) hx hb dX11_fetched_277 rfl ?_
                refine lv_goto (tgt := 283) hx hb dX11_fetched_278 (by decide) ?_
                exact J283_6 0 (by rw [if_pos h274_7]) _ (lv_sub hl [0, 1, 2, 3, 4, 5, 6, 7] rfl)
            · skip
              refine lv_iconst (v := nI 1) hx hb dX11_fetched_239 rfl ?_
              refine lv_iload hx hb dX11_fetched_240 (lv_at hl 3 rfl) ?_
              refine lv_aload_n hx hb dX11_fetched_242 rfl (lv_at hl 6 rfl) ?_
              refine x_get cx hk hw (hm.1) f_RX11_13_10 rfl dX11_fetched_243 ?_
              refine lv_iload_n hx hb dX11_fetched_246 rfl (lv_at hl 5 rfl) ?_
              refine x_ialdN cx hk hw (hm.2 2 _ rfl) (by omega) (by decide) dX11_fetched_247 ?_
              refine x_rdS (av := [.int (nI f), .int (nI ((sT S (qt S q)).1 2))]) (rest := [.int (nI 1)]) cx hk hw cs_RX11_105 (m_up f ((sT S (qt S q)).1 2) (by omega) (by omega) (by omega)) hl.1 rfl rfl (Nat.le_of_ble_eq_true rfl) ⟨by decide, by decide⟩ ⟨Nat.zero_le _, Nat.zero_le _⟩ dX11_fetched_248 ?_
              refine x_iaddN cx dX11_fetched_251 ?_
              exact x_iret cx hr hlk dX11_fetched_252 ((congrArg (fun z => some (Value.int (nI z))) (show 1 + (s_up f ((sT S (qt S q)).1 2)) = m_fetch S q (m_plan S q) from by unfold m_fetch m_plan a_fetch a_ent; rw [hpl, if_neg (by assumption), if_neg (by assumption), show (sT S (qt S q)).1 3 = k by omega, hf]; simp [*])).trans hvv)
          · skip
            refine lv_aload_n hx hb dX11_fetched_171 rfl (lv_at hl 6 rfl) ?_
            refine lv_iload_n hx hb dX11_fetched_172 rfl (lv_at hl 7 rfl) ?_
            refine lv_iload_n hx hb dX11_fetched_173 rfl (lv_at hl 4 rfl) ?_
            refine lv_iload hx hb dX11_fetched_174 (lv_at hl 0 rfl) ?_
            refine x_rdV (av := [.int (nI q), .int (nI (pl - 1)), .int (nI k)]) (rest := []) cx hk hw (hm.1) cv_RX11_187_10 (m_mnow S m hm hS hM q (pl - 1) k (by omega) (by omega) (by assumption) (by omega)) hl.1 rfl rfl (Nat.le_of_ble_eq_true rfl) ⟨by decide, by decide⟩ ⟨Nat.zero_le _, Nat.zero_le _⟩ dX11_fetched_176 ?_
            refine x_if_ne (tgt := 185) cx dX11_fetched_179 (by decide) (fun h179_8 => ?_) (fun h179_8 => ?_)
            · skip
              refine lv_iinc (v := nI (f + 1)) (lv' := [(4, .int (nI (f + 1))), (7, .int (nI k)), (6, .int (nI g)), (5, .int (nO z)), (3, .int (nI (pl - 1))), (2, .int (nI (qt S q))), (0, .ref (lo (0))), (1, .int (nI q))]) hx hb dX11_fetched_185 hl (k := 3) rfl (nI_add _ 1) (by decide) rfl (fun ls hl => ?_)
              refine lv_iload hx hb dX11_fetched_188 (lv_at hl 2 rfl) ?_
              refine lv_iload hx hb dX11_fetched_190 (lv_at hl 1 rfl) ?_
              refine lv_aload_n hx hb dX11_fetched_192 rfl (lv_at hl 6 rfl) ?_
              refine x_get cx hk hw (hm.1) f_RX11_13_10 rfl dX11_fetched_193 ?_
              refine lv_iload_n hx hb dX11_fetched_196 rfl (lv_at hl 5 rfl) ?_
              refine x_ialdN cx hk hw (hm.2 2 _ rfl) (by omega) (by decide) dX11_fetched_197 ?_
              refine x_idivN cx (by omega) dX11_fetched_198 ?_
              refine lv_iload hx hb dX11_fetched_199 (lv_at hl 3 rfl) ?_
              refine x_icmpNO_eq (tgt := 208) cx dX11_fetched_201 (by decide) (by omega) (fun h201_9 => ?_) (fun h201_9 => ?_)
              · skip
                refine lv_iconst (v := nI 0) hx hb dX11_fetched_208 rfl ?_
                refine x_iaddN cx dX11_fetched_209 ?_
                refine lv_istore (lv' := [(6, .int (nI (g + 0))), (4, .int (nI (f + 1))), (7, .int (nI k)), (5, .int (nO z)), (3, .int (nI (pl - 1))), (2, .int (nI (qt S q))), (0, .ref (lo (0))), (1, .int (nI q))]) hx hb dX11_fetched_210 hl (by decide) rfl (fun ls hl => ?_)
                refine lv_iload hx hb dX11_fetched_212 (lv_at hl 2 rfl) ?_
                refine lv_aload_n hx hb dX11_fetched_214 rfl (lv_at hl 6 rfl) ?_
                refine x_get cx hk hw (hm.1) f_RX11_13_10 rfl dX11_fetched_215 ?_
                refine lv_iload_n hx hb dX11_fetched_218 rfl (lv_at hl 5 rfl) ?_
                refine x_ialdN cx hk hw (hm.2 2 _ rfl) (by omega) (by decide) dX11_fetched_219 ?_
                refine x_idivN cx (by omega) dX11_fetched_220 ?_
                refine lv_istore (lv' := [(5, .int (nI (k / ((sT S (qt S q)).1 2)))), (6, .int (nI (g + 0))), (4, .int (nI (f + 1))), (7, .int (nI k)), (3, .int (nI (pl - 1))), (2, .int (nI (qt S q))), (0, .ref (lo (0))), (1, .int (nI q))]) hx hb dX11_fetched_221 hl (by decide) rfl (fun ls hl => ?_)
                refine lv_iinc (v := nI (k + 1)) (lv' := [(7, .int (nI (k + 1))), (5, .int (nI (k / ((sT S (qt S q)).1 2)))), (6, .int (nI (g + 0))), (4, .int (nI (f + 1))), (3, .int (nI (pl - 1))), (2, .int (nI (qt S q))), (0, .ref (lo (0))), (1, .int (nI q))]) hx hb dX11_fetched_223 hl (k := 3) rfl (nI_add _ 1) (by decide) rfl (fun ls hl => ?_)
                refine lv_goto (tgt := 160) hx hb dX11_fetched_226 (by decide) ?_
                exact ih160_3 (f + 1) ((k / ((sT S (qt S q)).1 2)) + 1) (g + 0) (k + 1) (by omega) (by rw [a_run, hf]; simp_all) (by omega) _ (lv_sub hl [0, 2, 1, 3, 4, 5, 6, 7] rfl)
              · skip
                refine lv_iconst (v := nI 1) hx hb dX11_fetched_204 rfl ?_
                refine lv_goto (tgt := 209) hx hb dX11_fetched_205 (by decide) ?_
                refine x_iaddN cx dX11_fetched_209 ?_
                refine lv_istore (lv' := [(6, .int (nI (g + 1))), (4, .int (nI (f + 1))), (7, .int (nI k)), (5, .int (nO z)), (3, .int (nI (pl - 1))), (2, .int (nI (qt S q))), (0, .ref (lo (0))), (1, .int (nI q))]) hx hb dX11_fetched_210 hl (by decide) rfl (fun ls hl => ?_)
                refine lv_iload hx hb dX11_fetched_212 (lv_at hl 2 rfl) ?_
                refine lv_aload_n hx hb dX11_fetched_214 rfl (lv_at hl 6 rfl) ?_
                refine x_get cx hk hw (hm.1) f_RX11_13_10 rfl dX11_fetched_215 ?_
                refine lv_iload_n hx hb dX11_fetched_218 rfl (lv_at hl 5 rfl) ?_
                refine x_ialdN cx hk hw (hm.2 2 _ rfl) (by omega) (by decide) dX11_fetched_219 ?_
                refine x_idivN cx (by omega) dX11_fetched_220 ?_
                refine lv_istore (lv' := [(5, .int (nI (k / ((sT S (qt S q)).1 2)))), (6, .int (nI (g + 1))), (4, .int (nI (f + 1))), (7, .int (nI k)), (3, .int (nI (pl - 1))), (2, .int (nI (qt S q))), (0, .ref (lo (0))), (1, .int (nI q))]) hx hb dX11_fetched_221 hl (by decide) rfl (fun ls hl => ?_)
                refine lv_iinc (v := nI (k + 1)) (lv' := [(7, .int (nI (k + 1))), (5, .int (nI (k / ((sT S (qt S q)).1 2)))), (6, .int (nI (g + 1))), (4, .int (nI (f + 1))), (3, .int (nI (pl - 1))), (2, .int (nI (qt S q))), (0, .ref (lo (0))), (1, .int (nI q))]) hx hb dX11_fetched_223 hl (k := 3) rfl (nI_add _ 1) (by decide) rfl (fun ls hl => ?_)
                refine lv_goto (tgt := 160) hx hb dX11_fetched_226 (by decide) ?_
                exact ih160_3 (f + 1) ((k / ((sT S (qt S q)).1 2)) + 1) (g + 1) (k + 1) (by omega) (by rw [a_run, hf]; simp_all) (by omega) _ (lv_sub hl [0, 2, 1, 3, 4, 5, 6, 7] rfl)
            · skip
              refine lv_goto (tgt := 223) hx hb dX11_fetched_182 (by decide) ?_
              refine lv_iinc (v := nI (k + 1)) (lv' := [(7, .int (nI (k + 1))), (6, .int (nI g)), (5, .int (nO z)), (4, .int (nI f)), (3, .int (nI (pl - 1))), (2, .int (nI (qt S q))), (0, .ref (lo (0))), (1, .int (nI q))]) hx hb dX11_fetched_223 hl (k := 0) rfl (nI_add _ 1) (by decide) rfl (fun ls hl => ?_)
              refine lv_goto (tgt := 160) hx hb dX11_fetched_226 (by decide) ?_
              exact ih160_3 f z g (k + 1) (by omega) (by rw [a_run, hf]; simp_all) (by omega) _ (lv_sub hl [0, 1, 2, 3, 4, 5, 6, 7] rfl)
      exact L160_3 (_ + 1) 0 0 0 0 (by omega) (by rfl) (Nat.lt_succ_self _) _ (lv_sub hl [0, 1, 2, 3, 4, 5, 6, 7] rfl)
    · skip
      refine lv_iconst (v := nI 0) hx hb dX11_fetched_51 rfl ?_
      refine lv_istore (lv' := [(5, .int (nI 0)), (4, .int (nI 0)), (3, .int (nI (pl - 1))), (2, .int (nI (qt S q))), (0, .ref (lo (0))), (1, .int (nI q))]) hx hb dX11_fetched_52 hl (by decide) rfl (fun ls hl => ?_)
      have L54_10 : ∀ (n_ : Nat) (f : Nat) (k : Nat), (k ≤ (sT S (qt S q)).1 3) → (f = cntN k (fun r => allN r (fun p => !t_like (sT S (qt S q)) r p ((aA S (pl - 1)).1 2)))) → (sT S (qt S q)).1 3 - k < n_ → ∀ (ls : Array Slot), lv_has ls 8 [(5, .int (nI k)), (4, .int (nI f)), (3, .int (nI (pl - 1))), (2, .int (nI (qt S q))), (0, .ref (lo (0))), (1, .int (nI q))] → x_w l 8 pp ee ss mm av bb mt cd vv 54 ls [] := by
        intro n_
        induction n_ with
        | zero => intro f k hv hf hm_ ls hl; exact absurd hm_ (Nat.not_lt_zero _)
        | succ n_ ih54_10 =>
          intro f k hv hf hm_ ls hl
          refine lv_iload hx hb dX11_fetched_54 (lv_at hl 0 rfl) ?_
          refine lv_aload_n hx hb dX11_fetched_56 rfl (lv_at hl 4 rfl) ?_
          refine x_get cx hk hw (hm.1) f_RX11_16_10 rfl dX11_fetched_57 ?_
          refine lv_iload_n hx hb dX11_fetched_60 rfl (lv_at hl 3 rfl) ?_
          refine x_ialdN cx hk hw (hm.2 3 _ rfl) (by omega) (by decide) dX11_fetched_61 ?_
          refine x_icmp_ge (tgt := 135) cx dX11_fetched_62 (by decide) (by omega) (fun h62_11 => ?_) (fun h62_11 => ?_)
          · skip
            have fb : f ≤ k := by rw [hf]; exact cntN_le k
            refine lv_iconst (v := nI 1) hx hb dX11_fetched_135 rfl ?_
            refine lv_iload hx hb dX11_fetched_136 (lv_at hl 1 rfl) ?_
            refine lv_iconst (v := nI 2) hx hb dX11_fetched_138 rfl ?_
            refine lv_aload_n hx hb dX11_fetched_139 rfl (lv_at hl 4 rfl) ?_
            refine x_get cx hk hw (hm.1) f_RX11_13_10 rfl dX11_fetched_140 ?_
            refine lv_iload_n hx hb dX11_fetched_143 rfl (lv_at hl 3 rfl) ?_
            refine x_ialdN cx hk hw (hm.2 2 _ rfl) (by omega) (by decide) dX11_fetched_144 ?_
            refine x_imulN cx dX11_fetched_145 ?_
            refine x_rdS (av := [.int (nI f), .int (nI (2 * ((sT S (qt S q)).1 2)))]) (rest := [.int (nI 1)]) cx hk hw cs_RX11_105 (m_up f (2 * ((sT S (qt S q)).1 2)) (by omega) (by omega) (by omega)) hl.1 rfl rfl (Nat.le_of_ble_eq_true rfl) ⟨by decide, by decide⟩ ⟨Nat.zero_le _, Nat.zero_le _⟩ dX11_fetched_146 ?_
            refine x_iaddN cx dX11_fetched_149 ?_
            exact x_iret cx hr hlk dX11_fetched_150 ((congrArg (fun z => some (Value.int (nI z))) (show 1 + (s_up f (2 * ((sT S (qt S q)).1 2))) = m_fetch S q (m_plan S q) from by unfold m_fetch m_plan a_fetch; rw [hpl, if_neg (by assumption), if_pos (by assumption), m_unl_eq, hf, show (sT S (qt S q)).1 3 = k by omega])).trans hvv)
          · skip
            refine lv_iconst (v := nI 1) hx hb dX11_fetched_65 rfl ?_
            refine lv_istore (lv' := [(6, .int (nI 1)), (5, .int (nI k)), (4, .int (nI f)), (3, .int (nI (pl - 1))), (2, .int (nI (qt S q))), (0, .ref (lo (0))), (1, .int (nI q))]) hx hb dX11_fetched_66 hl (by decide) rfl (fun ls hl => ?_)
            refine lv_iconst (v := nI 0) hx hb dX11_fetched_68 rfl ?_
            refine lv_istore (lv' := [(7, .int (nI 0)), (6, .int (nI 1)), (5, .int (nI k)), (4, .int (nI f)), (3, .int (nI (pl - 1))), (2, .int (nI (qt S q))), (0, .ref (lo (0))), (1, .int (nI q))]) hx hb dX11_fetched_69 hl (by decide) rfl (fun ls hl => ?_)
            have L71_12 : ∀ (n_ : Nat) (x : Nat) (j : Nat), (j ≤ k) → (x = if allN j (fun p => !t_like (sT S (qt S q)) k p ((aA S (pl - 1)).1 2)) = true then 1 else 0) → k - j < n_ → ∀ (ls : Array Slot), lv_has ls 8 [(7, .int (nI j)), (6, .int (nI x)), (5, .int (nI k)), (4, .int (nI f)), (3, .int (nI (pl - 1))), (2, .int (nI (qt S q))), (0, .ref (lo (0))), (1, .int (nI q))] → x_w l 8 pp ee ss mm av bb mt cd vv 71 ls [] := by
              intro n_
              induction n_ with
              | zero => intro x j hj hx_ hm_ ls hl; exact absurd hm_ (Nat.not_lt_zero _)
              | succ n_ ih71_12 =>
                intro x j hj hx_ hm_ ls hl
                have hx1 : x ≤ 1 := by rw [hx_]; split <;> omega
                refine lv_iload hx hb dX11_fetched_71 (lv_at hl 0 rfl) ?_
                refine lv_iload hx hb dX11_fetched_73 (lv_at hl 2 rfl) ?_
                refine x_icmp_ge (tgt := 114) cx dX11_fetched_75 (by decide) (by omega) (fun h75_13 => ?_) (fun h75_13 => ?_)
                · skip
                  refine lv_iload hx hb dX11_fetched_114 (lv_at hl 3 rfl) ?_
                  refine lv_iload hx hb dX11_fetched_116 (lv_at hl 1 rfl) ?_
                  have J126_14 : ∀ (y14_s0 : Nat) (ey14_s0 : y14_s0 = if x = 0 then 0 else 1) (ls : Array Slot), lv_has ls 8 [(7, .int (nI j)), (6, .int (nI x)), (5, .int (nI k)), (4, .int (nI f)), (3, .int (nI (pl - 1))), (2, .int (nI (qt S q))), (0, .ref (lo (0))), (1, .int (nI q))] → x_w l 8 pp ee ss mm av bb mt cd vv 126 ls [.int (nI y14_s0), .int (nI f)] := by
                    intro y14_s0 ey14_s0 ls hl
                    have dy14_s0 : (x = 0 ∧ (y14_s0 = 0)) ∨ (¬ (x = 0) ∧ (y14_s0 = 1)) := by rw [ey14_s0]; repeat' (first | (exact rfl) | (split <;> first | (refine Or.inl ⟨by assumption, ?_⟩) | (refine Or.inr ⟨by assumption, ?_⟩)))
                    refine x_iaddN cx dX11_fetched_126 ?_
                    refine lv_istore (lv' := [(4, .int (nI (f + y14_s0))), (7, .int (nI j)), (6, .int (nI x)), (5, .int (nI k)), (3, .int (nI (pl - 1))), (2, .int (nI (qt S q))), (0, .ref (lo (0))), (1, .int (nI q))]) hx hb dX11_fetched_127 hl (by decide) rfl (fun ls hl => ?_)
                    refine lv_iinc (v := nI (k + 1)) (lv' := [(5, .int (nI (k + 1))), (4, .int (nI (f + y14_s0))), (7, .int (nI j)), (6, .int (nI x)), (3, .int (nI (pl - 1))), (2, .int (nI (qt S q))), (0, .ref (lo (0))), (1, .int (nI q))]) hx hb dX11_fetched_129 hl (k := 3) rfl (nI_add _ 1) (by decide) rfl (fun ls hl => ?_)
                    refine lv_goto (tgt := 54) hx hb dX11_fetched_132 (by decide) ?_
                    exact ih54_10 (f + y14_s0) (k + 1) (by omega) (by rw [cntN, ← hf]; congr 1; rw [ey14_s0, hx_, show k = j by omega]; cases (allN j fun p => !t_like (sT S (qt S q)) j p ((aA S (pl - 1)).1 2)) <;> rfl) (by omega) _ (lv_sub hl [0, 1, 4, 5, 6, 7] rfl)
                  refine x_ifN_eq (tgt := 125) cx dX11_fetched_118 (by decide) (by omega) (fun h118_15 => ?_) (fun h118_15 => ?_)
                  · skip
                    refine lv_iconst (v := nI 0) hx hb dX11_fetched_125 rfl ?_
                    exact J126_14 0 (by rw [if_pos h118_15]) _ (lv_sub hl [0, 1, 2, 3, 4, 5, 6, 7] rfl)
                  · skip
                    refine lv_iconst (v := nI 1) hx hb dX11_fetched_121 rfl ?_
                    refine lv_goto (tgt := 126) hx hb dX11_fetched_122 (by decide) ?_
                    exact J126_14 1 (by rw [if_neg h118_15]) _ (lv_sub hl [0, 1, 2, 3, 4, 5, 6, 7] rfl)
                · skip
                  refine lv_iload hx hb dX11_fetched_78 (lv_at hl 1 rfl) ?_
                  have J106_16 : ∀ (y16_s0 : Nat) (ey16_s0 : y16_s0 = if x = 0 then 0 else (if (t_like (sT S (qt S q)) k j ((aA S (pl - 1)).1 2)) = true then 0 else 1)) (ls : Array Slot), lv_has ls 8 [(7, .int (nI j)), (6, .int (nI x)), (5, .int (nI k)), (4, .int (nI f)), (3, .int (nI (pl - 1))), (2, .int (nI (qt S q))), (0, .ref (lo (0))), (1, .int (nI q))] → x_w l 8 pp ee ss mm av bb mt cd vv 106 ls [.int (nI y16_s0)] := by
                    intro y16_s0 ey16_s0 ls hl
                    have dy16_s0 : (x = 0 ∧ (y16_s0 = 0)) ∨ (¬ (x = 0) ∧ (((t_like (sT S (qt S q)) k j ((aA S (pl - 1)).1 2)) = true ∧ (y16_s0 = 0)) ∨ (¬ ((t_like (sT S (qt S q)) k j ((aA S (pl - 1)).1 2)) = true) ∧ (y16_s0 = 1)))) := by rw [ey16_s0]; repeat' (first | (exact rfl) | (split <;> first | (refine Or.inl ⟨by assumption, ?_⟩) | (refine Or.inr ⟨by assumption, ?_⟩)))
                    refine lv_istore (lv' := [(6, .int (nI y16_s0)), (7, .int (nI j)), (5, .int (nI k)), (4, .int (nI f)), (3, .int (nI (pl - 1))), (2, .int (nI (qt S q))), (0, .ref (lo (0))), (1, .int (nI q))]) hx hb dX11_fetched_106 hl (by decide) rfl (fun ls hl => ?_)
                    refine lv_iinc (v := nI (j + 1)) (lv' := [(7, .int (nI (j + 1))), (6, .int (nI y16_s0)), (5, .int (nI k)), (4, .int (nI f)), (3, .int (nI (pl - 1))), (2, .int (nI (qt S q))), (0, .ref (lo (0))), (1, .int (nI q))]) hx hb dX11_fetched_108 hl (k := 1) rfl (nI_add _ 1) (by decide) rfl (fun ls hl => ?_)
                    refine lv_goto (tgt := 71) hx hb dX11_fetched_111 (by decide) ?_
                    exact ih71_12 y16_s0 (j + 1) (by omega) (by rw [allN, ey16_s0, hx_]; cases (allN j fun p => !t_like (sT S (qt S q)) k p ((aA S (pl - 1)).1 2)) <;> cases (t_like (sT S (qt S q)) k j ((aA S (pl - 1)).1 2)) <;> rfl) (by omega) _ (lv_sub hl [0, 1, 2, 3, 4, 5, 6, 7] rfl)
                  refine x_ifN_eq (tgt := 105) cx dX11_fetched_80 (by decide) (by omega) (fun h80_17 => ?_) (fun h80_17 => ?_)
                  · skip
                    refine lv_iconst (v := nI 0) hx hb dX11_fetched_105 rfl ?_
                    exact J106_16 0 (by rw [if_pos h80_17]) _ (lv_sub hl [0, 1, 2, 3, 4, 5, 6, 7] rfl)
                  · skip
                    refine lv_aload_n hx hb dX11_fetched_83 rfl (lv_at hl 6 rfl) ?_
                    refine lv_iload_n hx hb dX11_fetched_84 rfl (lv_at hl 5 rfl) ?_
                    refine lv_iload hx hb dX11_fetched_85 (lv_at hl 2 rfl) ?_
                    refine lv_iload hx hb dX11_fetched_87 (lv_at hl 0 rfl) ?_
                    refine lv_aload_n hx hb dX11_fetched_89 rfl (lv_at hl 6 rfl) ?_
                    refine x_get cx hk hw (hm.1) f_RX11_71_10 rfl dX11_fetched_90 ?_
                    refine lv_iload_n hx hb dX11_fetched_93 rfl (lv_at hl 4 rfl) ?_
                    refine x_ialdN cx hk hw (hm.2 24 _ rfl) (by omega) (by decide) dX11_fetched_94 ?_
                    refine x_rdV (av := [.int (nI (qt S q)), .int (nI k), .int (nI j), .int (nI ((aA S (pl - 1)).1 2))]) (rest := []) cx hk hw (hm.1) cv_RX11_183_10 (m_alike S m hm hS (qt S q) k j ((aA S (pl - 1)).1 2) (by first | assumption | omega) (by first | assumption | omega) (by first | assumption | omega) (by first | assumption | omega) (by first | assumption | omega)) hl.1 rfl rfl (Nat.le_of_ble_eq_true rfl) ⟨by decide, by decide⟩ ⟨Nat.zero_le _, Nat.zero_le _⟩ dX11_fetched_95 ?_
                    refine x_if_ne (tgt := 105) cx dX11_fetched_98 (by decide) (fun h98_18 => ?_) (fun h98_18 => ?_)
                    · skip
                      refine lv_iconst (v := nI 0) hx hb dX11_fetched_105 rfl ?_
                      exact J106_16 0 (by rw [if_neg h80_17, if_pos h98_18]) _ (lv_sub hl [0, 1, 2, 3, 4, 5, 6, 7] rfl)
                    · skip
                      refine lv_iconst (v := nI 1) hx hb dX11_fetched_101 rfl ?_
                      refine lv_goto (tgt := 106) hx hb dX11_fetched_102 (by decide) ?_
                      exact J106_16 1 (by rw [if_neg h80_17, if_neg (fun q => Bool.noConfusion (h98_18.symm.trans q))]) _ (lv_sub hl [0, 1, 2, 3, 4, 5, 6, 7] rfl)
            exact L71_12 (_ + 1) 1 0 (by omega) (by rfl) (Nat.lt_succ_self _) _ (lv_sub hl [0, 1, 2, 3, 4, 5, 6, 7] rfl)
      exact L54_10 (_ + 1) 0 0 (by omega) (by rfl) (Nat.lt_succ_self _) _ (lv_sub hl [0, 1, 2, 3, 4, 5] rfl)
  · skip
    refine lv_aload_n hx hb dX11_fetched_22 rfl (lv_at hl 2 rfl) ?_
    refine x_get cx hk hw (hm.1) f_RX11_16_10 rfl dX11_fetched_23 ?_
    refine lv_iload_n hx hb dX11_fetched_26 rfl (lv_at hl 1 rfl) ?_
    refine x_ialdN cx hk hw (hm.2 3 _ rfl) (by omega) (by decide) dX11_fetched_27 ?_
    refine lv_aload_n hx hb dX11_fetched_28 rfl (lv_at hl 2 rfl) ?_
    refine x_get cx hk hw (hm.1) f_RX11_13_10 rfl dX11_fetched_29 ?_
    refine lv_iload_n hx hb dX11_fetched_32 rfl (lv_at hl 1 rfl) ?_
    refine x_ialdN cx hk hw (hm.2 2 _ rfl) (by omega) (by decide) dX11_fetched_33 ?_
    refine x_rdS (av := [.int (nI ((sT S (qt S q)).1 3)), .int (nI ((sT S (qt S q)).1 2))]) (rest := []) cx hk hw cs_RX11_105 (m_up ((sT S (qt S q)).1 3) ((sT S (qt S q)).1 2) (by omega) (by omega) (by omega)) hl.1 rfl rfl (Nat.le_of_ble_eq_true rfl) ⟨by decide, by decide⟩ ⟨Nat.zero_le _, Nat.zero_le _⟩ dX11_fetched_34 ?_
    exact x_iret cx hr hlk dX11_fetched_37 ((congrArg (fun z => some (Value.int (nI z))) (show s_up ((sT S (qt S q)).1 3) ((sT S (qt S q)).1 2) = m_fetch S q (m_plan S q) from by unfold m_fetch m_plan; rw [hpl, if_pos (by assumption)])).trans hvv)
