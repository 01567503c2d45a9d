set_option maxHeartbeats 4000000 in
set_option maxRecDepth 100000 in
theorem m_tested {l : Launch} {G : x_G} {lo : x_L} {co : x_C} (S : St) (m : Nat → Nat → Int32) (hm : isM G lo co S m) (hS : Sok S) (q : Nat) (hq_ : q < sn S 0) : x_Rd l G lo co yX11_tested cX11_tested 4 (some .int) 1 [.ref (lo (0)), .int (nI q)] (some (.int (nI ((qQ S q).1 2)))) := by
  refine x_enter RX11 rfl (by decide) (Nat.le_of_ble_eq_true rfl) ?_
  intro pp ee ss mm bb mt cd ls cx hk hw hr hlk hl
  have hl : lv_has ls 4 [(0, .ref (lo (0))), (1, .int (nI q))] := hl
  generalize hav : ([.ref (lo (0)), .int (nI q)] : List Value).toArray = av at cx ⊢
  generalize hvv : (some (.int (nI ((qQ S q).1 2))) : Option Value) = vv
  have hx := cx.1
  have hb := cx.2.1
  have hown := cx.2.2.2.1
  have hts := cx.2.2.2.2
  obtain ⟨s1, s2, s3, s4, s5, s6⟩ := id hS
  obtain ⟨v1, v2, hQ⟩ := s5 q hq_
  have hTq := (s1 _ v1).1 v2
  obtain ⟨k1, k2, k3, k4, k5, k6, k7, k8, k9, k0⟩ := id hTq
  obtain ⟨j1, j2, j3, j4, j5, j6⟩ := id hQ
  have h16 := Qok.t16 hTq hQ
  have hw16 := Qok.w16 hTq hQ
  refine lv_iconst (v := nI 0) hx hb dX11_tested_0 rfl ?_
  refine lv_istore_n (lv' := [(2, .int (nI 0)), (0, .ref (lo (0))), (1, .int (nI q))]) hx hb dX11_tested_1 rfl hl (by decide) rfl (fun ls hl => ?_)
  refine lv_iconst (v := nI 0) hx hb dX11_tested_2 rfl ?_
  refine lv_istore_n (lv' := [(3, .int (nI 0)), (2, .int (nI 0)), (0, .ref (lo (0))), (1, .int (nI q))]) hx hb dX11_tested_3 rfl hl (by decide) rfl (fun ls hl => ?_)
  have L4_1 : ∀ (n_ : Nat) (f : Nat) (k : Nat), (k ≤ 4) → (f = m_bits (qQ S q) k) → 4 - k < n_ → ∀ (ls : Array Slot), lv_has ls 4 [(3, .int (nI k)), (2, .int (nI f)), (0, .ref (lo (0))), (1, .int (nI q))] → x_w l 1 pp ee ss mm av bb mt cd vv 4 ls [] := by
    intro n_
    induction n_ with
    | zero => intro f k hv hf hm_ ls hl; exact absurd hm_ (Nat.not_lt_zero _)
    | succ n_ ih4_1 =>
      intro f k hv hf hm_ ls hl
      refine lv_iload_n hx hb dX11_tested_4 rfl (lv_at hl 0 rfl) ?_
      refine lv_iconst (v := nI 4) hx hb dX11_tested_5 rfl ?_
      refine x_icmp_ge (tgt := 38) cx dX11_tested_6 (by decide) (by omega) (fun h6_2 => ?_) (fun h6_2 => ?_)
      · skip
        refine lv_iload_n hx hb dX11_tested_38 rfl (lv_at hl 1 rfl) ?_
        exact x_iret cx hr hlk dX11_tested_39 ((congrArg (fun z => some (Value.int (nI z))) (show f = (qQ S q).1 2 from by rw [hf, show k = 4 by omega]; exact m_bits_eq h16)).trans hvv)
      · skip
        refine lv_iload_n hx hb dX11_tested_9 rfl (lv_at hl 1 rfl) ?_
        refine lv_aload_n hx hb dX11_tested_10 rfl (lv_at hl 2 rfl) ?_
        refine x_get cx hk hw (hm.1) f_RX11_49_10 rfl dX11_tested_11 ?_
        refine lv_iconst (v := nI 4) hx hb dX11_tested_14 rfl ?_
        refine lv_iload_n hx hb dX11_tested_15 rfl (lv_at hl 3 rfl) ?_
        refine x_imulN cx dX11_tested_16 ?_
        refine lv_iload_n hx hb dX11_tested_17 rfl (lv_at hl 0 rfl) ?_
        refine x_iaddN cx dX11_tested_18 ?_
        refine x_zaldE (x := bI (((qQ S q).1 2).testBit k)) cx hk hw (hm.2 15 _ rfl) (by omega) (by decide) (by rw [(dm4 (t := q) (c := k) (by omega)).1, (dm4 (t := q) (c := k) (by omega)).2]) dX11_tested_19 ?_
        have J30_3 : ∀ (y3_s0 : Nat) (ey3_s0 : y3_s0 = if (((qQ S q).1 2).testBit k) = true then (2 ^ k) else 0) (ls : Array Slot), lv_has ls 4 [(3, .int (nI k)), (2, .int (nI f)), (0, .ref (lo (0))), (1, .int (nI q))] → x_w l 1 pp ee ss mm av bb mt cd vv 30 ls [.int (nI y3_s0), .int (nI f)] := by
          intro y3_s0 ey3_s0 ls hl
          have dy3_s0 : ((((qQ S q).1 2).testBit k) = true ∧ (y3_s0 = (2 ^ k))) ∨ (¬ ((((qQ S q).1 2).testBit k) = true) ∧ (y3_s0 = 0)) := by rw [ey3_s0]; repeat' (first | (exact rfl) | (split <;> first | (refine Or.inl ⟨by assumption, ?_⟩) | (refine Or.inr ⟨by assumption, ?_⟩)))
          refine x_iorB cx dX11_tested_30 ?_
          refine lv_istore_n (lv' := [(2, .int (nI (f ||| y3_s0))), (3, .int (nI k)), (0, .ref (lo (0))), (1, .int (nI q))]) hx hb dX11_tested_31 rfl hl (by decide) rfl (fun ls hl => ?_)
          refine lv_iinc (v := nI (k + 1)) (lv' := [(3, .int (nI (k + 1))), (2, .int (nI (f ||| y3_s0))), (0, .ref (lo (0))), (1, .int (nI q))]) hx hb dX11_tested_32 hl (k := 1) rfl (nI_add _ 1) (by decide) rfl (fun ls hl => ?_)
          refine lv_goto (tgt := 4) hx hb dX11_tested_35 (by decide) ?_
          exact ih4_1 (f ||| y3_s0) (k + 1) (by omega) (by rw [m_bits, ← hf]; simp only [*]) (by omega) _ (lv_sub hl [0, 1, 2, 3] rfl)
        refine x_if_eq (tgt := 29) cx dX11_tested_20 (by decide) (fun h20_4 => ?_) (fun h20_4 => ?_)
        · skip
          refine lv_iconst (v := nI 0) hx hb dX11_tested_29 rfl ?_
          exact J30_3 0 (by rw [if_neg (fun q => Bool.noConfusion (h20_4.symm.trans q))]) _ (lv_sub hl [0, 1, 2, 3] rfl)
        · skip
          refine lv_iconst (v := nI 1) hx hb dX11_tested_23 rfl ?_
          refine lv_iload_n hx hb dX11_tested_24 rfl (lv_at hl 0 rfl) ?_
          refine x_ishlB cx (by omega) dX11_tested_25 ?_
          refine lv_goto (tgt := 30) hx hb dX11_tested_26 (by decide) ?_
          exact J30_3 (2 ^ k) (by rw [if_pos h20_4]) _ (lv_sub hl [0, 1, 2, 3] rfl)
  exact L4_1 (_ + 1) 0 0 (by omega) (by rfl) (Nat.lt_succ_self _) _ (lv_sub hl [0, 1, 2, 3] rfl)
set_option maxHeartbeats 4000000 in
set_option maxRecDepth 100000 in
theorem m_help {l : Launch} {G : x_G} {lo : x_L} {co : x_C} (S : St) (m : Nat → Nat → Int32) (hm : isM G lo co S m) (hS : Sok S) (hM : Mok S m) (q a : Nat) (hq_ : q < sn S 0) (ha_ : a < sn S 1) : x_Rd l G lo co yX11_helps cX11_helps 4 (some .boolean) 2 [.ref (lo (0)), .int (nI q), .int (nI a)] (some (.int (bI (m_helps S q a)))) := by
  refine x_enter RX11 rfl (by decide) (Nat.le_of_ble_eq_true rfl) ?_
  intro pp ee ss mm bb mt cd ls cx hk hw hr hlk hl
  have hl : lv_has ls 4 [(0, .ref (lo (0))), (1, .int (nI q)), (2, .int (nI a))] := hl
  generalize hav : ([.ref (lo (0)), .int (nI q), .int (nI a)] : List Value).toArray = av at cx ⊢
  generalize hvv : (some (.int (bI (m_helps S q a))) : Option Value) = vv
  have hx := cx.1
  have hb := cx.2.1
  have hown := cx.2.2.2.1
  have hts := cx.2.2.2.2
  obtain ⟨s1, s2, s3, s4, s5, s6⟩ := id hS
  obtain ⟨u1, u2, hA⟩ := s6 a ha_
  have hT := (s1 _ u1).1 u2
  obtain ⟨k1, k2, k3, k4, k5, k6, k7, k8, k9, k0⟩ := id hT
  obtain ⟨m1, m2, m3, m4, m5, m6, m7, m8, m9, m10, m11⟩ := id hA
  obtain ⟨v1, v2, hQ⟩ := s5 q hq_
  have hTq := (s1 _ v1).1 v2
  refine lv_aload_n hx hb dX11_helps_0 rfl (lv_at hl 0 rfl) ?_
  refine x_get cx hk hw (hm.1) f_RX11_62_10 rfl dX11_helps_1 ?_
  refine lv_iload_n hx hb dX11_helps_4 rfl (lv_at hl 2 rfl) ?_
  refine x_ialdN cx hk hw (hm.2 21 _ rfl) (by omega) (by decide) dX11_helps_5 ?_
  refine lv_aload_n hx hb dX11_helps_6 rfl (lv_at hl 0 rfl) ?_
  refine x_get cx hk hw (hm.1) f_RX11_37_10 rfl dX11_helps_7 ?_
  refine lv_iload_n hx hb dX11_helps_10 rfl (lv_at hl 1 rfl) ?_
  refine x_ialdN cx hk hw (hm.2 11 _ rfl) (by omega) (by decide) dX11_helps_11 ?_
  refine x_icmp_eq (tgt := 17) cx dX11_helps_12 (by decide) (by omega) (fun h12_1 => ?_) (fun h12_1 => ?_)
  · skip
    have hsame : ao S a = qt S q := by assumption
    rw [← hsame] at v1 v2 hQ hTq
    obtain ⟨j1, j2, j3, j4, j5, j6⟩ := id hQ
    have h16 := Qok.t16 hT hQ
    have hw16 := Qok.w16 hT hQ
    refine lv_aload_n hx hb dX11_helps_17 rfl (lv_at hl 0 rfl) ?_
    refine x_get cx hk hw (hm.1) f_RX11_59_10 rfl dX11_helps_18 ?_
    refine lv_iload_n hx hb dX11_helps_21 rfl (lv_at hl 2 rfl) ?_
    refine x_ialdN cx hk hw (hm.2 20 _ rfl) (by omega) (by decide) dX11_helps_22 ?_
    refine lv_iconst (v := nI 2) hx hb dX11_helps_23 rfl ?_
    refine x_icmp_ne (tgt := 83) cx dX11_helps_24 (by decide) (by omega) (fun h24_2 => ?_) (fun h24_2 => ?_)
    · skip
      refine lv_aload_n hx hb dX11_helps_83 rfl (lv_at hl 0 rfl) ?_
      refine x_get cx hk hw (hm.1) f_RX11_59_10 rfl dX11_helps_84 ?_
      refine lv_iload_n hx hb dX11_helps_87 rfl (lv_at hl 2 rfl) ?_
      refine x_ialdN cx hk hw (hm.2 20 _ rfl) (by omega) (by decide) dX11_helps_88 ?_
      refine lv_iconst (v := nI 3) hx hb dX11_helps_89 rfl ?_
      refine x_icmp_ne (tgt := 140) cx dX11_helps_90 (by decide) (by omega) (fun h90_3 => ?_) (fun h90_3 => ?_)
      · skip
        refine lv_aload_n hx hb dX11_helps_140 rfl (lv_at hl 0 rfl) ?_
        refine lv_iload_n hx hb dX11_helps_141 rfl (lv_at hl 1 rfl) ?_
        refine lv_iload_n hx hb dX11_helps_142 rfl (lv_at hl 2 rfl) ?_
        refine x_rdV (av := [.int (nI q), .int (nI a)]) (rest := []) cx hk hw (hm.1) cv_RX11_152_10 (m_uses S m hm hS hM q a (by omega) (by omega) (by assumption)) hl.1 rfl rfl (Nat.le_of_ble_eq_true rfl) ⟨by decide, by decide⟩ ⟨Nat.zero_le _, Nat.zero_le _⟩ dX11_helps_143 ?_
        have hu := a_uses_le (qQ S q) (aA S a)
        refine x_ifN_le (tgt := 153) cx dX11_helps_146 (by decide) (by omega) (fun h146_4 => ?_) (fun h146_4 => ?_)
        · skip
          refine lv_iconst (v := nI 0) hx hb dX11_helps_153 rfl ?_
          exact x_zretF (b := m_helps S q a) cx hr hlk dX11_helps_154 (by unfold m_helps a_helps; rw [decide_eq_true hsame, if_neg (by omega), if_neg (by omega)]; simp; omega) hvv
        · skip
          refine lv_iconst (v := nI 1) hx hb dX11_helps_149 rfl ?_
          refine lv_goto (tgt := 154) hx hb dX11_helps_150 (by decide) ?_
          exact x_zretT (b := m_helps S q a) cx hr hlk dX11_helps_154 (by unfold m_helps a_helps; rw [decide_eq_true hsame, if_neg (by omega), if_neg (by omega)]; simp; omega) hvv
      · skip
        refine lv_aload_n hx hb dX11_helps_93 rfl (lv_at hl 0 rfl) ?_
        refine x_get cx hk hw (hm.1) f_RX11_40_10 rfl dX11_helps_94 ?_
        refine lv_iload_n hx hb dX11_helps_97 rfl (lv_at hl 1 rfl) ?_
        refine x_ialdN cx hk hw (hm.2 12 _ rfl) (by omega) (by decide) dX11_helps_98 ?_
        refine x_ifN_ne (tgt := 138) cx dX11_helps_99 (by decide) (by omega) (fun h99_5 => ?_) (fun h99_5 => ?_)
        · skip
          refine lv_iconst (v := nI 0) hx hb dX11_helps_138 rfl ?_
          exact x_zretF (b := m_helps S q a) cx hr hlk dX11_helps_139 (by unfold m_helps a_helps; rw [decide_eq_true hsame, if_neg (by omega), if_pos (by assumption), Bool.true_and]; first | (rw [decide_eq_true (by assumption : (nI ((qQ S q).1 2) &&& (nI ((aA S a).1 2) ^^^ (-1))) = 0)]; simp [*]; done) | (rw [decide_eq_false (by assumption : ¬ (nI ((qQ S q).1 2) &&& (nI ((aA S a).1 2) ^^^ (-1))) = 0)]; simp; done) | (simp [*])) hvv
        · skip
          have m6b := m6 (by omega)
          refine lv_aload_n hx hb dX11_helps_102 rfl (lv_at hl 0 rfl) ?_
          refine x_get cx hk hw (hm.1) f_RX11_43_10 rfl dX11_helps_103 ?_
          refine lv_iload_n hx hb dX11_helps_106 rfl (lv_at hl 1 rfl) ?_
          refine x_ialdN cx hk hw (hm.2 13 _ rfl) (by omega) (by decide) dX11_helps_107 ?_
          refine lv_aload_n hx hb dX11_helps_108 rfl (lv_at hl 0 rfl) ?_
          refine x_get cx hk hw (hm.1) f_RX11_74_10 rfl dX11_helps_109 ?_
          refine lv_iload_n hx hb dX11_helps_112 rfl (lv_at hl 2 rfl) ?_
          refine x_ialdE (x := nI ((aA S a).1 3)) cx hk hw (hm.2 25 _ rfl) (by omega) (by decide) ((hM a (by omega)).2 (by omega)) dX11_helps_113 ?_
          refine x_icmpON_ne (tgt := 138) cx dX11_helps_114 (by decide) (by omega) (fun h114_6 => ?_) (fun h114_6 => ?_)
          · skip
            refine lv_iconst (v := nI 0) hx hb dX11_helps_138 rfl ?_
            exact x_zretF (b := m_helps S q a) cx hr hlk dX11_helps_139 (by unfold m_helps a_helps; rw [decide_eq_true hsame, if_neg (by omega), if_pos (by assumption), Bool.true_and]; first | (rw [decide_eq_true (by assumption : (nI ((qQ S q).1 2) &&& (nI ((aA S a).1 2) ^^^ (-1))) = 0)]; simp [*]; done) | (rw [decide_eq_false (by assumption : ¬ (nI ((qQ S q).1 2) &&& (nI ((aA S a).1 2) ^^^ (-1))) = 0)]; simp; done) | (simp [*])) hvv
          · skip
            refine lv_aload_n hx hb dX11_helps_117 rfl (lv_at hl 0 rfl) ?_
            refine lv_iload_n hx hb dX11_helps_118 rfl (lv_at hl 1 rfl) ?_
            refine x_rdV (av := [.int (nI q)]) (rest := []) cx hk hw (hm.1) cv_RX11_158_10 (m_tested S m hm hS q (by omega)) hl.1 rfl rfl (Nat.le_of_ble_eq_true rfl) ⟨by decide, by decide⟩ ⟨Nat.zero_le _, Nat.zero_le _⟩ dX11_helps_119 ?_
            refine lv_aload_n hx hb dX11_helps_122 rfl (lv_at hl 0 rfl) ?_
            refine x_get cx hk hw (hm.1) f_RX11_71_10 rfl dX11_helps_123 ?_
            refine lv_iload_n hx hb dX11_helps_126 rfl (lv_at hl 2 rfl) ?_
            refine x_ialdN cx hk hw (hm.2 24 _ rfl) (by omega) (by decide) dX11_helps_127 ?_
            refine lv_iconst (v := (-1)) hx hb dX11_helps_128 rfl ?_
            refine lv_ixor hx hb dX11_helps_129 ?_
            refine lv_iand hx hb dX11_helps_130 ?_
            refine lv_if_ne (tgt := 138) hx hb dX11_helps_131 (by decide) (fun h131_7 => ?_) (fun h131_7 => ?_)
            · skip
              refine lv_iconst (v := nI 0) hx hb dX11_helps_138 rfl ?_
              exact x_zretF (b := m_helps S q a) cx hr hlk dX11_helps_139 (by unfold m_helps a_helps; rw [decide_eq_true hsame, if_neg (by omega), if_pos (by assumption), Bool.true_and]; first | (rw [decide_eq_true (by assumption : (nI ((qQ S q).1 2) &&& (nI ((aA S a).1 2) ^^^ (-1))) = 0)]; simp [*]; done) | (rw [decide_eq_false (by assumption : ¬ (nI ((qQ S q).1 2) &&& (nI ((aA S a).1 2) ^^^ (-1))) = 0)]; simp; done) | (simp [*])) hvv
            · skip
              refine lv_iconst (v := nI 1) hx hb dX11_helps_134 rfl ?_
              refine lv_goto (tgt := 139) hx hb dX11_helps_135 (by decide) ?_
              exact x_zretT (b := m_helps S q a) cx hr hlk dX11_helps_139 (by unfold m_helps a_helps; rw [decide_eq_true hsame, if_neg (by omega), if_pos (by assumption), Bool.true_and]; first | (rw [decide_eq_true (by assumption : (nI ((qQ S q).1 2) &&& (nI ((aA S a).1 2) ^^^ (-1))) = 0)]; simp [*]; done) | (rw [decide_eq_false (by assumption : ¬ (nI ((qQ S q).1 2) &&& (nI ((aA S a).1 2) ^^^ (-1))) = 0)]; simp; done) | (simp [*])) hvv
    · skip
      refine lv_iconst (v := nI 4) hx hb dX11_helps_27 rfl ?_
      refine lv_iload_n hx hb dX11_helps_28 rfl (lv_at hl 1 rfl) ?_
      refine x_imulN cx dX11_helps_29 ?_
      refine lv_aload_n hx hb dX11_helps_30 rfl (lv_at hl 0 rfl) ?_
      refine x_get cx hk hw (hm.1) f_RX11_74_10 rfl dX11_helps_31 ?_
      refine lv_iload_n hx hb dX11_helps_34 rfl (lv_at hl 2 rfl) ?_
      refine x_ialdE (x := nI ((aA S a).1 3)) cx hk hw (hm.2 25 _ rfl) (by omega) (by decide) ((hM a (by omega)).2 (by omega)) dX11_helps_35 ?_
      refine x_iaddN cx dX11_helps_36 ?_
      refine lv_istore_n (lv' := [(3, .int (nI ((4 * q) + ((aA S a).1 3)))), (0, .ref (lo (0))), (1, .int (nI q)), (2, .int (nI a))]) hx hb dX11_helps_37 rfl hl (by decide) rfl (fun ls hl => ?_)
      have m6b := m6 (by omega)
      have q6 := j6 ((aA S a).1 3) (by omega)
      refine lv_aload_n hx hb dX11_helps_38 rfl (lv_at hl 1 rfl) ?_
      refine x_get cx hk hw (hm.1) f_RX11_49_10 rfl dX11_helps_39 ?_
      refine lv_iload_n hx hb dX11_helps_42 rfl (lv_at hl 0 rfl) ?_
      refine x_zaldE (x := bI (((qQ S q).1 2).testBit ((aA S a).1 3))) cx hk hw (hm.2 15 _ rfl) (by omega) (by decide) (by rw [(dm4 (t := q) (c := ((aA S a).1 3)) (by omega)).1, (dm4 (t := q) (c := ((aA S a).1 3)) (by omega)).2]) dX11_helps_43 ?_
      refine x_if_eq (tgt := 81) cx dX11_helps_44 (by decide) (fun h44_8 => ?_) (fun h44_8 => ?_)
      · skip
        refine lv_iconst (v := nI 0) hx hb dX11_helps_81 rfl ?_
        exact x_zretF (b := m_helps S q a) cx hr hlk dX11_helps_82 (by unfold m_helps a_helps; rw [decide_eq_true hsame, if_pos (by assumption)]; first | (simp_all [q_in]; done) | (simp_all [q_in]; omega)) hvv
      · skip
        refine lv_aload_n hx hb dX11_helps_47 rfl (lv_at hl 1 rfl) ?_
        refine x_get cx hk hw (hm.1) f_RX11_53_10 rfl dX11_helps_48 ?_
        refine lv_iload_n hx hb dX11_helps_51 rfl (lv_at hl 0 rfl) ?_
        refine x_ialdE (x := nI ((qQ S q).2 0 ((aA S a).1 3))) cx hk hw (hm.2 16 _ rfl) (by omega) (by decide) (by rw [(dm4 (t := q) (c := ((aA S a).1 3)) (by omega)).1, (dm4 (t := q) (c := ((aA S a).1 3)) (by omega)).2]) dX11_helps_52 ?_
        refine lv_aload_n hx hb dX11_helps_53 rfl (lv_at hl 1 rfl) ?_
        refine x_get cx hk hw (hm.1) f_RX11_77_10 rfl dX11_helps_54 ?_
        refine lv_iload_n hx hb dX11_helps_57 rfl (lv_at hl 3 rfl) ?_
        refine x_ialdN cx hk hw (hm.2 26 _ rfl) (by omega) (by decide) dX11_helps_58 ?_
        refine x_icmp_lt (tgt := 81) cx dX11_helps_59 (by decide) (by omega) (fun h59_9 => ?_) (fun h59_9 => ?_)
        · skip
          refine lv_iconst (v := nI 0) hx hb dX11_helps_81 rfl ?_
          exact x_zretF (b := m_helps S q a) cx hr hlk dX11_helps_82 (by unfold m_helps a_helps; rw [decide_eq_true hsame, if_pos (by assumption)]; first | (simp_all [q_in]; done) | (simp_all [q_in]; omega)) hvv
        · skip
          refine lv_aload_n hx hb dX11_helps_62 rfl (lv_at hl 1 rfl) ?_
          refine x_get cx hk hw (hm.1) f_RX11_56_10 rfl dX11_helps_63 ?_
          refine lv_iload_n hx hb dX11_helps_66 rfl (lv_at hl 0 rfl) ?_
          refine x_ialdE (x := nI ((qQ S q).2 1 ((aA S a).1 3))) cx hk hw (hm.2 17 _ rfl) (by omega) (by decide) (by rw [(dm4 (t := q) (c := ((aA S a).1 3)) (by omega)).1, (dm4 (t := q) (c := ((aA S a).1 3)) (by omega)).2]) dX11_helps_67 ?_
          refine lv_aload_n hx hb dX11_helps_68 rfl (lv_at hl 1 rfl) ?_
          refine x_get cx hk hw (hm.1) f_RX11_80_10 rfl dX11_helps_69 ?_
          refine lv_iload_n hx hb dX11_helps_72 rfl (lv_at hl 3 rfl) ?_
          refine x_ialdN cx hk hw (hm.2 27 _ rfl) (by omega) (by decide) dX11_helps_73 ?_
          refine x_icmp_gt (tgt := 81) cx dX11_helps_74 (by decide) (by omega) (fun h74_10 => ?_) (fun h74_10 => ?_)
          · skip
            refine lv_iconst (v := nI 0) hx hb dX11_helps_81 rfl ?_
            exact x_zretF (b := m_helps S q a) cx hr hlk dX11_helps_82 (by unfold m_helps a_helps; rw [decide_eq_true hsame, if_pos (by assumption)]; first | (simp_all [q_in]; done) | (simp_all [q_in]; omega)) hvv
          · skip
            refine lv_iconst (v := nI 1) hx hb dX11_helps_77 rfl ?_
            refine lv_goto (tgt := 82) hx hb dX11_helps_78 (by decide) ?_
            exact x_zretT (b := m_helps S q a) cx hr hlk dX11_helps_82 (by unfold m_helps a_helps; rw [decide_eq_true hsame, if_pos (by assumption)]; first | (simp_all [q_in]; done) | (simp_all [q_in]; omega)) hvv
  · skip
    refine lv_iconst (v := nI 0) hx hb dX11_helps_15 rfl ?_
    exact x_zretF (b := m_helps S q a) cx hr hlk dX11_helps_16 (by unfold m_helps; rw [decide_eq_false (by assumption)]; rfl) hvv
set_option maxHeartbeats 4000000 in
set_option maxRecDepth 100000 in
theorem m_cov {l : Launch} {G : x_G} {lo : x_L} {co : x_C} (S : St) (m : Nat → Nat → Int32) (hm : isM G lo co S m) (hS : Sok S) (hM : Mok S m) (q a : Nat) (hq_ : q < sn S 0) (ha_ : a < sn S 1) : x_Rd l G lo co yX11_covers cX11_covers 3 (some .boolean) 2 [.ref (lo (0)), .int (nI q), .int (nI a)] (some (.int (bI (a_cov (qQ S q) (aA S a))))) := by
  refine x_enter RX11 rfl (by decide) (Nat.le_of_ble_eq_true rfl) ?_
  intro pp ee ss mm bb mt cd ls cx hk hw hr hlk hl
  have hl : lv_has ls 3 [(0, .ref (lo (0))), (1, .int (nI q)), (2, .int (nI a))] := hl
  generalize hav : ([.ref (lo (0)), .int (nI q), .int (nI a)] : List Value).toArray = av at cx ⊢
  generalize hvv : (some (.int (bI (a_cov (qQ S q) (aA S a)))) : Option Value) = vv
  have hx := cx.1
  have hb := cx.2.1
  have hown := cx.2.2.2.1
  have hts := cx.2.2.2.2
  obtain ⟨s1, s2, s3, s4, s5, s6⟩ := id hS
  obtain ⟨u1, u2, hA⟩ := s6 a ha_
  have hT := (s1 _ u1).1 u2
  obtain ⟨k1, k2, k3, k4, k5, k6, k7, k8, k9, k0⟩ := id hT
  obtain ⟨m1, m2, m3, m4, m5, m6, m7, m8, m9, m10, m11⟩ := id hA
  obtain ⟨v1, v2, hQ⟩ := s5 q hq_
  have hTq := (s1 _ v1).1 v2
  obtain ⟨j1, j2, j3, j4, j5, j6⟩ := id hQ
  have k2q := hTq.2.1
  refine lv_aload_n hx hb dX11_covers_0 rfl (lv_at hl 0 rfl) ?_
  refine x_get cx hk hw (hm.1) f_RX11_59_10 rfl dX11_covers_1 ?_
  refine lv_iload_n hx hb dX11_covers_4 rfl (lv_at hl 2 rfl) ?_
  refine x_ialdN cx hk hw (hm.2 20 _ rfl) (by omega) (by decide) dX11_covers_5 ?_
  refine lv_iconst (v := nI 1) hx hb dX11_covers_6 rfl ?_
  refine x_icmp_ne (tgt := 61) cx dX11_covers_7 (by decide) (by omega) (fun h7_1 => ?_) (fun h7_1 => ?_)
  · skip
    refine lv_iconst (v := nI 0) hx hb dX11_covers_61 rfl ?_
    exact x_zretF (b := a_cov (qQ S q) (aA S a)) cx hr hlk dX11_covers_62 (by unfold a_cov; first | (rw [decide_eq_false (by assumption : ¬ (aA S a).1 0 = 1)]; rfl) | (rw [decide_eq_true (by assumption : (aA S a).1 0 = 1), Bool.true_and]; first | exact decide_eq_true (by assumption) | exact decide_eq_false (by assumption))) hvv
  · skip
    refine lv_aload_n hx hb dX11_covers_10 rfl (lv_at hl 0 rfl) ?_
    refine x_get cx hk hw (hm.1) f_RX11_40_10 rfl dX11_covers_11 ?_
    refine lv_iload_n hx hb dX11_covers_14 rfl (lv_at hl 1 rfl) ?_
    refine x_ialdN cx hk hw (hm.2 12 _ rfl) (by omega) (by decide) dX11_covers_15 ?_
    refine lv_aload_n hx hb dX11_covers_16 rfl (lv_at hl 0 rfl) ?_
    refine lv_iload_n hx hb dX11_covers_17 rfl (lv_at hl 1 rfl) ?_
    refine x_rdV (av := [.int (nI q)]) (rest := [.int (nI ((qQ S q).1 0))]) cx hk hw (hm.1) cv_RX11_158_10 (m_tested S m hm hS q (by omega)) hl.1 rfl rfl (Nat.le_of_ble_eq_true rfl) ⟨by decide, by decide⟩ ⟨Nat.zero_le _, Nat.zero_le _⟩ dX11_covers_18 ?_
    refine x_iorB cx dX11_covers_21 ?_
    refine lv_aload_n hx hb dX11_covers_22 rfl (lv_at hl 0 rfl) ?_
    refine x_get cx hk hw (hm.1) f_RX11_43_10 rfl dX11_covers_23 ?_
    refine lv_iload_n hx hb dX11_covers_26 rfl (lv_at hl 1 rfl) ?_
    refine x_ialdN cx hk hw (hm.2 13 _ rfl) (by omega) (by decide) dX11_covers_27 ?_
    refine lv_iconst (v := (-1)) hx hb dX11_covers_28 rfl ?_
    have J44_2 : ∀ (y2_s0 : Nat) (ey2_s0 : y2_s0 = if ((qQ S q).1 3) = 0 then 0 else (2 ^ ((qQ S q).1 3 - 1))) (ls : Array Slot), lv_has ls 3 [(0, .ref (lo (0))), (1, .int (nI q)), (2, .int (nI a))] → x_w l 2 pp ee ss mm av bb mt cd vv 44 ls [.int (nI y2_s0), .int (nI (((qQ S q).1 0) ||| ((qQ S q).1 2)))] := by
      intro y2_s0 ey2_s0 ls hl
      have dy2_s0 : (((qQ S q).1 3) = 0 ∧ (y2_s0 = 0)) ∨ (¬ (((qQ S q).1 3) = 0) ∧ (y2_s0 = (2 ^ ((qQ S q).1 3 - 1)))) := by rw [ey2_s0]; repeat' (first | (exact rfl) | (split <;> first | (refine Or.inl ⟨by assumption, ?_⟩) | (refine Or.inr ⟨by assumption, ?_⟩)))
      refine x_iorB cx dX11_covers_44 ?_
      have etc : (((qQ S q).1 0) ||| ((qQ S q).1 2)) ||| y2_s0 = q_touch (qQ S q) := by
        unfold q_touch
        congr 1
        rcases dy2_s0 with ⟨w1, w2⟩ | ⟨w1, w2⟩
        · rw [w2, w1]; rfl
        · rw [w2, bO_s w1]
      rw [etc]
      refine lv_aload_n hx hb dX11_covers_45 rfl (lv_at hl 0 rfl) ?_
      refine x_get cx hk hw (hm.1) f_RX11_71_10 rfl dX11_covers_46 ?_
      refine lv_iload_n hx hb dX11_covers_49 rfl (lv_at hl 2 rfl) ?_
      refine x_ialdN cx hk hw (hm.2 24 _ rfl) (by omega) (by decide) dX11_covers_50 ?_
      refine lv_iconst (v := (-1)) hx hb dX11_covers_51 rfl ?_
      refine lv_ixor hx hb dX11_covers_52 ?_
      refine lv_iand hx hb dX11_covers_53 ?_
      refine lv_if_ne (tgt := 61) hx hb dX11_covers_54 (by decide) (fun h54_3 => ?_) (fun h54_3 => ?_)
      · skip
        refine lv_iconst (v := nI 0) hx hb dX11_covers_61 rfl ?_
        exact x_zretF (b := a_cov (qQ S q) (aA S a)) cx hr hlk dX11_covers_62 (by unfold a_cov; first | (rw [decide_eq_false (by assumption : ¬ (aA S a).1 0 = 1)]; rfl) | (rw [decide_eq_true (by assumption : (aA S a).1 0 = 1), Bool.true_and]; first | exact decide_eq_true (by assumption) | exact decide_eq_false (by assumption))) hvv
      · skip
        refine lv_iconst (v := nI 1) hx hb dX11_covers_57 rfl ?_
        refine lv_goto (tgt := 62) hx hb dX11_covers_58 (by decide) ?_
        exact x_zretT (b := a_cov (qQ S q) (aA S a)) cx hr hlk dX11_covers_62 (by unfold a_cov; first | (rw [decide_eq_false (by assumption : ¬ (aA S a).1 0 = 1)]; rfl) | (rw [decide_eq_true (by assumption : (aA S a).1 0 = 1), Bool.true_and]; first | exact decide_eq_true (by assumption) | exact decide_eq_false (by assumption))) hvv
    refine x_icmpO1_ne (tgt := 36) cx dX11_covers_29 (by decide) (by omega) (fun h29_4 => ?_) (fun h29_4 => ?_)
    · skip
      refine lv_iconst (v := nI 1) hx hb dX11_covers_36 rfl ?_
      refine lv_aload_n hx hb dX11_covers_37 rfl (lv_at hl 0 rfl) ?_
      refine x_get cx hk hw (hm.1) f_RX11_43_10 rfl dX11_covers_38 ?_
      refine lv_iload_n hx hb dX11_covers_41 rfl (lv_at hl 1 rfl) ?_
      refine x_ialdN cx hk hw (hm.2 13 _ rfl) (by omega) (by decide) dX11_covers_42 ?_
      rw [nO_s (k := (qQ S q).1 3) (by assumption)]
      refine x_ishlB cx (by omega) dX11_covers_43 ?_
      exact J44_2 (2 ^ ((qQ S q).1 3 - 1)) (by rw [if_neg h29_4]) _ (lv_sub hl [0, 1, 2] rfl)
    · skip
      refine lv_iconst (v := nI 0) hx hb dX11_covers_32 rfl ?_
      refine lv_goto (tgt := 44) hx hb dX11_covers_33 (by decide) ?_
      exact J44_2 0 (by rw [if_pos h29_4]) _ (lv_sub hl [0, 1, 2] rfl)
set_option maxHeartbeats 4000000 in
set_option maxRecDepth 100000 in
theorem m_costOf {l : Launch} {G : x_G} {lo : x_L} {co : x_C} (S : St) (m : Nat → Nat → Int32) (hm : isM G lo co S m) (hS : Sok S) (hM : Mok S m) (q a : Nat) (hq_ : q < sn S 0) (ha_ : a < sn S 1) (hsame : ao S a = qt S q) : x_Rd l G lo co yX11_costOf cX11_costOf 6 (some .int) 5 [.ref (lo (0)), .int (nI q), .int (nI a)] (some (.int (nI (m_cost S q a)))) := by
  refine x_enter RX11 rfl (by decide) (Nat.le_of_ble_eq_true rfl) ?_
  intro pp ee ss mm bb mt cd ls cx hk hw hr hlk hl
  have hl : lv_has ls 6 [(0, .ref (lo (0))), (1, .int (nI q)), (2, .int (nI a))] := hl
  generalize hav : ([.ref (lo (0)), .int (nI q), .int (nI a)] : List Value).toArray = av at cx ⊢
  generalize hvv : (some (.int (nI (m_cost S q a))) : Option Value) = vv
  have hx := cx.1
  have hb := cx.2.1
  have hown := cx.2.2.2.1
  have hts := cx.2.2.2.2
  obtain ⟨s1, s2, s3, s4, s5, s6⟩ := id hS
  obtain ⟨u1, u2, hA⟩ := s6 a ha_
  have hT := (s1 _ u1).1 u2
  obtain ⟨k1, k2, k3, k4, k5, k6, k7, k8, k9, k0⟩ := id hT
  obtain ⟨m1, m2, m3, m4, m5, m6, m7, m8, m9, m10, m11⟩ := id hA
  obtain ⟨v1, v2, hQ⟩ := s5 q hq_
  have hTq := (s1 _ v1).1 v2
  rw [← hsame] at v1 v2 hQ hTq
  obtain ⟨j1, j2, j3, j4, j5, j6⟩ := id hQ
  have h16 := Qok.t16 hT hQ
  have hw16 := Qok.w16 hT hQ
  have hml := a_mat_le hT hQ hA
  have hpg := s_up_60 (n := (sT S (ao S a)).1 5) (d := (sT S (ao S a)).1 2) (by omega) (by omega)
  have hg : t_groups (sT S (ao S a)) ((aA S a).1 2) ≤ 60 := Nat.le_trans (Nat.min_le_right _ _) k7
  refine lv_aload_n hx hb dX11_costOf_0 rfl (lv_at hl 0 rfl) ?_
  refine x_get cx hk hw (hm.1) f_RX11_62_10 rfl dX11_costOf_1 ?_
  refine lv_iload_n hx hb dX11_costOf_4 rfl (lv_at hl 2 rfl) ?_
  refine x_ialdN cx hk hw (hm.2 21 _ rfl) (by omega) (by decide) dX11_costOf_5 ?_
  refine lv_istore_n (lv' := [(3, .int (nI (ao S a))), (0, .ref (lo (0))), (1, .int (nI q)), (2, .int (nI a))]) hx hb dX11_costOf_6 rfl hl (by decide) rfl (fun ls hl => ?_)
  refine lv_aload_n hx hb dX11_costOf_7 rfl (lv_at hl 1 rfl) ?_
  refine x_get cx hk hw (hm.1) f_RX11_59_10 rfl dX11_costOf_8 ?_
  refine lv_iload_n hx hb dX11_costOf_11 rfl (lv_at hl 3 rfl) ?_
  refine x_ialdN cx hk hw (hm.2 20 _ rfl) (by omega) (by decide) dX11_costOf_12 ?_
  refine lv_iconst (v := nI 3) hx hb dX11_costOf_13 rfl ?_
  refine x_icmp_ne (tgt := 36) cx dX11_costOf_14 (by decide) (by omega) (fun h14_1 => ?_) (fun h14_1 => ?_)
  · skip
    refine lv_aload_n hx hb dX11_costOf_36 rfl (lv_at hl 1 rfl) ?_
    refine lv_iload_n hx hb dX11_costOf_37 rfl (lv_at hl 2 rfl) ?_
    refine lv_iload_n hx hb dX11_costOf_38 rfl (lv_at hl 3 rfl) ?_
    refine x_rdV (av := [.int (nI q), .int (nI a)]) (rest := []) cx hk hw (hm.1) cv_RX11_161_10 (m_matched S m hm hS hM q a (by omega) (by omega) (by assumption)) hl.1 rfl rfl (Nat.le_of_ble_eq_true rfl) ⟨by decide, by decide⟩ ⟨Nat.zero_le _, Nat.zero_le _⟩ dX11_costOf_39 ?_
    refine lv_istore (lv' := [(4, .int (nI (a_mat (sT S (ao S a)) (qQ S q) (aA S a)))), (3, .int (nI (ao S a))), (0, .ref (lo (0))), (1, .int (nI q)), (2, .int (nI a))]) hx hb dX11_costOf_42 hl (by decide) rfl (fun ls hl => ?_)
    refine lv_aload_n hx hb dX11_costOf_44 rfl (lv_at hl 2 rfl) ?_
    refine x_get cx hk hw (hm.1) f_RX11_59_10 rfl dX11_costOf_45 ?_
    refine lv_iload_n hx hb dX11_costOf_48 rfl (lv_at hl 4 rfl) ?_
    refine x_ialdN cx hk hw (hm.2 20 _ rfl) (by omega) (by decide) dX11_costOf_49 ?_
    refine lv_iconst (v := nI 4) hx hb dX11_costOf_50 rfl ?_
    refine x_icmp_ne (tgt := 68) cx dX11_costOf_51 (by decide) (by omega) (fun h51_2 => ?_) (fun h51_2 => ?_)
    · skip
      refine lv_aload_n hx hb dX11_costOf_68 rfl (lv_at hl 2 rfl) ?_
      refine lv_iload_n hx hb dX11_costOf_69 rfl (lv_at hl 3 rfl) ?_
      refine lv_iload_n hx hb dX11_costOf_70 rfl (lv_at hl 4 rfl) ?_
      refine x_rdV (av := [.int (nI q), .int (nI a)]) (rest := []) cx hk hw (hm.1) cv_RX11_164_10 (m_cov S m hm hS hM q a (by omega) (by omega)) hl.1 rfl rfl (Nat.le_of_ble_eq_true rfl) ⟨by decide, by decide⟩ ⟨Nat.zero_le _, Nat.zero_le _⟩ dX11_costOf_71 ?_
      have J101_3 : ∀ (y3_s0 : Nat) (ey3_s0 : y3_s0 = if (a_cov (qQ S q) (aA S a)) = true then 0 else (if (s_up ((sT S (ao S a)).1 5) ((sT S (ao S a)).1 2)) ≤ (a_mat (sT S (ao S a)) (qQ S q) (aA S a)) then (s_up ((sT S (ao S a)).1 5) ((sT S (ao S a)).1 2)) else (a_mat (sT S (ao S a)) (qQ S q) (aA S a)))) (ls : Array Slot), lv_has ls 6 [(4, .int (nI (a_mat (sT S (ao S a)) (qQ S q) (aA S a)))), (3, .int (nI (ao S a))), (0, .ref (lo (0))), (1, .int (nI q)), (2, .int (nI a))] → x_w l 5 pp ee ss mm av bb mt cd vv 101 ls [.int (nI y3_s0)] := by
        intro y3_s0 ey3_s0 ls hl
        have dy3_s0 : ((a_cov (qQ S q) (aA S a)) = true ∧ (y3_s0 = 0)) ∨ (¬ ((a_cov (qQ S q) (aA S a)) = true) ∧ (((s_up ((sT S (ao S a)).1 5) ((sT S (ao S a)).1 2)) ≤ (a_mat (sT S (ao S a)) (qQ S q) (aA S a)) ∧ (y3_s0 = (s_up ((sT S (ao S a)).1 5) ((sT S (ao S a)).1 2)))) ∨ (¬ ((s_up ((sT S (ao S a)).1 5) ((sT S (ao S a)).1 2)) ≤ (a_mat (sT S (ao S a)) (qQ S q) (aA S a))) ∧ (y3_s0 = (a_mat (sT S (ao S a)) (qQ S q) (aA S a)))))) := by rw [ey3_s0]; repeat' (first | (exact rfl) | (split <;> first | (refine Or.inl ⟨by assumption, ?_⟩) | (refine Or.inr ⟨by assumption, ?_⟩)))
        refine lv_istore (lv' := [(5, .int (nI y3_s0)), (4, .int (nI (a_mat (sT S (ao S a)) (qQ S q) (aA S a)))), (3, .int (nI (ao S a))), (0, .ref (lo (0))), (1, .int (nI q)), (2, .int (nI a))]) hx hb dX11_costOf_101 hl (by decide) rfl (fun ls hl => ?_)
        refine lv_iconst (v := nI 1) hx hb dX11_costOf_103 rfl ?_
        refine lv_iload hx hb dX11_costOf_104 (lv_at hl 1 rfl) ?_
        refine lv_iconst (v := nI 2) hx hb dX11_costOf_106 rfl ?_
        refine lv_aload_n hx hb dX11_costOf_107 rfl (lv_at hl 3 rfl) ?_
        refine x_get cx hk hw (hm.1) f_RX11_13_10 rfl dX11_costOf_108 ?_
        refine lv_iload_n hx hb dX11_costOf_111 rfl (lv_at hl 2 rfl) ?_
        refine x_ialdN cx hk hw (hm.2 2 _ rfl) (by omega) (by decide) dX11_costOf_112 ?_
        refine x_imulN cx dX11_costOf_113 ?_
        refine x_rdS (av := [.int (nI (a_mat (sT S (ao S a)) (qQ S q) (aA S a))), .int (nI (2 * ((sT S (ao S a)).1 2)))]) (rest := [.int (nI 1)]) cx hk hw cs_RX11_105 (m_up (a_mat (sT S (ao S a)) (qQ S q) (aA S a)) (2 * ((sT S (ao S a)).1 2)) (by omega) (by omega) (by omega)) hl.1 rfl rfl (Nat.le_of_ble_eq_true rfl) ⟨by decide, by decide⟩ ⟨Nat.zero_le _, Nat.zero_le _⟩ dX11_costOf_114 ?_
        refine x_iaddN cx dX11_costOf_117 ?_
        refine lv_iload hx hb dX11_costOf_118 (lv_at hl 0 rfl) ?_
        refine x_iaddN cx dX11_costOf_120 ?_
        exact x_iret cx hr hlk dX11_costOf_121 ((congrArg (fun z => some (Value.int (nI z))) (show (1 + (s_up (a_mat (sT S (ao S a)) (qQ S q) (aA S a)) (2 * ((sT S (ao S a)).1 2)))) + y3_s0 = m_cost S q a from by unfold m_cost a_cost a_ent; rw [if_neg (by assumption), if_neg (by assumption)]; congr 1; exact ite_min (by assumption) (by assumption))).trans hvv)
      refine x_if_eq (tgt := 81) cx dX11_costOf_74 (by decide) (fun h74_4 => ?_) (fun h74_4 => ?_)
      · skip
        refine lv_iload hx hb dX11_costOf_81 (lv_at hl 0 rfl) ?_
        refine lv_aload_n hx hb dX11_costOf_83 rfl (lv_at hl 2 rfl) ?_
        refine lv_iload_n hx hb dX11_costOf_84 rfl (lv_at hl 1 rfl) ?_
        refine x_rdV (av := [.int (nI (ao S a))]) (rest := [.int (nI (a_mat (sT S (ao S a)) (qQ S q) (aA S a)))]) cx hk hw (hm.1) cv_RX11_109_10 (m_pages S m hm hS (ao S a) (by first | assumption | omega) (by first | assumption | omega)) hl.1 rfl rfl (Nat.le_of_ble_eq_true rfl) ⟨by decide, by decide⟩ ⟨Nat.zero_le _, Nat.zero_le _⟩ dX11_costOf_85 ?_
        refine x_icmp_ge (tgt := 96) cx dX11_costOf_88 (by decide) (by omega) (fun h88_5 => ?_) (fun h88_5 => ?_)
        · skip
          refine lv_aload_n hx hb dX11_costOf_96 rfl (lv_at hl 2 rfl) ?_
          refine lv_iload_n hx hb dX11_costOf_97 rfl (lv_at hl 1 rfl) ?_
          refine x_rdV (av := [.int (nI (ao S a))]) (rest := []) cx hk hw (hm.1) cv_RX11_109_10 (m_pages S m hm hS (ao S a) (by first | assumption | omega) (by first | assumption | omega)) hl.1 rfl rfl (Nat.le_of_ble_eq_true rfl) ⟨by decide, by decide⟩ ⟨Nat.zero_le _, Nat.zero_le _⟩ dX11_costOf_98 ?_
          exact J101_3 (s_up ((sT S (ao S a)).1 5) ((sT S (ao S a)).1 2)) (by rw [if_neg (fun q => Bool.noConfusion (h74_4.symm.trans q)), if_pos h88_5]) _ (lv_sub hl [0, 1, 2, 3, 4] rfl)
        · skip
          refine lv_iload hx hb dX11_costOf_91 (lv_at hl 0 rfl) ?_
          refine lv_goto (tgt := 101) hx hb dX11_costOf_93 (by decide) ?_
          exact J101_3 (a_mat (sT S (ao S a)) (qQ S q) (aA S a)) (by rw [if_neg (fun q => Bool.noConfusion (h74_4.symm.trans q)), if_neg h88_5]) _ (lv_sub hl [0, 1, 2, 3, 4] rfl)
      · skip
        refine lv_iconst (v := nI 0) hx hb dX11_costOf_77 rfl ?_
        refine lv_goto (tgt := 101) hx hb dX11_costOf_78 (by decide) ?_
        exact J101_3 0 (by rw [if_pos h74_4]) _ (lv_sub hl [0, 1, 2, 3, 4] rfl)
    · skip
      refine lv_iconst (v := nI 1) hx hb dX11_costOf_54 rfl ?_
      refine lv_iload hx hb dX11_costOf_55 (lv_at hl 0 rfl) ?_
      refine lv_aload_n hx hb dX11_costOf_57 rfl (lv_at hl 2 rfl) ?_
      refine x_get cx hk hw (hm.1) f_RX11_13_10 rfl dX11_costOf_58 ?_
      refine lv_iload_n hx hb dX11_costOf_61 rfl (lv_at hl 1 rfl) ?_
      refine x_ialdN cx hk hw (hm.2 2 _ rfl) (by omega) (by decide) dX11_costOf_62 ?_
      refine x_rdS (av := [.int (nI (a_mat (sT S (ao S a)) (qQ S q) (aA S a))), .int (nI ((sT S (ao S a)).1 2))]) (rest := [.int (nI 1)]) cx hk hw cs_RX11_105 (m_up (a_mat (sT S (ao S a)) (qQ S q) (aA S a)) ((sT S (ao S a)).1 2) (by omega) (by omega) (by omega)) hl.1 rfl rfl (Nat.le_of_ble_eq_true rfl) ⟨by decide, by decide⟩ ⟨Nat.zero_le _, Nat.zero_le _⟩ dX11_costOf_63 ?_
      refine x_iaddN cx dX11_costOf_66 ?_
      exact x_iret cx hr hlk dX11_costOf_67 ((congrArg (fun z => some (Value.int (nI z))) (show 1 + (s_up (a_mat (sT S (ao S a)) (qQ S q) (aA S a)) ((sT S (ao S a)).1 2)) = m_cost S q a from by unfold m_cost a_cost a_ent; simp [*])).trans hvv)
  · skip
    refine lv_iconst (v := nI 1) hx hb dX11_costOf_17 rfl ?_
    refine lv_aload_n hx hb dX11_costOf_18 rfl (lv_at hl 1 rfl) ?_
    refine lv_iload_n hx hb dX11_costOf_19 rfl (lv_at hl 3 rfl) ?_
    refine x_rdV (av := [.int (nI a)]) (rest := [.int (nI 1)]) cx hk hw (hm.1) cv_RX11_155_10 (m_groups S m hm hS a (by omega)) hl.1 rfl rfl (Nat.le_of_ble_eq_true rfl) ⟨by decide, by decide⟩ ⟨Nat.zero_le _, Nat.zero_le _⟩ dX11_costOf_20 ?_
    refine lv_iconst (v := nI 2) hx hb dX11_costOf_23 rfl ?_
    refine lv_aload_n hx hb dX11_costOf_24 rfl (lv_at hl 1 rfl) ?_
    refine x_get cx hk hw (hm.1) f_RX11_13_10 rfl dX11_costOf_25 ?_
    refine lv_iload_n hx hb dX11_costOf_28 rfl (lv_at hl 0 rfl) ?_
    refine x_ialdN cx hk hw (hm.2 2 _ rfl) (by omega) (by decide) dX11_costOf_29 ?_
    refine x_imulN cx dX11_costOf_30 ?_
    refine x_rdS (av := [.int (nI (t_groups (sT S (ao S a)) ((aA S a).1 2))), .int (nI (2 * ((sT S (ao S a)).1 2)))]) (rest := [.int (nI 1)]) cx hk hw cs_RX11_105 (m_up (t_groups (sT S (ao S a)) ((aA S a).1 2)) (2 * ((sT S (ao S a)).1 2)) (by omega) (by omega) (by omega)) hl.1 rfl rfl (Nat.le_of_ble_eq_true rfl) ⟨by decide, by decide⟩ ⟨Nat.zero_le _, Nat.zero_le _⟩ dX11_costOf_31 ?_
    refine x_iaddN cx dX11_costOf_34 ?_
    exact x_iret cx hr hlk dX11_costOf_35 ((congrArg (fun z => some (Value.int (nI z))) (show 1 + (s_up (t_groups (sT S (ao S a)) ((aA S a).1 2)) (2 * ((sT S (ao S a)).1 2))) = m_cost S q a from by unfold m_cost a_cost; rw [if_pos (by assumption)])).trans hvv)
set_option maxHeartbeats 4000000 in
set_option maxRecDepth 100000 in
theorem m_costP {l : Launch} {G : x_G} {lo : x_L} {co : x_C} (S : St) (m : Nat → Nat → Int32) (hm : isM G lo co S m) (hS : Sok S) (hM : Mok S m) (q p : Nat) (hq_ : q < sn S 0) (hp_ : p = 0 ∨ (p - 1 < sn S 1 ∧ m_helps S q (p - 1) = true)) : x_Rd l G lo co yX11_cost cX11_cost 3 (some .int) 6 [.ref (lo (0)), .int (nI q), .int (nO p)] (some (.int (nI (m_pc S q p)))) := by
  refine x_enter RX11 rfl (by decide) (Nat.le_of_ble_eq_true rfl) ?_
  intro pp ee ss mm bb mt cd ls cx hk hw hr hlk hl
  have hl : lv_has ls 3 [(0, .ref (lo (0))), (1, .int (nI q)), (2, .int (nO p))] := hl
  generalize hav : ([.ref (lo (0)), .int (nI q), .int (nO p)] : List Value).toArray = av at cx ⊢
  generalize hvv : (some (.int (nI (m_pc S q p))) : Option Value) = vv
  have hx := cx.1
  have hb := cx.2.1
  have hown := cx.2.2.2.1
  have hts := cx.2.2.2.2
  obtain ⟨s1, s2, s3, s4, s5, s6⟩ := id hS
  obtain ⟨v1, v2, hQ⟩ := s5 q hq_
  have hTq := (s1 _ v1).1 v2
  have hp31 : p < 2 ^ 31 := by omega
  refine lv_aload_n hx hb dX11_cost_0 rfl (lv_at hl 0 rfl) ?_
  refine lv_iload_n hx hb dX11_cost_1 rfl (lv_at hl 1 rfl) ?_
  refine x_rdV (av := [.int (nI q)]) (rest := []) cx hk hw (hm.1) cv_RX11_120_10 (m_isQ S m hm hS (nI q)) hl.1 rfl rfl (Nat.le_of_ble_eq_true rfl) ⟨by decide, by decide⟩ ⟨Nat.zero_le _, Nat.zero_le _⟩ dX11_cost_2 ?_
  rw [x_in_nI (by omega) (by omega), decide_eq_true hq_]
  refine x_if_ne (tgt := 10) cx dX11_cost_5 (by decide) (fun h5_1 => ?_) (fun h5_1 => ?_)
  · skip
    refine lv_iload_n hx hb dX11_cost_10 rfl (lv_at hl 2 rfl) ?_
    refine lv_iconst (v := (-1)) hx hb dX11_cost_11 rfl ?_
    refine x_icmpO1_ne (tgt := 26) cx dX11_cost_12 (by decide) (by omega) (fun h12_2 => ?_) (fun h12_2 => ?_)
    · skip
      have hp2 : p - 1 < sn S 1 ∧ m_helps S q (p - 1) = true := hp_.resolve_left (by assumption)
      rw [nO_s (k := p) (by assumption)] at hl
      have hsame := m_helps_same hp2.2
      refine lv_aload_n hx hb dX11_cost_26 rfl (lv_at hl 0 rfl) ?_
      refine lv_iload_n hx hb dX11_cost_27 rfl (lv_at hl 2 rfl) ?_
      refine x_rdV (av := [.int (nI (p - 1))]) (rest := []) cx hk hw (hm.1) cv_RX11_137_10 (m_isA S m hm hS (nI (p - 1))) hl.1 rfl rfl (Nat.le_of_ble_eq_true rfl) ⟨by decide, by decide⟩ ⟨Nat.zero_le _, Nat.zero_le _⟩ dX11_cost_28 ?_
      rw [x_in_nI (by omega) (by omega), decide_eq_true hp2.1]
      refine x_if_eq (tgt := 52) cx dX11_cost_31 (by decide) (fun h31_3 => ?_) (fun h31_3 => ?_)
      · skip
        exact absurd (by assumption : true = false) (by decide)
      · skip
        refine lv_aload_n hx hb dX11_cost_34 rfl (lv_at hl 0 rfl) ?_
        refine lv_iload_n hx hb dX11_cost_35 rfl (lv_at hl 1 rfl) ?_
        refine lv_iload_n hx hb dX11_cost_36 rfl (lv_at hl 2 rfl) ?_
        refine x_rdV (av := [.int (nI q), .int (nI (p - 1))]) (rest := []) cx hk hw (hm.1) cv_RX11_167_10 (m_help S m hm hS hM q (p - 1) (by omega) (by omega)) hl.1 rfl rfl (Nat.le_of_ble_eq_true rfl) ⟨by decide, by decide⟩ ⟨Nat.zero_le _, Nat.zero_le _⟩ dX11_cost_37 ?_
        rw [hp2.2]
        refine x_if_eq (tgt := 52) cx dX11_cost_40 (by decide) (fun h40_4 => ?_) (fun h40_4 => ?_)
        · skip
          exact absurd (by assumption : true = false) (by decide)
        · skip
          refine lv_aload_n hx hb dX11_cost_43 rfl (lv_at hl 0 rfl) ?_
          refine lv_iload_n hx hb dX11_cost_44 rfl (lv_at hl 1 rfl) ?_
          refine lv_iload_n hx hb dX11_cost_45 rfl (lv_at hl 2 rfl) ?_
          refine x_rdV (av := [.int (nI q), .int (nI (p - 1))]) (rest := []) cx hk hw (hm.1) cv_RX11_170_10 (m_costOf S m hm hS hM q (p - 1) (by omega) (by omega) (by assumption)) hl.1 rfl rfl (Nat.le_of_ble_eq_true rfl) ⟨by decide, by decide⟩ ⟨Nat.zero_le _, Nat.zero_le _⟩ dX11_cost_46 ?_
          refine lv_goto (tgt := 53) hx hb dX11_cost_49 (by decide) ?_
          exact x_iret cx hr hlk dX11_cost_53 ((congrArg (fun z => some (Value.int (nI z))) (show m_cost S q (p - 1) = m_pc S q p from by rw [m_pc, if_neg (by assumption)])).trans hvv)
    · skip
      refine lv_aload_n hx hb dX11_cost_15 rfl (lv_at hl 0 rfl) ?_
      refine lv_aload_n hx hb dX11_cost_16 rfl (lv_at hl 0 rfl) ?_
      refine x_get cx hk hw (hm.1) f_RX11_37_10 rfl dX11_cost_17 ?_
      refine lv_iload_n hx hb dX11_cost_20 rfl (lv_at hl 1 rfl) ?_
      refine x_ialdN cx hk hw (hm.2 11 _ rfl) (by omega) (by decide) dX11_cost_21 ?_
      refine x_rdV (av := [.int (nI (qt S q))]) (rest := []) cx hk hw (hm.1) cv_RX11_109_10 (m_pages S m hm hS (qt S q) (by first | assumption | omega) (by first | assumption | omega)) hl.1 rfl rfl (Nat.le_of_ble_eq_true rfl) ⟨by decide, by decide⟩ ⟨Nat.zero_le _, Nat.zero_le _⟩ dX11_cost_22 ?_
      exact x_iret cx hr hlk dX11_cost_25 ((congrArg (fun z => some (Value.int (nI z))) (show s_up ((sT S (qt S q)).1 5) ((sT S (qt S q)).1 2) = m_pc S q p from by rw [m_pc, if_pos (by assumption)]; rfl)).trans hvv)
  · skip
    exact absurd (by assumption : true = false) (by decide)
set_option maxHeartbeats 4000000 in
set_option maxRecDepth 100000 in
theorem m_cost_ {l : Launch} {G : x_G} {lo : x_L} {co : x_C} (S : St) (m : Nat → Nat → Int32) (hm : isM G lo co S m) (hS : Sok S) (hM : Mok S m) (q a : Int32) : x_Rd l G lo co yX11_cost cX11_cost 3 (some .int) 6 [.ref (lo (0)), .int (q), .int (a)] (some (.int (P_cost S q a))) := by
  refine x_enter RX11 rfl (by decide) (Nat.le_of_ble_eq_true rfl) ?_
  intro pp ee ss mm bb mt cd ls cx hk hw hr hlk hl
  have hl : lv_has ls 3 [(0, .ref (lo (0))), (1, .int (q)), (2, .int (a))] := hl
  generalize hav : ([.ref (lo (0)), .int (q), .int (a)] : List Value).toArray = av at cx ⊢
  generalize hvv : (some (.int (P_cost S q a)) : Option Value) = vv
  have hx := cx.1
  have hb := cx.2.1
  have hown := cx.2.2.2.1
  have hts := cx.2.2.2.2
  obtain ⟨s1, s2, s3, s4, s5, s6⟩ := id hS
  refine lv_aload_n hx hb dX11_cost_0 rfl (lv_at hl 0 rfl) ?_
  refine lv_iload_n hx hb dX11_cost_1 rfl (lv_at hl 1 rfl) ?_
  refine x_rdV (av := [.int (q)]) (rest := []) cx hk hw (hm.1) cv_RX11_120_10 (m_isQ S m hm hS q) hl.1 rfl rfl (Nat.le_of_ble_eq_true rfl) ⟨by decide, by decide⟩ ⟨Nat.zero_le _, Nat.zero_le _⟩ dX11_cost_2 ?_
  refine x_if_ne (tgt := 10) cx dX11_cost_5 (by decide) (fun h5_1 => ?_) (fun h5_1 => ?_)
  · skip
    obtain ⟨q1, hq1, hq3⟩ := x_in_ex (n := sn S 0) (q := q) (by omega) (by assumption)
    rw [hq3] at hl
    obtain ⟨v1, v2, hQ⟩ := s5 q1 hq1
    have hTq := (s1 _ v1).1 v2
    refine lv_iload_n hx hb dX11_cost_10 rfl (lv_at hl 2 rfl) ?_
    refine lv_iconst (v := (-1)) hx hb dX11_cost_11 rfl ?_
    refine lv_icmp_ne (tgt := 26) hx hb dX11_cost_12 (by decide) (fun h12_2 => ?_) (fun h12_2 => ?_)
    · skip
      refine lv_aload_n hx hb dX11_cost_26 rfl (lv_at hl 0 rfl) ?_
      refine lv_iload_n hx hb dX11_cost_27 rfl (lv_at hl 2 rfl) ?_
      refine x_rdV (av := [.int (a)]) (rest := []) cx hk hw (hm.1) cv_RX11_137_10 (m_isA S m hm hS a) hl.1 rfl rfl (Nat.le_of_ble_eq_true rfl) ⟨by decide, by decide⟩ ⟨Nat.zero_le _, Nat.zero_le _⟩ dX11_cost_28 ?_
      refine x_if_eq (tgt := 52) cx dX11_cost_31 (by decide) (fun h31_3 => ?_) (fun h31_3 => ?_)
      · skip
        refine lv_iconst (v := (-1)) hx hb dX11_cost_52 rfl ?_
        exact x_iret cx hr hlk dX11_cost_53 ((congrArg (fun z => some (Value.int z)) (show (-1) = P_cost S q a from by first | (rw [P_cost, if_pos (by assumption), if_neg (by assumption), if_pos ⟨by assumption, by rw [hq3, ha3, nI_clamp (by omega), nI_clamp (by omega)]; assumption⟩, hq3, ha3, nI_clamp (by omega), nI_clamp (by omega)]) | (rw [P_cost, if_pos (by assumption), if_neg (by assumption), if_neg (fun w => Bool.noConfusion ((by assumption : x_in (sn S 1) a = false).symm.trans w.1))]) | (rw [P_cost, if_pos (by assumption), if_neg (by assumption), if_neg (fun w => by have w2 := w.2; rw [hq3, ha3, nI_clamp (by omega), nI_clamp (by omega)] at w2; exact Bool.noConfusion ((by assumption : m_helps S q1 a1 = false).symm.trans w2))]))).trans hvv)
      · skip
        obtain ⟨a1, ha1, ha3⟩ := x_in_ex (n := sn S 1) (q := a) (by omega) (by assumption)
        rw [ha3] at hl
        refine lv_aload_n hx hb dX11_cost_34 rfl (lv_at hl 0 rfl) ?_
        refine lv_iload_n hx hb dX11_cost_35 rfl (lv_at hl 1 rfl) ?_
        refine lv_iload_n hx hb dX11_cost_36 rfl (lv_at hl 2 rfl) ?_
        refine x_rdV (av := [.int (nI q1), .int (nI a1)]) (rest := []) cx hk hw (hm.1) cv_RX11_167_10 (m_help S m hm hS hM q1 a1 (by omega) (by omega)) hl.1 rfl rfl (Nat.le_of_ble_eq_true rfl) ⟨by decide, by decide⟩ ⟨Nat.zero_le _, Nat.zero_le _⟩ dX11_cost_37 ?_
        refine x_if_eq (tgt := 52) cx dX11_cost_40 (by decide) (fun h40_4 => ?_) (fun h40_4 => ?_)
        · skip
          refine lv_iconst (v := (-1)) hx hb dX11_cost_52 rfl ?_
          exact x_iret cx hr hlk dX11_cost_53 ((congrArg (fun z => some (Value.int z)) (show (-1) = P_cost S q a from by first | (rw [P_cost, if_pos (by assumption), if_neg (by assumption), if_pos ⟨by assumption, by rw [hq3, ha3, nI_clamp (by omega), nI_clamp (by omega)]; assumption⟩, hq3, ha3, nI_clamp (by omega), nI_clamp (by omega)]) | (rw [P_cost, if_pos (by assumption), if_neg (by assumption), if_neg (fun w => Bool.noConfusion ((by assumption : x_in (sn S 1) a = false).symm.trans w.1))]) | (rw [P_cost, if_pos (by assumption), if_neg (by assumption), if_neg (fun w => by have w2 := w.2; rw [hq3, ha3, nI_clamp (by omega), nI_clamp (by omega)] at w2; exact Bool.noConfusion ((by assumption : m_helps S q1 a1 = false).symm.trans w2))]))).trans hvv)
        · skip
          have hsame := m_helps_same (by assumption)
          refine lv_aload_n hx hb dX11_cost_43 rfl (lv_at hl 0 rfl) ?_
          refine lv_iload_n hx hb dX11_cost_44 rfl (lv_at hl 1 rfl) ?_
          refine lv_iload_n hx hb dX11_cost_45 rfl (lv_at hl 2 rfl) ?_
          refine x_rdV (av := [.int (nI q1), .int (nI a1)]) (rest := []) cx hk hw (hm.1) cv_RX11_170_10 (m_costOf S m hm hS hM q1 a1 (by omega) (by omega) (by assumption)) hl.1 rfl rfl (Nat.le_of_ble_eq_true rfl) ⟨by decide, by decide⟩ ⟨Nat.zero_le _, Nat.zero_le _⟩ dX11_cost_46 ?_
          refine lv_goto (tgt := 53) hx hb dX11_cost_49 (by decide) ?_
          exact x_iret cx hr hlk dX11_cost_53 ((congrArg (fun z => some (Value.int z)) (show nI (m_cost S q1 a1) = P_cost S q a from by first | (rw [P_cost, if_pos (by assumption), if_neg (by assumption), if_pos ⟨by assumption, by rw [hq3, ha3, nI_clamp (by omega), nI_clamp (by omega)]; assumption⟩, hq3, ha3, nI_clamp (by omega), nI_clamp (by omega)]) | (rw [P_cost, if_pos (by assumption), if_neg (by assumption), if_neg (fun w => Bool.noConfusion ((by assumption : x_in (sn S 1) a = false).symm.trans w.1))]) | (rw [P_cost, if_pos (by assumption), if_neg (by assumption), if_neg (fun w => by have w2 := w.2; rw [hq3, ha3, nI_clamp (by omega), nI_clamp (by omega)] at w2; exact Bool.noConfusion ((by assumption : m_helps S q1 a1 = false).symm.trans w2))]))).trans hvv)
    · skip
      refine lv_aload_n hx hb dX11_cost_15 rfl (lv_at hl 0 rfl) ?_
      refine lv_aload_n hx hb dX11_cost_16 rfl (lv_at hl 0 rfl) ?_
      refine x_get cx hk hw (hm.1) f_RX11_37_10 rfl dX11_cost_17 ?_
      refine lv_iload_n hx hb dX11_cost_20 rfl (lv_at hl 1 rfl) ?_
      refine x_ialdN cx hk hw (hm.2 11 _ rfl) (by omega) (by decide) dX11_cost_21 ?_
      refine x_rdV (av := [.int (nI (qt S q1))]) (rest := []) cx hk hw (hm.1) cv_RX11_109_10 (m_pages S m hm hS (qt S q1) (by first | assumption | omega) (by first | assumption | omega)) hl.1 rfl rfl (Nat.le_of_ble_eq_true rfl) ⟨by decide, by decide⟩ ⟨Nat.zero_le _, Nat.zero_le _⟩ dX11_cost_22 ?_
      exact x_iret cx hr hlk dX11_cost_25 ((congrArg (fun z => some (Value.int z)) (show nI (s_up ((sT S (qt S q1)).1 5) ((sT S (qt S q1)).1 2)) = P_cost S q a from by rw [P_cost, if_pos (by assumption), if_pos (by assumption), hq3, nI_clamp (by omega)]; rfl)).trans hvv)
  · skip
    refine lv_iconst (v := (-1)) hx hb dX11_cost_8 rfl ?_
    exact x_iret cx hr hlk dX11_cost_9 ((congrArg (fun z => some (Value.int z)) (show (-1) = P_cost S q a from by simp [P_cost, *])).trans hvv)
set_option maxHeartbeats 4000000 in
set_option maxRecDepth 100000 in
theorem m_planOf {l : Launch} {G : x_G} {lo : x_L} {co : x_C} (S : St) (m : Nat → Nat → Int32) (hm : isM G lo co S m) (hS : Sok S) (hM : Mok S m) (q s : Nat) (hq_ : q < sn S 0) (hs_ : s < 2 ^ 31) : x_Rd l G lo co yX11_planOf cX11_planOf 5 (some .int) 7 [.ref (lo (0)), .int (nI q), .int (nI s)] (some (.int (nO (m_pl S q s (sn S 1))))) := by
  refine x_enter RX11 rfl (by decide) (Nat.le_of_ble_eq_true rfl) ?_
  intro pp ee ss mm bb mt cd ls cx hk hw hr hlk hl
  have hl : lv_has ls 5 [(0, .ref (lo (0))), (1, .int (nI q)), (2, .int (nI s))] := hl
  generalize hav : ([.ref (lo (0)), .int (nI q), .int (nI s)] : List Value).toArray = av at cx ⊢
  generalize hvv : (some (.int (nO (m_pl S q s (sn S 1)))) : Option Value) = vv
  have hx := cx.1
  have hb := cx.2.1
  have hown := cx.2.2.2.1
  have hts := cx.2.2.2.2
  obtain ⟨s1, s2, s3, s4, s5, s6⟩ := id hS
  obtain ⟨v1, v2, hQ⟩ := s5 q hq_
  have hTq := (s1 _ v1).1 v2
  refine lv_iconst (v := (-1)) hx hb dX11_planOf_0 rfl ?_
  refine lv_istore_n (lv' := [(3, .int ((-1))), (0, .ref (lo (0))), (1, .int (nI q)), (2, .int (nI s))]) hx hb dX11_planOf_1 rfl hl (by decide) rfl (fun ls hl => ?_)
  refine lv_iconst (v := nI 0) hx hb dX11_planOf_2 rfl ?_
  refine lv_istore (lv' := [(4, .int (nI 0)), (3, .int ((-1))), (0, .ref (lo (0))), (1, .int (nI q)), (2, .int (nI s))]) hx hb dX11_planOf_3 hl (by decide) rfl (fun ls hl => ?_)
  have L5_1 : ∀ (n_ : Nat) (f : Nat) (k : Nat), (k ≤ sn S 1) → (f = m_pl S q s k) → sn S 1 - k < n_ → ∀ (ls : Array Slot), lv_has ls 5 [(4, .int (nI k)), (3, .int (nO f)), (0, .ref (lo (0))), (1, .int (nI q)), (2, .int (nI s))] → x_w l 7 pp ee ss mm av bb mt cd vv 5 ls [] := by
    intro n_
    induction n_ with
    | zero => intro f k hv hf hm_ ls hl; exact absurd hm_ (Nat.not_lt_zero _)
    | succ n_ ih5_1 =>
      intro f k hv hf hm_ ls hl
      refine lv_iload hx hb dX11_planOf_5 (lv_at hl 0 rfl) ?_
      refine lv_aload_n hx hb dX11_planOf_7 rfl (lv_at hl 2 rfl) ?_
      refine x_get cx hk hw (hm.1) f_RX11_123_10 rfl dX11_planOf_8 ?_
      refine x_icmp_ge (tgt := 58) cx dX11_planOf_11 (by decide) (by omega) (fun h11_2 => ?_) (fun h11_2 => ?_)
      · skip
        refine lv_iload_n hx hb dX11_planOf_58 rfl (lv_at hl 1 rfl) ?_
        exact x_iret cx hr hlk dX11_planOf_59 ((congrArg (fun z => some (Value.int z)) (show nO f = nO (m_pl S q s (sn S 1)) from by rw [hf, show sn S 1 = k by omega])).trans hvv)
      · skip
        refine lv_iload_n hx hb dX11_planOf_14 rfl (lv_at hl 4 rfl) ?_
        refine lv_iload hx hb dX11_planOf_15 (lv_at hl 0 rfl) ?_
        refine x_rdS (av := [.int (nI s), .int (nI k)]) (rest := []) cx hk hw cs_RX11_97 (m_isIn s k (by omega) (by omega)) hl.1 rfl rfl (Nat.le_of_ble_eq_true rfl) ⟨by decide, by decide⟩ ⟨Nat.zero_le _, Nat.zero_le _⟩ dX11_planOf_17 ?_
        refine x_if_eq (tgt := 52) cx dX11_planOf_20 (by decide) (fun h20_3 => ?_) (fun h20_3 => ?_)
        · skip
          refine lv_iinc (v := nI (k + 1)) (lv' := [(4, .int (nI (k + 1))), (3, .int (nO f)), (0, .ref (lo (0))), (1, .int (nI q)), (2, .int (nI s))]) hx hb dX11_planOf_52 hl (k := 0) rfl (nI_add _ 1) (by decide) rfl (fun ls hl => ?_)
          refine lv_goto (tgt := 5) hx hb dX11_planOf_55 (by decide) ?_
          exact ih5_1 f (k + 1) (by omega) (by rw [m_pl, ← hf]; first | (rw [if_pos ⟨by assumption, by assumption, by omega⟩]; done) | (rw [if_neg (fun w => absurd w.2.2 (by omega))]; done) | (rw [if_neg (fun w => Bool.noConfusion ((by assumption : s.testBit k = false).symm.trans w.1))]; done) | (rw [if_neg (fun w => Bool.noConfusion ((by assumption : m_helps S q k = false).symm.trans w.2.1))])) (by omega) _ (lv_sub hl [0, 1, 2, 3, 4] rfl)
        · skip
          refine lv_aload_n hx hb dX11_planOf_23 rfl (lv_at hl 2 rfl) ?_
          refine lv_iload_n hx hb dX11_planOf_24 rfl (lv_at hl 3 rfl) ?_
          refine lv_iload hx hb dX11_planOf_25 (lv_at hl 0 rfl) ?_
          refine x_rdV (av := [.int (nI q), .int (nI k)]) (rest := []) cx hk hw (hm.1) cv_RX11_167_10 (m_help S m hm hS hM q k (by omega) (by omega)) hl.1 rfl rfl (Nat.le_of_ble_eq_true rfl) ⟨by decide, by decide⟩ ⟨Nat.zero_le _, Nat.zero_le _⟩ dX11_planOf_27 ?_
          refine x_if_eq (tgt := 52) cx dX11_planOf_30 (by decide) (fun h30_4 => ?_) (fun h30_4 => ?_)
          · skip
            refine lv_iinc (v := nI (k + 1)) (lv' := [(4, .int (nI (k + 1))), (3, .int (nO f)), (0, .ref (lo (0))), (1, .int (nI q)), (2, .int (nI s))]) hx hb dX11_planOf_52 hl (k := 0) rfl (nI_add _ 1) (by decide) rfl (fun ls hl => ?_)
            refine lv_goto (tgt := 5) hx hb dX11_planOf_55 (by decide) ?_
            exact ih5_1 f (k + 1) (by omega) (by rw [m_pl, ← hf]; first | (rw [if_pos ⟨by assumption, by assumption, by omega⟩]; done) | (rw [if_neg (fun w => absurd w.2.2 (by omega))]; done) | (rw [if_neg (fun w => Bool.noConfusion ((by assumption : s.testBit k = false).symm.trans w.1))]; done) | (rw [if_neg (fun w => Bool.noConfusion ((by assumption : m_helps S q k = false).symm.trans w.2.1))])) (by omega) _ (lv_sub hl [0, 1, 2, 3, 4] rfl)
          · skip
            have hsame := m_helps_same (by assumption)
            refine lv_aload_n hx hb dX11_planOf_33 rfl (lv_at hl 2 rfl) ?_
            refine lv_iload_n hx hb dX11_planOf_34 rfl (lv_at hl 3 rfl) ?_
            refine lv_iload hx hb dX11_planOf_35 (lv_at hl 0 rfl) ?_
            refine x_rdV (av := [.int (nI q), .int (nI k)]) (rest := []) cx hk hw (hm.1) cv_RX11_170_10 (m_costOf S m hm hS hM q k (by omega) (by omega) (by assumption)) hl.1 rfl rfl (Nat.le_of_ble_eq_true rfl) ⟨by decide, by decide⟩ ⟨Nat.zero_le _, Nat.zero_le _⟩ dX11_planOf_37 ?_
            have hpk := m_pl_le S q s k
            rw [← hf] at hpk
            have hp_ : f = 0 ∨ (f - 1 < sn S 1 ∧ m_helps S q (f - 1) = true) := (Nat.eq_zero_or_pos f).elim Or.inl (fun w => Or.inr ⟨by omega, hpk.2 (by omega)⟩)
            refine lv_aload_n hx hb dX11_planOf_40 rfl (lv_at hl 2 rfl) ?_
            refine lv_iload_n hx hb dX11_planOf_41 rfl (lv_at hl 3 rfl) ?_
            refine lv_iload_n hx hb dX11_planOf_42 rfl (lv_at hl 1 rfl) ?_
            refine x_rdV (av := [.int (nI q), .int (nO f)]) (rest := [.int (nI (m_cost S q k))]) cx hk hw (hm.1) cv_RX11_173_10 (m_costP S m hm hS hM q f (by omega) (by assumption)) hl.1 rfl rfl (Nat.le_of_ble_eq_true rfl) ⟨by decide, by decide⟩ ⟨Nat.zero_le _, Nat.zero_le _⟩ dX11_planOf_43 ?_
            have hc1 : m_cost S q k ≤ 121 := by unfold m_cost; rw [hsame]; obtain ⟨u1, u2, hA⟩ := s6 k (by omega); rw [hsame] at hA; exact a_cost_le hTq hQ hA
            have hc2 : m_pc S q f ≤ 121 := by rw [hf, m_pc_lc]; exact Nat.le_trans (m_lc_le hS hq_ k) (by decide)
            refine x_icmp_ge (tgt := 52) cx dX11_planOf_46 (by decide) (by omega) (fun h46_5 => ?_) (fun h46_5 => ?_)
            · skip
              refine lv_iinc (v := nI (k + 1)) (lv' := [(4, .int (nI (k + 1))), (3, .int (nO f)), (0, .ref (lo (0))), (1, .int (nI q)), (2, .int (nI s))]) hx hb dX11_planOf_52 hl (k := 0) rfl (nI_add _ 1) (by decide) rfl (fun ls hl => ?_)
              refine lv_goto (tgt := 5) hx hb dX11_planOf_55 (by decide) ?_
              exact ih5_1 f (k + 1) (by omega) (by rw [m_pl, ← hf]; first | (rw [if_pos ⟨by assumption, by assumption, by omega⟩]; done) | (rw [if_neg (fun w => absurd w.2.2 (by omega))]; done) | (rw [if_neg (fun w => Bool.noConfusion ((by assumption : s.testBit k = false).symm.trans w.1))]; done) | (rw [if_neg (fun w => Bool.noConfusion ((by assumption : m_helps S q k = false).symm.trans w.2.1))])) (by omega) _ (lv_sub hl [0, 1, 2, 3, 4] rfl)
            · skip
              refine lv_iload hx hb dX11_planOf_49 (lv_at hl 0 rfl) ?_
              refine lv_istore_n (lv' := [(3, .int (nI k)), (4, .int (nI k)), (0, .ref (lo (0))), (1, .int (nI q)), (2, .int (nI s))]) hx hb dX11_planOf_51 rfl hl (by decide) rfl (fun ls hl => ?_)
              refine lv_iinc (v := nI (k + 1)) (lv' := [(4, .int (nI (k + 1))), (3, .int (nI k)), (0, .ref (lo (0))), (1, .int (nI q)), (2, .int (nI s))]) hx hb dX11_planOf_52 hl (k := 1) rfl (nI_add _ 1) (by decide) rfl (fun ls hl => ?_)
              refine lv_goto (tgt := 5) hx hb dX11_planOf_55 (by decide) ?_
              exact ih5_1 (k + 1) (k + 1) (by omega) (by rw [m_pl, ← hf]; first | (rw [if_pos ⟨by assumption, by assumption, by omega⟩]; done) | (rw [if_neg (fun w => absurd w.2.2 (by omega))]; done) | (rw [if_neg (fun w => Bool.noConfusion ((by assumption : s.testBit k = false).symm.trans w.1))]; done) | (rw [if_neg (fun w => Bool.noConfusion ((by assumption : m_helps S q k = false).symm.trans w.2.1))])) (by omega) _ (lv_sub hl [0, 1, 2, 3, 4] rfl)
  exact L5_1 (_ + 1) 0 0 (by omega) (by rfl) (Nat.lt_succ_self _) _ (lv_sub hl [0, 1, 2, 3, 4] rfl)
set_option maxHeartbeats 4000000 in
set_option maxRecDepth 100000 in
theorem m_plan_ {l : Launch} {G : x_G} {lo : x_L} {co : x_C} (S : St) (m : Nat → Nat → Int32) (hm : isM G lo co S m) (hS : Sok S) (hM : Mok S m) (q : Int32) : x_Rd l G lo co yX11_plan cX11_plan 2 (some .int) 8 [.ref (lo (0)), .int (q)] (some (.int (P_plan S q))) := by
  refine x_enter RX11 rfl (by decide) (Nat.le_of_ble_eq_true rfl) ?_
  intro pp ee ss mm bb mt cd ls cx hk hw hr hlk hl
  have hl : lv_has ls 2 [(0, .ref (lo (0))), (1, .int (q))] := hl
  generalize hav : ([.ref (lo (0)), .int (q)] : List Value).toArray = av at cx ⊢
  generalize hvv : (some (.int (P_plan S q)) : Option Value) = vv
  have hx := cx.1
  have hb := cx.2.1
  have hown := cx.2.2.2.1
  have hts := cx.2.2.2.2
  obtain ⟨s1, s2, s3, s4, s5, s6⟩ := id hS
  have hb12 := Sok.b12 hS
  refine lv_aload_n hx hb dX11_plan_0 rfl (lv_at hl 0 rfl) ?_
  refine lv_iload_n hx hb dX11_plan_1 rfl (lv_at hl 1 rfl) ?_
  refine x_rdV (av := [.int (q)]) (rest := []) cx hk hw (hm.1) cv_RX11_120_10 (m_isQ S m hm hS q) hl.1 rfl rfl (Nat.le_of_ble_eq_true rfl) ⟨by decide, by decide⟩ ⟨Nat.zero_le _, Nat.zero_le _⟩ dX11_plan_2 ?_
  refine x_if_eq (tgt := 20) cx dX11_plan_5 (by decide) (fun h5_1 => ?_) (fun h5_1 => ?_)
  · skip
    refine lv_bipush (v := (-2)) hx hb dX11_plan_20 rfl ?_
    exact x_iret cx hr hlk dX11_plan_22 ((congrArg (fun z => some (Value.int z)) (show (-2) = P_plan S q from by first | (rw [P_plan, if_pos (by assumption), hq3, nI_clamp (by omega)]; rfl) | (simp [P_plan, *]))).trans hvv)
  · skip
    obtain ⟨q1, hq1, hq3⟩ := x_in_ex (n := sn S 0) (q := q) (by omega) (by assumption)
    rw [hq3] at hl
    refine lv_aload_n hx hb dX11_plan_8 rfl (lv_at hl 0 rfl) ?_
    refine lv_iload_n hx hb dX11_plan_9 rfl (lv_at hl 1 rfl) ?_
    refine lv_aload_n hx hb dX11_plan_10 rfl (lv_at hl 0 rfl) ?_
    refine x_get cx hk hw (hm.1) f_RX11_140_10 rfl dX11_plan_11 ?_
    refine x_rdV (av := [.int (nI q1), .int (nI (sn S 2))]) (rest := []) cx hk hw (hm.1) cv_RX11_176_10 (m_planOf S m hm hS hM q1 (sn S 2) (by omega) (by omega)) hl.1 rfl rfl (Nat.le_of_ble_eq_true rfl) ⟨by decide, by decide⟩ ⟨Nat.zero_le _, Nat.zero_le _⟩ dX11_plan_14 ?_
    refine lv_goto (tgt := 22) hx hb dX11_plan_17 (by decide) ?_
    exact x_iret cx hr hlk dX11_plan_22 ((congrArg (fun z => some (Value.int z)) (show nO (m_pl S q1 (sn S 2) (sn S 1)) = P_plan S q from by first | (rw [P_plan, if_pos (by assumption), hq3, nI_clamp (by omega)]; rfl) | (simp [P_plan, *]))).trans hvv)
