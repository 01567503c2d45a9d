set_option maxHeartbeats 4000000 in
set_option maxRecDepth 100000 in
theorem m_totW {l : Launch} {G : x_G} {lo : x_L} {co : x_C} (S : St) (m : Nat → Nat → Int32) (hm : isM G lo co S m) (hS : Sok S) (hM : Mok S m) (hWk : Wok S m) (s : Nat) (hs_ : s < 2 ^ 31) : x_Rd l G lo co yX11_totalWorked cX11_totalWorked 7 (some .long) 3 [.ref (lo (0)), .int (nI s)] (some (.long (lN (m_tot S s)))) := by
  refine x_enter RX11 rfl (by decide) (Nat.le_of_ble_eq_true rfl) ?_
  intro pp ee ss mm bb mt cd ls cx hk hw hr hlk hl
  have hl : lv_has ls 7 [(0, .ref (lo (0))), (1, .int (nI s))] := hl
  generalize hav : ([.ref (lo (0)), .int (nI s)] : List Value).toArray = av at cx ⊢
  generalize hvv : (some (.long (lN (m_tot S s))) : Option Value) = vv
  have hx := cx.1
  have hb := cx.2.1
  have hown := cx.2.2.2.1
  have hts := cx.2.2.2.2
  obtain ⟨s1, s2, s3, s4, s5, s6⟩ := id hS
  refine lv_lconst (v := lN 0) hx hb dX11_totalWorked_0 rfl ?_
  refine lv_lstore_n (lv' := [(2, .long (lN 0)), (0, .ref (lo (0))), (1, .int (nI s))]) hx hb dX11_totalWorked_1 rfl hl (by decide) rfl (fun ls hl => ?_)
  refine lv_iconst (v := nI 0) hx hb dX11_totalWorked_2 rfl ?_
  refine lv_istore (lv' := [(4, .int (nI 0)), (2, .long (lN 0)), (0, .ref (lo (0))), (1, .int (nI s))]) hx hb dX11_totalWorked_3 hl (by decide) rfl (fun ls hl => ?_)
  have L5_1 : ∀ (n_ : Nat) (f : Nat) (k : Nat), (k ≤ sn S 0) → (f = m_tq S s k) → sn S 0 - k < n_ → ∀ (ls : Array Slot), lv_has ls 7 [(4, .int (nI k)), (2, .long (lN f)), (0, .ref (lo (0))), (1, .int (nI s))] → x_w l 3 pp ee ss mm av bb mt cd vv 5 ls [] := by
    intro n_
    induction n_ with
    | zero => intro f k hv hf hm_ ls hl; exact absurd hm_ (Nat.not_lt_zero _)
    | succ n_ ih5_1 =>
      intro f k hv hf hm_ ls hl
      refine lv_iload hx hb dX11_totalWorked_5 (lv_at hl 0 rfl) ?_
      refine lv_aload_n hx hb dX11_totalWorked_7 rfl (lv_at hl 2 rfl) ?_
      refine x_get cx hk hw (hm.1) f_RX11_116_10 rfl dX11_totalWorked_8 ?_
      refine x_icmp_ge (tgt := 127) cx dX11_totalWorked_11 (by decide) (by omega) (fun h11_2 => ?_) (fun h11_2 => ?_)
      · skip
        refine lv_iconst (v := nI 0) hx hb dX11_totalWorked_127 rfl ?_
        refine lv_istore (lv' := [(4, .int (nI 0)), (2, .long (lN f)), (0, .ref (lo (0))), (1, .int (nI s))]) hx hb dX11_totalWorked_128 hl (by decide) rfl (fun ls hl => ?_)
        have L130_3 : ∀ (n_ : Nat) (g : Nat) (k : Nat), (k ≤ sn S 1) → (g = m_tq S s (sn S 0) + m_tk S s k) → sn S 1 - k < n_ → ∀ (ls : Array Slot), lv_has ls 7 [(4, .int (nI k)), (2, .long (lN g)), (0, .ref (lo (0))), (1, .int (nI s))] → x_w l 3 pp ee ss mm av bb mt cd vv 130 ls [] := by
          intro n_
          induction n_ with
          | zero => intro g k hv hg hm_ ls hl; exact absurd hm_ (Nat.not_lt_zero _)
          | succ n_ ih130_3 =>
            intro g k hv hg hm_ ls hl
            refine lv_iload hx hb dX11_totalWorked_130 (lv_at hl 0 rfl) ?_
            refine lv_aload_n hx hb dX11_totalWorked_132 rfl (lv_at hl 2 rfl) ?_
            refine x_get cx hk hw (hm.1) f_RX11_123_10 rfl dX11_totalWorked_133 ?_
            refine x_icmp_ge (tgt := 182) cx dX11_totalWorked_136 (by decide) (by omega) (fun h136_4 => ?_) (fun h136_4 => ?_)
            · skip
              refine lv_lload_n hx hb dX11_totalWorked_182 rfl (lv_at hl 1 rfl) ?_
              exact x_lret cx hr hlk dX11_totalWorked_183 ((congrArg (fun z => some (Value.long (lN z))) (show g = m_tot S s from by rw [hg, show k = sn S 1 by omega]; rfl)).trans hvv)
            · skip
              refine lv_lload_n hx hb dX11_totalWorked_139 rfl (lv_at hl 1 rfl) ?_
              refine lv_iload_n hx hb dX11_totalWorked_140 rfl (lv_at hl 3 rfl) ?_
              refine lv_iload hx hb dX11_totalWorked_141 (lv_at hl 0 rfl) ?_
              refine x_rdS (av := [.int (nI s), .int (nI k)]) (rest := [.long (lN g)]) cx hk hw cs_RX11_97 (m_isIn s k (by omega) (by omega)) hl.1 rfl rfl (Nat.le_of_ble_eq_true rfl) ⟨by decide, by decide⟩ ⟨Nat.zero_le _, Nat.zero_le _⟩ dX11_totalWorked_143 ?_
              have J174_5 : ∀ (y5_s0 : Nat) (ey5_s0 : y5_s0 = if (s.testBit k) = true then ((a_keep (aA S k)) * ((sT S (ao S k)).1 4)) else 0) (ls : Array Slot), lv_has ls 7 [(4, .int (nI k)), (2, .long (lN g)), (0, .ref (lo (0))), (1, .int (nI s))] → x_w l 3 pp ee ss mm av bb mt cd vv 174 ls [.long (lN y5_s0), .long (lN g)] := by
                intro y5_s0 ey5_s0 ls hl
                have dy5_s0 : ((s.testBit k) = true ∧ (y5_s0 = ((a_keep (aA S k)) * ((sT S (ao S k)).1 4)))) ∨ (¬ ((s.testBit k) = true) ∧ (y5_s0 = 0)) := by rw [ey5_s0]; repeat' (first | (exact rfl) | (split <;> first | (refine Or.inl ⟨by assumption, ?_⟩) | (refine Or.inr ⟨by assumption, ?_⟩)))
                refine x_laddN cx dX11_totalWorked_174 ?_
                refine lv_lstore_n (lv' := [(2, .long (lN (g + y5_s0))), (4, .int (nI k)), (0, .ref (lo (0))), (1, .int (nI s))]) hx hb dX11_totalWorked_175 rfl hl (by decide) rfl (fun ls hl => ?_)
                refine lv_iinc (v := nI (k + 1)) (lv' := [(4, .int (nI (k + 1))), (2, .long (lN (g + y5_s0))), (0, .ref (lo (0))), (1, .int (nI s))]) hx hb dX11_totalWorked_176 hl (k := 1) rfl (nI_add _ 1) (by decide) rfl (fun ls hl => ?_)
                refine lv_goto (tgt := 130) hx hb dX11_totalWorked_179 (by decide) ?_
                exact ih130_3 (g + y5_s0) (k + 1) (by omega) (by rw [hg, Nat.add_assoc]; congr 1; unfold m_tk; rw [sumN]; congr 1) (by omega) _ (lv_sub hl [0, 1, 2, 3] rfl)
              refine x_if_eq (tgt := 173) cx dX11_totalWorked_146 (by decide) (fun h146_6 => ?_) (fun h146_6 => ?_)
              · skip
                refine lv_lconst (v := lN 0) hx hb dX11_totalWorked_173 rfl ?_
                exact J174_5 0 (by rw [if_neg (fun q => Bool.noConfusion (h146_6.symm.trans q))]) _ (lv_sub hl [0, 1, 2, 3] rfl)
              · skip
                obtain ⟨u1, u2, hA⟩ := s6 k (by omega)
                have hT := (s1 _ u1).1 u2
                obtain ⟨k1, k2, k3, k4, k5, k6, k7, k8, k9, k0⟩ := id hT
                have hkp : a_keep (aA S k) ≤ 4 := by unfold a_keep; split <;> (try split) <;> (try split) <;> omega
                refine lv_aload_n hx hb dX11_totalWorked_149 rfl (lv_at hl 2 rfl) ?_
                refine lv_iload hx hb dX11_totalWorked_150 (lv_at hl 0 rfl) ?_
                refine x_rdV (av := [.int (nI k)]) (rest := [.long (lN g)]) cx hk hw (hm.1) cv_RX11_196_10 (m_keep S m hm hS k (by omega)) hl.1 rfl rfl (Nat.le_of_ble_eq_true rfl) ⟨by decide, by decide⟩ ⟨Nat.zero_le _, Nat.zero_le _⟩ dX11_totalWorked_152 ?_
                refine x_i2lN cx dX11_totalWorked_155 (by omega) ?_
                refine lv_aload_n hx hb dX11_totalWorked_156 rfl (lv_at hl 2 rfl) ?_
                refine x_get cx hk hw (hm.1) f_RX11_34_10 rfl dX11_totalWorked_157 ?_
                refine lv_aload_n hx hb dX11_totalWorked_160 rfl (lv_at hl 2 rfl) ?_
                refine x_get cx hk hw (hm.1) f_RX11_62_10 rfl dX11_totalWorked_161 ?_
                refine lv_iload hx hb dX11_totalWorked_164 (lv_at hl 0 rfl) ?_
                refine x_ialdN cx hk hw (hm.2 21 _ rfl) (by omega) (by decide) dX11_totalWorked_166 ?_
                refine x_ialdN cx hk hw (hm.2 9 _ rfl) (by omega) (by decide) dX11_totalWorked_167 ?_
                refine x_i2lN cx dX11_totalWorked_168 (by omega) ?_
                refine x_lmulN cx dX11_totalWorked_169 ?_
                refine lv_goto (tgt := 174) hx hb dX11_totalWorked_170 (by decide) ?_
                exact J174_5 ((a_keep (aA S k)) * ((sT S (ao S k)).1 4)) (by rw [if_pos h146_6]) _ (lv_sub hl [0, 1, 2, 3] rfl)
        exact L130_3 (_ + 1) f 0 (by omega) (by rw [hf, show k = sn S 0 by omega]; rfl) (Nat.lt_succ_self _) _ (lv_sub hl [0, 1, 2, 3] rfl)
      · skip
        refine lv_aload_n hx hb dX11_totalWorked_14 rfl (lv_at hl 2 rfl) ?_
        refine x_get cx hk hw (hm.1) f_RX11_83_10 rfl dX11_totalWorked_15 ?_
        refine lv_bipush (v := nI 13) hx hb dX11_totalWorked_18 rfl ?_
        refine lv_iload hx hb dX11_totalWorked_20 (lv_at hl 0 rfl) ?_
        refine x_imulN cx dX11_totalWorked_22 ?_
        refine lv_bipush (v := nI 12) hx hb dX11_totalWorked_23 rfl ?_
        refine x_iaddN cx dX11_totalWorked_25 ?_
        refine x_ialdE (x := nI (m_plain S k)) cx hk hw (hm.2 28 _ rfl) (by omega) (by decide) ((hWk.1 k (by omega)).1) dX11_totalWorked_26 ?_
        refine lv_istore (lv' := [(5, .int (nI (m_plain S k))), (4, .int (nI k)), (2, .long (lN f)), (0, .ref (lo (0))), (1, .int (nI s))]) hx hb dX11_totalWorked_27 hl (by decide) rfl (fun ls hl => ?_)
        refine lv_iconst (v := nI 0) hx hb dX11_totalWorked_29 rfl ?_
        refine lv_istore (lv' := [(6, .int (nI 0)), (5, .int (nI (m_plain S k))), (4, .int (nI k)), (2, .long (lN f)), (0, .ref (lo (0))), (1, .int (nI s))]) hx hb dX11_totalWorked_30 hl (by decide) rfl (fun ls hl => ?_)
        have L32_7 : ∀ (n_ : Nat) (b : Nat) (j : Nat), (j ≤ sn S 1) → (b = m_lc S k s j) → sn S 1 - j < n_ → ∀ (ls : Array Slot), lv_has ls 7 [(6, .int (nI j)), (5, .int (nI b)), (4, .int (nI k)), (2, .long (lN f)), (0, .ref (lo (0))), (1, .int (nI s))] → x_w l 3 pp ee ss mm av bb mt cd vv 32 ls [] := by
          intro n_
          induction n_ with
          | zero => intro b j hj hbb hm_ ls hl; exact absurd hm_ (Nat.not_lt_zero _)
          | succ n_ ih32_7 =>
            intro b j hj hbb hm_ ls hl
            refine lv_iload hx hb dX11_totalWorked_32 (lv_at hl 0 rfl) ?_
            refine lv_aload_n hx hb dX11_totalWorked_34 rfl (lv_at hl 4 rfl) ?_
            refine x_get cx hk hw (hm.1) f_RX11_123_10 rfl dX11_totalWorked_35 ?_
            refine x_icmp_ge (tgt := 106) cx dX11_totalWorked_38 (by decide) (by omega) (fun h38_8 => ?_) (fun h38_8 => ?_)
            · skip
              have hlc2 := m_lc_le (s := s) hS (q := k) (by omega) j
              have hwt := (s5 k (by omega)).2.2.2.2.1
              refine lv_lload_n hx hb dX11_totalWorked_106 rfl (lv_at hl 3 rfl) ?_
              refine lv_aload_n hx hb dX11_totalWorked_107 rfl (lv_at hl 4 rfl) ?_
              refine x_get cx hk hw (hm.1) f_RX11_46_10 rfl dX11_totalWorked_108 ?_
              refine lv_iload hx hb dX11_totalWorked_111 (lv_at hl 2 rfl) ?_
              refine x_ialdN cx hk hw (hm.2 14 _ rfl) (by omega) (by decide) dX11_totalWorked_113 ?_
              refine x_i2lN cx dX11_totalWorked_114 (by omega) ?_
              refine lv_iload hx hb dX11_totalWorked_115 (lv_at hl 1 rfl) ?_
              refine x_i2lN cx dX11_totalWorked_117 (by omega) ?_
              refine x_lmulN cx dX11_totalWorked_118 ?_
              refine x_laddN cx dX11_totalWorked_119 ?_
              refine lv_lstore_n (lv' := [(2, .long (lN (f + (((qQ S k).1 1) * b)))), (6, .int (nI j)), (5, .int (nI b)), (4, .int (nI k)), (0, .ref (lo (0))), (1, .int (nI s))]) hx hb dX11_totalWorked_120 rfl hl (by decide) rfl (fun ls hl => ?_)
              refine lv_iinc (v := nI (k + 1)) (lv' := [(4, .int (nI (k + 1))), (2, .long (lN (f + (((qQ S k).1 1) * b)))), (6, .int (nI j)), (5, .int (nI b)), (0, .ref (lo (0))), (1, .int (nI s))]) hx hb dX11_totalWorked_121 hl (k := 3) rfl (nI_add _ 1) (by decide) rfl (fun ls hl => ?_)
              refine lv_goto (tgt := 5) hx hb dX11_totalWorked_124 (by decide) ?_
              exact ih5_1 (f + (((qQ S k).1 1) * b)) (k + 1) (by omega) (by rw [hf, hbb, show j = sn S 1 by omega]; rfl) (by omega) _ (lv_sub hl [0, 1, 4, 5] rfl)
            · skip
              refine lv_iload_n hx hb dX11_totalWorked_41 rfl (lv_at hl 5 rfl) ?_
              refine lv_iload hx hb dX11_totalWorked_42 (lv_at hl 0 rfl) ?_
              refine x_rdS (av := [.int (nI s), .int (nI j)]) (rest := []) cx hk hw cs_RX11_97 (m_isIn s j (by omega) (by omega)) hl.1 rfl rfl (Nat.le_of_ble_eq_true rfl) ⟨by decide, by decide⟩ ⟨Nat.zero_le _, Nat.zero_le _⟩ dX11_totalWorked_44 ?_
              have J100_9 : ∀ (y9_l5 : Nat) (ey9_l5 : y9_l5 = if (s.testBit j) = true then (if (if m_helps S k j = true then m_cost S k j + 1 else 0) = 0 then b else (if b ≤ (m_cost S k j) then b else (m_cost S k j))) else b) (ls : Array Slot), lv_has ls 7 [(6, .int (nI j)), (5, .int (nI y9_l5)), (4, .int (nI k)), (2, .long (lN f)), (0, .ref (lo (0))), (1, .int (nI s))] → x_w l 3 pp ee ss mm av bb mt cd vv 100 ls [] := by
                intro y9_l5 ey9_l5 ls hl
                refine lv_iinc (v := nI (j + 1)) (lv' := [(6, .int (nI (j + 1))), (5, .int (nI y9_l5)), (4, .int (nI k)), (2, .long (lN f)), (0, .ref (lo (0))), (1, .int (nI s))]) hx hb dX11_totalWorked_100 hl (k := 0) rfl (nI_add _ 1) (by decide) rfl (fun ls hl => ?_)
                refine lv_goto (tgt := 32) hx hb dX11_totalWorked_103 (by decide) ?_
                exact ih32_7 y9_l5 (j + 1) (by omega) (by rw [m_lc, ← hbb]; (try rw [ey9_l5]); by_cases w1 : s.testBit j = true <;> by_cases w2 : m_helps S k j = true <;> simp [w1, w2] <;> (try split) <;> omega) (by omega) _ (lv_sub hl [0, 1, 2, 3, 4, 5] rfl)
              refine x_if_eq (tgt := 100) cx dX11_totalWorked_47 (by decide) (fun h47_10 => ?_) (fun h47_10 => ?_)
              · skip
                exact J100_9 b (by rw [if_neg (fun q => Bool.noConfusion (h47_10.symm.trans q))]) _ (lv_sub hl [0, 1, 2, 3, 4, 5] rfl)
              · skip
                refine lv_aload_n hx hb dX11_totalWorked_50 rfl (lv_at hl 4 rfl) ?_
                refine x_get cx hk hw (hm.1) f_RX11_83_10 rfl dX11_totalWorked_51 ?_
                refine lv_bipush (v := nI 13) hx hb dX11_totalWorked_54 rfl ?_
                refine lv_iload hx hb dX11_totalWorked_56 (lv_at hl 2 rfl) ?_
                refine x_imulN cx dX11_totalWorked_58 ?_
                refine lv_iload hx hb dX11_totalWorked_59 (lv_at hl 0 rfl) ?_
                refine x_iaddN cx dX11_totalWorked_61 ?_
                refine x_ialdE (x := nO (if m_helps S k j = true then m_cost S k j + 1 else 0)) cx hk hw (hm.2 28 _ rfl) (by omega) (by decide) ((hWk.1 k (by omega)).2 j (by omega)) dX11_totalWorked_62 ?_
                refine lv_iconst (v := (-1)) hx hb dX11_totalWorked_63 rfl ?_
                have hcl0 : (if m_helps S k j = true then m_cost S k j + 1 else 0) ≤ 122 := by by_cases hhp : m_helps S k j = true; rw [if_pos hhp]; obtain ⟨u1, u2, hA⟩ := s6 j (by omega); obtain ⟨v1, v2, hQ⟩ := s5 k (by omega); have hsm := m_helps_same hhp; rw [← hsm] at hQ; have := a_cost_le ((s1 _ u1).1 u2) hQ hA; unfold m_cost; omega; rw [if_neg hhp]; omega
                refine x_icmpO1_eq (tgt := 100) cx dX11_totalWorked_64 (by decide) (by omega) (fun h64_11 => ?_) (fun h64_11 => ?_)
                · skip
                  exact J100_9 b (by rw [if_pos h47_10, if_pos h64_11]) _ (lv_sub hl [0, 1, 2, 3, 4, 5] rfl)
                · skip
                  refine lv_aload_n hx hb dX11_totalWorked_67 rfl (lv_at hl 4 rfl) ?_
                  refine x_get cx hk hw (hm.1) f_RX11_83_10 rfl dX11_totalWorked_68 ?_
                  refine lv_bipush (v := nI 13) hx hb dX11_totalWorked_71 rfl ?_
                  refine lv_iload hx hb dX11_totalWorked_73 (lv_at hl 2 rfl) ?_
                  refine x_imulN cx dX11_totalWorked_75 ?_
                  refine lv_iload hx hb dX11_totalWorked_76 (lv_at hl 0 rfl) ?_
                  refine x_iaddN cx dX11_totalWorked_78 ?_
                  refine x_ialdE (x := nO (if m_helps S k j = true then m_cost S k j + 1 else 0)) cx hk hw (hm.2 28 _ rfl) (by omega) (by decide) ((hWk.1 k (by omega)).2 j (by omega)) dX11_totalWorked_79 ?_
                  have hhp : m_helps S k j = true := by cases e_ : m_helps S k j with | true => rfl | false => exact absurd (by rw [e_]; rfl) (by assumption : ¬ (if m_helps S k j = true then m_cost S k j + 1 else 0) = 0)
                  rw [show nO (if m_helps S k j = true then m_cost S k j + 1 else 0) = nI (m_cost S k j) from by rw [if_pos hhp]; rfl]
                  have hcl : m_cost S k j ≤ 121 := by obtain ⟨u1, u2, hA⟩ := s6 j (by omega); obtain ⟨v1, v2, hQ⟩ := s5 k (by omega); have hsm := m_helps_same hhp; rw [← hsm] at hQ; exact a_cost_le ((s1 _ u1).1 u2) hQ hA
                  have hlc := m_lc_le (s := s) hS (q := k) (by omega) j
                  refine lv_iload hx hb dX11_totalWorked_80 (lv_at hl 1 rfl) ?_
                  refine x_icmp_ge (tgt := 100) cx dX11_totalWorked_82 (by decide) (by omega) (fun h82_12 => ?_) (fun h82_12 => ?_)
                  · skip
                    exact J100_9 b (by rw [if_pos h47_10, if_neg h64_11, if_pos h82_12]) _ (lv_sub hl [0, 1, 2, 3, 4, 5] rfl)
                  · skip
                    refine lv_aload_n hx hb dX11_totalWorked_85 rfl (lv_at hl 4 rfl) ?_
                    refine x_get cx hk hw (hm.1) f_RX11_83_10 rfl dX11_totalWorked_86 ?_
                    refine lv_bipush (v := nI 13) hx hb dX11_totalWorked_89 rfl ?_
                    refine lv_iload hx hb dX11_totalWorked_91 (lv_at hl 2 rfl) ?_
                    refine x_imulN cx dX11_totalWorked_93 ?_
                    refine lv_iload hx hb dX11_totalWorked_94 (lv_at hl 0 rfl) ?_
                    refine x_iaddN cx dX11_totalWorked_96 ?_
                    refine x_ialdE (x := nO (if m_helps S k j = true then m_cost S k j + 1 else 0)) cx hk hw (hm.2 28 _ rfl) (by omega) (by decide) ((hWk.1 k (by omega)).2 j (by omega)) dX11_totalWorked_97 ?_
                    have hhp : m_helps S k j = true := by cases e_ : m_helps S k j with | true => rfl | false => exact absurd (by rw [e_]; rfl) (by assumption : ¬ (if m_helps S k j = true then m_cost S k j + 1 else 0) = 0)
                    rw [show nO (if m_helps S k j = true then m_cost S k j + 1 else 0) = nI (m_cost S k j) from by rw [if_pos hhp]; rfl]
                    have hcl : m_cost S k j ≤ 121 := by obtain ⟨u1, u2, hA⟩ := s6 j (by omega); obtain ⟨v1, v2, hQ⟩ := s5 k (by omega); have hsm := m_helps_same hhp; rw [← hsm] at hQ; exact a_cost_le ((s1 _ u1).1 u2) hQ hA
                    have hlc := m_lc_le (s := s) hS (q := k) (by omega) j
                    refine lv_istore (lv' := [(5, .int (nI (m_cost S k j))), (6, .int (nI j)), (4, .int (nI k)), (2, .long (lN f)), (0, .ref (lo (0))), (1, .int (nI s))]) hx hb dX11_totalWorked_98 hl (by decide) rfl (fun ls hl => ?_)
                    exact J100_9 (m_cost S k j) (by rw [if_pos h47_10, if_neg h64_11, if_neg h82_12]) _ (lv_sub hl [1, 0, 2, 3, 4, 5] rfl)
        exact L32_7 (_ + 1) (m_plain S k) 0 (by omega) (by rfl) (Nat.lt_succ_self _) _ (lv_sub hl [0, 1, 2, 3, 4, 5] rfl)
  exact L5_1 (_ + 1) 0 0 (by omega) (by rfl) (Nat.lt_succ_self _) _ (lv_sub hl [0, 1, 2, 3] rfl)
set_option maxHeartbeats 4000000 in
set_option maxRecDepth 100000 in
theorem w_works {l : Launch} {G : x_G} {lo : x_L} (S : St) (m : Nat → Nat → Int32) (hS : Sok S) (hM : Mok S m) : x_Wr l G lo (mco G lo (nS S) (mS S m)) yX11_works cX11_works 3 none 8 0 0 [.ref (lo (0))] (fun (v : Option Value) (lo_ : x_L) (co_ : x_C) => v = none ∧ lo_ = lo ∧ ∃ m1, Mok S m1 ∧ Wok S m1 ∧ co_ = mco G lo (nS S) (mS S m1)) := by
  refine x_wenter RX11 rfl (by decide) (Nat.le_of_ble_eq_true rfl) ?_
  intro pp ee ss mm bb mt cd ls AA cx hk hW hA hr hlk hnm hl
  have hl : lv_has ls 3 [(0, .ref (lo (0)))] := hl
  generalize hav : ([.ref (lo (0))] : List Value).toArray = av at cx ⊢
  generalize hpo : (fun (v : Option Value) (lo_ : x_L) (co_ : x_C) => v = none ∧ lo_ = lo ∧ ∃ m1, Mok S m1 ∧ Wok S m1 ∧ co_ = mco G lo (nS S) (mS S m1)) = po
  have hx := cx.1
  have hb := cx.2.1
  have hown := cx.2.2.2.1
  have hts := cx.2.2.2.2
  have hw := hW.1
  obtain ⟨s1, s2, s3, s4, s5, s6⟩ := id hS
  have hm := m_isM G lo S m
  refine lv_iconst (v := nI 0) hx hb dX11_works_0 rfl ?_
  refine lv_istore_n (lv' := [(1, .int (nI 0)), (0, .ref (lo (0)))]) hx hb dX11_works_1 rfl hl (by decide) rfl (fun ls hl => ?_)
  have L2_1 : ∀ (n_ : Nat) (q : Nat), (q ≤ sn S 0) → sn S 0 - q < n_ → ∀ (H : Heap) (locs : List Loc) (ls : Array Slot), x_D AA G ss.heap lo (mco G lo (nS S) (mS S (wk2 S m (W0 (sn S 1) q)))) H locs → lv_has ls 3 [(1, .int (nI q)), (0, .ref (lo (0)))] → x_ww l 8 0 0 pp ee ss mm av bb mt cd G po AA H locs 0 0 2 ls [] := by
    intro n_
    induction n_ with
    | zero => intro q hq hm_ H locs ls hW hl; exact absurd hm_ (Nat.not_lt_zero _)
    | succ n_ ih2_1 =>
      intro q hq hm_ H locs ls hW hl
      have hw := hW.1
      refine lv_iload_n hx hb dX11_works_2 rfl (lv_at hl 0 rfl) ?_
      refine lv_aload_n hx hb dX11_works_3 rfl (lv_at hl 1 rfl) ?_
      refine x_get cx hk hw (rfl) f_RX11_116_10 rfl dX11_works_4 ?_
      refine x_icmp_ge (tgt := 67) cx dX11_works_7 (by decide) (by omega) (fun h7_2 => ?_) (fun h7_2 => ?_)
      · skip
        refine lv_iconst (v := nI 0) hx hb dX11_works_67 rfl ?_
        refine lv_istore_n (lv' := [(1, .int (nI 0)), (0, .ref (lo (0)))]) hx hb dX11_works_68 rfl hl (by decide) rfl (fun ls hl => ?_)
        have L69_3 : ∀ (n_ : Nat) (a : Nat), (a ≤ sn S 1) → sn S 1 - a < n_ → ∀ (H : Heap) (locs : List Loc) (ls : Array Slot), x_D AA G ss.heap lo (mco G lo (nS S) (mS S (wk3 S m (W0 (sn S 1) q) a))) H locs → lv_has ls 3 [(1, .int (nI a)), (0, .ref (lo (0)))] → x_ww l 8 0 0 pp ee ss mm av bb mt cd G po AA H locs 0 0 69 ls [] := by
          intro n_
          induction n_ with
          | zero => intro a ha hm_ H locs ls hW hl; exact absurd hm_ (Nat.not_lt_zero _)
          | succ n_ ih69_3 =>
            intro a ha hm_ H locs ls hW hl
            have hw := hW.1
            refine lv_iload_n hx hb dX11_works_69 rfl (lv_at hl 0 rfl) ?_
            refine lv_aload_n hx hb dX11_works_70 rfl (lv_at hl 1 rfl) ?_
            refine x_get cx hk hw (rfl) f_RX11_123_10 rfl dX11_works_71 ?_
            refine x_icmp_ge (tgt := 94) cx dX11_works_74 (by decide) (by omega) (fun h74_4 => ?_) (fun h74_4 => ?_)
            · skip
              exact y_vret cx hW hr hlk ⟨by decide, by decide⟩ dX11_works_94 (by rw [← hpo]; exact ⟨rfl, rfl, _, mok_wk3 hM, wok_wk hS (by omega) (by omega), rfl⟩)
            · skip
              refine lv_aload_n hx hb dX11_works_77 rfl (lv_at hl 1 rfl) ?_
              refine x_get cx hk hw (rfl) f_RX11_86_10 rfl dX11_works_78 ?_
              refine lv_iload_n hx hb dX11_works_81 rfl (lv_at hl 0 rfl) ?_
              refine lv_aload_n hx hb dX11_works_82 rfl (lv_at hl 1 rfl) ?_
              refine lv_iload_n hx hb dX11_works_83 rfl (lv_at hl 0 rfl) ?_
              refine x_rdV (av := [.int (nI a)]) (rest := [.int (nI a), .ref (lo (29))]) cx hk hw (rfl) cv_RX11_199_10 (m_roomOf S (wk3 S m (W0 (sn S 1) q) a) (m_isM G lo S _) hS (mok_wk3 hM) a (by omega)) hl.1 rfl rfl (Nat.le_of_ble_eq_true rfl) ⟨by decide, by decide⟩ ⟨Nat.zero_le _, Nat.zero_le _⟩ dX11_works_84 ?_
              refine y_ist 29 12 (by decide) cx hk hW (by omega) dX11_works_87 (fun H locs hW => ?_)
              have hw := hW.1
              refine lv_iinc (v := nI (a + 1)) (lv' := [(1, .int (nI (a + 1))), (0, .ref (lo (0)))]) hx hb dX11_works_88 hl (k := 0) rfl (nI_add _ 1) (by decide) rfl (fun ls hl => ?_)
              refine lv_goto (tgt := 69) hx hb dX11_works_91 (by decide) ?_
              exact ih69_3 (a + 1) (by omega) (by omega) _ _ _ (x_D.cast (show mco G lo (nS S) (va_up (mS S (wk3 S m (W0 (sn S 1) q) a)) 29 (upd ((mS S (wk3 S m (W0 (sn S 1) q) a)) 29) a (nI (m_sp S a)))) = mco G lo (nS S) (mS S (wk3 S m (W0 (sn S 1) q) (a + 1))) from by exact wk_rs) hW) (lv_sub hl [0, 1] rfl)
        exact L69_3 (_ + 1) 0 (by omega) (Nat.lt_succ_self _) _ _ _ (x_D.cast (show mco G lo (nS S) (mS S (wk2 S m (W0 (sn S 1) q))) = mco G lo (nS S) (mS S (wk3 S m (W0 (sn S 1) q) 0)) from by exact wk_r0) hW) (lv_sub hl [0, 1] rfl)
      · skip
        refine lv_aload_n hx hb dX11_works_10 rfl (lv_at hl 1 rfl) ?_
        refine x_get cx hk hw (rfl) f_RX11_83_10 rfl dX11_works_11 ?_
        refine lv_bipush (v := nI 13) hx hb dX11_works_14 rfl ?_
        refine lv_iload_n hx hb dX11_works_16 rfl (lv_at hl 0 rfl) ?_
        refine x_imulN cx dX11_works_17 ?_
        refine lv_bipush (v := nI 12) hx hb dX11_works_18 rfl ?_
        refine x_iaddN cx dX11_works_20 ?_
        refine lv_aload_n hx hb dX11_works_21 rfl (lv_at hl 1 rfl) ?_
        refine lv_iload_n hx hb dX11_works_22 rfl (lv_at hl 0 rfl) ?_
        refine lv_iconst (v := (-1)) hx hb dX11_works_23 rfl ?_
        refine x_rdV (av := [.int (nI q), .int ((-1))]) (rest := [.int (nI ((13 * q) + 12)), .ref (lo (28))]) cx hk hw (rfl) cv_RX11_173_10 (m_cost_ S (wk2 S m (W0 (sn S 1) q)) (m_isM G lo S _) hS (mok_wk2 hM) (nI q) (-1)) hl.1 rfl rfl (Nat.le_of_ble_eq_true rfl) ⟨by decide, by decide⟩ ⟨Nat.zero_le _, Nat.zero_le _⟩ dX11_works_24 ?_
        rw [P_cost_m1 hS (by omega)]
        refine y_ist 28 312 (by decide) cx hk hW (by omega) dX11_works_27 (fun H locs hW => ?_)
        have hw := hW.1
        refine lv_iconst (v := nI 0) hx hb dX11_works_28 rfl ?_
        refine lv_istore_n (lv' := [(2, .int (nI 0)), (1, .int (nI q)), (0, .ref (lo (0)))]) hx hb dX11_works_29 rfl hl (by decide) rfl (fun ls hl => ?_)
        have L30_5 : ∀ (n_ : Nat) (a : Nat), (a ≤ sn S 1) → sn S 1 - a < n_ → ∀ (H : Heap) (locs : List Loc) (ls : Array Slot), x_D AA G ss.heap lo (mco G lo (nS S) (mS S (wk2 S m (W1 (sn S 1) q a)))) H locs → lv_has ls 3 [(2, .int (nI a)), (1, .int (nI q)), (0, .ref (lo (0)))] → x_ww l 8 0 0 pp ee ss mm av bb mt cd G po AA H locs 0 0 30 ls [] := by
          intro n_
          induction n_ with
          | zero => intro a ha hm_ H locs ls hW hl; exact absurd hm_ (Nat.not_lt_zero _)
          | succ n_ ih30_5 =>
            intro a ha hm_ H locs ls hW hl
            have hw := hW.1
            refine lv_iload_n hx hb dX11_works_30 rfl (lv_at hl 0 rfl) ?_
            refine lv_aload_n hx hb dX11_works_31 rfl (lv_at hl 2 rfl) ?_
            refine x_get cx hk hw (rfl) f_RX11_123_10 rfl dX11_works_32 ?_
            refine x_icmp_ge (tgt := 61) cx dX11_works_35 (by decide) (by omega) (fun h35_6 => ?_) (fun h35_6 => ?_)
            · skip
              refine lv_iinc (v := nI (q + 1)) (lv' := [(1, .int (nI (q + 1))), (2, .int (nI a)), (0, .ref (lo (0)))]) hx hb dX11_works_61 hl (k := 1) rfl (nI_add _ 1) (by decide) rfl (fun ls hl => ?_)
              refine lv_goto (tgt := 2) hx hb dX11_works_64 (by decide) ?_
              exact ih2_1 (q + 1) (by omega) (by omega) _ _ _ (x_D.cast (show mco G lo (nS S) (mS S (wk2 S m (W1 (sn S 1) q a))) = mco G lo (nS S) (mS S (wk2 S m (W0 (sn S 1) (q + 1)))) from by rw [wk_next (by omega)]) hW) (lv_sub hl [0, 2] rfl)
            · skip
              refine lv_aload_n hx hb dX11_works_38 rfl (lv_at hl 2 rfl) ?_
              refine x_get cx hk hw (rfl) f_RX11_83_10 rfl dX11_works_39 ?_
              refine lv_bipush (v := nI 13) hx hb dX11_works_42 rfl ?_
              refine lv_iload_n hx hb dX11_works_44 rfl (lv_at hl 1 rfl) ?_
              refine x_imulN cx dX11_works_45 ?_
              refine lv_iload_n hx hb dX11_works_46 rfl (lv_at hl 0 rfl) ?_
              refine x_iaddN cx dX11_works_47 ?_
              refine lv_aload_n hx hb dX11_works_48 rfl (lv_at hl 2 rfl) ?_
              refine lv_iload_n hx hb dX11_works_49 rfl (lv_at hl 1 rfl) ?_
              refine lv_iload_n hx hb dX11_works_50 rfl (lv_at hl 0 rfl) ?_
              refine x_rdV (av := [.int (nI q), .int (nI a)]) (rest := [.int (nI ((13 * q) + a)), .ref (lo (28))]) cx hk hw (rfl) cv_RX11_173_10 (m_cost_ S (wk2 S m (W1 (sn S 1) q a)) (m_isM G lo S _) hS (mok_wk2 hM) (nI q) (nI a)) hl.1 rfl rfl (Nat.le_of_ble_eq_true rfl) ⟨by decide, by decide⟩ ⟨Nat.zero_le _, Nat.zero_le _⟩ dX11_works_51 ?_
              rw [P_cost_a hS (by omega) (by omega)]
              refine y_ist 28 312 (by decide) cx hk hW (by omega) dX11_works_54 (fun H locs hW => ?_)
              have hw := hW.1
              refine lv_iinc (v := nI (a + 1)) (lv' := [(2, .int (nI (a + 1))), (1, .int (nI q)), (0, .ref (lo (0)))]) hx hb dX11_works_55 hl (k := 0) rfl (nI_add _ 1) (by decide) rfl (fun ls hl => ?_)
              refine lv_goto (tgt := 30) hx hb dX11_works_58 (by decide) ?_
              exact ih30_5 (a + 1) (by omega) (by omega) _ _ _ (x_D.cast (show mco G lo (nS S) (va_up (mS S (wk2 S m (W1 (sn S 1) q a))) 28 (upd ((mS S (wk2 S m (W1 (sn S 1) q a))) 28) ((13 * q) + a) (nO (if m_helps S q a = true then m_cost S q a + 1 else 0)))) = mco G lo (nS S) (mS S (wk2 S m (W1 (sn S 1) q (a + 1)))) from by exact wk_up28 (by rw [show (13 * q + a) / 13 = q by omega, show (13 * q + a) % 13 = a by omega, wkv]; exact (if_neg (by omega)).symm) (fun j => by simp only [W0, W1, decide_eq_true_eq]; omega)) hW) (lv_sub hl [0, 1, 2] rfl)
        exact L30_5 (_ + 1) 0 (by omega) (Nat.lt_succ_self _) _ _ _ (x_D.cast (show mco G lo (nS S) (va_up (mS S (wk2 S m (W0 (sn S 1) q))) 28 (upd ((mS S (wk2 S m (W0 (sn S 1) q))) 28) ((13 * q) + 12) (nI (m_plain S q)))) = mco G lo (nS S) (mS S (wk2 S m (W1 (sn S 1) q 0))) from by exact wk_up28 (by rw [wkv, if_pos (by omega), show (13 * q + 12) / 13 = q by omega]) (fun j => by simp only [W0, W1, decide_eq_true_eq]; omega)) hW) (lv_sub hl [0, 1, 2] rfl)
  exact L2_1 (_ + 1) 0 (by omega) (Nat.lt_succ_self _) _ _ _ (x_D.cast (show mco G lo (nS S) (mS S m) = mco G lo (nS S) (mS S (wk2 S m (W0 (sn S 1) 0))) from by exact wk_init) hW) (lv_sub hl [0, 1] rfl)
set_option maxHeartbeats 4000000 in
set_option maxRecDepth 100000 in
theorem w_choose {l : Launch} {G : x_G} {lo : x_L} (S : St) (m : Nat → Nat → Int32) (hS : Sok S) (hM : Mok S m) (r : Int32) : x_Wr l G lo (mco G lo (nS S) (mS S m)) yX11_choose cX11_choose 8 (some .int) 9 0 0 [.ref (lo (0)), .int (r)] (fun (v : Option Value) (lo_ : x_L) (co_ : x_C) => v = some (Value.int (P_choose S r)) ∧ lo_ = lo ∧ ∃ m1, Mok S m1 ∧ co_ = mco G lo (nS S) (mS S m1)) := by
  refine x_wenter RX11 rfl (by decide) (Nat.le_of_ble_eq_true rfl) ?_
  intro pp ee ss mm bb mt cd ls AA cx hk hW hA hr hlk hnm hl
  have hl : lv_has ls 8 [(0, .ref (lo (0))), (1, .int (r))] := hl
  generalize hav : ([.ref (lo (0)), .int (r)] : List Value).toArray = av at cx ⊢
  generalize hpo : (fun (v : Option Value) (lo_ : x_L) (co_ : x_C) => v = some (Value.int (P_choose S r)) ∧ lo_ = lo ∧ ∃ m1, Mok S m1 ∧ co_ = mco G lo (nS S) (mS S m1)) = po
  have hx := cx.1
  have hb := cx.2.1
  have hown := cx.2.2.2.1
  have hts := cx.2.2.2.2
  have hw := hW.1
  obtain ⟨s1, s2, s3, s4, s5, s6⟩ := id hS
  have hm := m_isM G lo S m
  have hp1 := Nat.two_pow_pos (sn S 1)
  refine lv_iload_n hx hb dX11_choose_0 rfl (lv_at hl 1 rfl) ?_
  refine lv_iconst (v := nI 0) hx hb dX11_choose_1 rfl ?_
  refine lv_sipush (v := nI 10000) hx hb dX11_choose_2 rfl ?_
  refine x_rdS (av := [.int (r), .int (nI 0), .int (nI 10000)]) (rest := []) cx hk hw cs_RX11_89 (m_lies r (nI 0) (nI 10000)) hl.1 rfl rfl (Nat.le_of_ble_eq_true rfl) ⟨by decide, by decide⟩ ⟨Nat.zero_le _, Nat.zero_le _⟩ dX11_choose_5 ?_
  refine x_if_ne (tgt := 13) cx dX11_choose_8 (by decide) (fun h8_1 => ?_) (fun h8_1 => ?_)
  · skip
    obtain ⟨r1, hr1b, hr1a, hr1e⟩ := nI_tc (x := r) (a := 0) (b := 10000) (by decide) (by decide) (by assumption)
    rw [hr1e] at hl
    have hb12 := Sok.b12 hS
    refine lv_aload_n hx hb dX11_choose_13 rfl (lv_at hl 0 rfl) ?_
    refine y_wrV (av := []) (rest := []) cx hk hW hA (rfl) cv_RX11_211_10 (w_works S m hS hM) hl.1 rfl rfl (Nat.le_of_ble_eq_true rfl) ⟨by decide, by decide⟩ ⟨by decide, by decide⟩ dX11_choose_14 (fun v_ lo_ co_ H locs hq_ hW => ?_)
    obtain ⟨hv_, hlo_, m1, hM1, hWk1, hco_⟩ := hq_
    have hlo2_ := hlo_.symm
    subst hv_ hlo2_ hco_
    have hw := hW.1
    have hm1 := m_isM G lo S m1
    refine lv_iconst (v := nI 0) hx hb dX11_choose_17 rfl ?_
    refine lv_istore_n (lv' := [(2, .int (nI 0)), (0, .ref (lo (0))), (1, .int (nI r1))]) hx hb dX11_choose_18 rfl hl (by decide) rfl (fun ls hl => ?_)
    refine lv_aload_n hx hb dX11_choose_19 rfl (lv_at hl 1 rfl) ?_
    refine lv_iconst (v := nI 0) hx hb dX11_choose_20 rfl ?_
    refine x_rdV (av := [.int (nI 0)]) (rest := []) cx hk hw (rfl) cv_RX11_214_10 (m_totW S m1 hm1 hS hM1 hWk1 0 (by omega)) hl.1 rfl rfl (Nat.le_of_ble_eq_true rfl) ⟨by decide, by decide⟩ ⟨Nat.zero_le _, Nat.zero_le _⟩ dX11_choose_21 ?_
    refine lv_lstore_n (lv' := [(3, .long (lN (m_tot S 0))), (2, .int (nI 0)), (0, .ref (lo (0))), (1, .int (nI r1))]) hx hb dX11_choose_24 rfl hl (by decide) rfl (fun ls hl => ?_)
    refine lv_iconst (v := nI 1) hx hb dX11_choose_25 rfl ?_
    refine lv_istore (lv' := [(5, .int (nI 1)), (3, .long (lN (m_tot S 0))), (2, .int (nI 0)), (0, .ref (lo (0))), (1, .int (nI r1))]) hx hb dX11_choose_26 hl (by decide) rfl (fun ls hl => ?_)
    have L28_2 : ∀ (n_ : Nat) (b : Nat) (v : Nat) (s : Nat), (1 ≤ s) → (s ≤ 2 ^ sn S 1) → (b = c_best S r1 s) → (v = m_tot S b) → (b < s) → 2 ^ sn S 1 - s < n_ → ∀ (H : Heap) (locs : List Loc) (ls : Array Slot), x_D AA G ss.heap lo (mco G lo (nS S) (mS S m1)) H locs → lv_has ls 8 [(5, .int (nI s)), (3, .long (lN v)), (2, .int (nI b)), (0, .ref (lo (0))), (1, .int (nI r1))] → x_ww l 9 0 0 pp ee ss mm av bb mt cd G po AA H locs 0 0 28 ls [] := by
      intro n_
      induction n_ with
      | zero => intro b v s hs1 hs hbb hvv_ hbl hm_ H locs ls hW hl; exact absurd hm_ (Nat.not_lt_zero _)
      | succ n_ ih28_2 =>
        intro b v s hs1 hs hbb hvv_ hbl hm_ H locs ls hW hl
        have hw := hW.1
        refine lv_iload hx hb dX11_choose_28 (lv_at hl 0 rfl) ?_
        refine lv_iconst (v := nI 1) hx hb dX11_choose_30 rfl ?_
        refine lv_aload_n hx hb dX11_choose_31 rfl (lv_at hl 3 rfl) ?_
        refine x_get cx hk hw (rfl) f_RX11_123_10 rfl dX11_choose_32 ?_
        refine x_ishlB cx (by omega) dX11_choose_35 ?_
        refine x_icmp_ge (tgt := 107) cx dX11_choose_36 (by decide) (by omega) (fun h36_3 => ?_) (fun h36_3 => ?_)
        · skip
          refine lv_iload_n hx hb dX11_choose_107 rfl (lv_at hl 2 rfl) ?_
          exact y_iret cx hW hr hlk ⟨by decide, by decide⟩ dX11_choose_108 (by rw [← hpo]; refine ⟨?_, rfl, m1, hM1, rfl⟩; rw [P_choose, if_pos (by assumption), hr1e, nI_clamp (by omega), hbb, show s = 2 ^ sn S 1 by omega])
        · skip
          refine lv_aload_n hx hb dX11_choose_39 rfl (lv_at hl 3 rfl) ?_
          refine lv_iload hx hb dX11_choose_40 (lv_at hl 0 rfl) ?_
          have hpw : 2 ^ sn S 1 ≤ 4096 := hb12
          refine x_rdV (av := [.int (nI s)]) (rest := []) cx hk hw (rfl) cv_RX11_143_10 (m_isSet S m1 hm1 hS (nI s)) hl.1 rfl rfl (Nat.le_of_ble_eq_true rfl) ⟨by decide, by decide⟩ ⟨Nat.zero_le _, Nat.zero_le _⟩ dX11_choose_42 ?_
          rw [m_isS_nI hS (by omega), decide_eq_true (by omega : s < 2 ^ sn S 1), Bool.true_and]
          have J101_4 : ∀ (y4_l3 : Nat) (y4_l2 : Nat) (ey4_l3 : y4_l3 = if (m_set S s) = true then (if (m_rs S s (sn S 1)) ≤ r1 then (if 0 < (lg_cmp (lN (m_tot S s)) (lN v)) then v else (if (lg_cmp (lN (m_tot S s)) (lN v)) = 0 then (if (s_ahead s b) = true then (m_tot S s) else v) else (m_tot S s))) else v) else v) (ey4_l2 : y4_l2 = if (m_set S s) = true then (if (m_rs S s (sn S 1)) ≤ r1 then (if 0 < (lg_cmp (lN (m_tot S s)) (lN v)) then b else (if (lg_cmp (lN (m_tot S s)) (lN v)) = 0 then (if (s_ahead s b) = true then s else b) else s)) else b) else b) (ls : Array Slot), lv_has ls 8 [(5, .int (nI s)), (3, .long (lN y4_l3)), (2, .int (nI y4_l2)), (0, .ref (lo (0))), (1, .int (nI r1))] → x_ww l 9 0 0 pp ee ss mm av bb mt cd G po AA H locs 0 0 101 ls [] := by
            intro y4_l3 y4_l2 ey4_l3 ey4_l2 ls hl
            have dy4_l3 : ((m_set S s) = true ∧ (((m_rs S s (sn S 1)) ≤ r1 ∧ ((0 < (lg_cmp (lN (m_tot S s)) (lN v)) ∧ (y4_l3 = v)) ∨ (¬ (0 < (lg_cmp (lN (m_tot S s)) (lN v))) ∧ (((lg_cmp (lN (m_tot S s)) (lN v)) = 0 ∧ (((s_ahead s b) = true ∧ (y4_l3 = (m_tot S s))) ∨ (¬ ((s_ahead s b) = true) ∧ (y4_l3 = v)))) ∨ (¬ ((lg_cmp (lN (m_tot S s)) (lN v)) = 0) ∧ (y4_l3 = (m_tot S s))))))) ∨ (¬ ((m_rs S s (sn S 1)) ≤ r1) ∧ (y4_l3 = v)))) ∨ (¬ ((m_set S s) = true) ∧ (y4_l3 = v)) := by rw [ey4_l3]; repeat' (first | (exact rfl) | (split <;> first | (refine Or.inl ⟨by assumption, ?_⟩) | (refine Or.inr ⟨by assumption, ?_⟩)))
            have dy4_l2 : ((m_set S s) = true ∧ (((m_rs S s (sn S 1)) ≤ r1 ∧ ((0 < (lg_cmp (lN (m_tot S s)) (lN v)) ∧ (y4_l2 = b)) ∨ (¬ (0 < (lg_cmp (lN (m_tot S s)) (lN v))) ∧ (((lg_cmp (lN (m_tot S s)) (lN v)) = 0 ∧ (((s_ahead s b) = true ∧ (y4_l2 = s)) ∨ (¬ ((s_ahead s b) = true) ∧ (y4_l2 = b)))) ∨ (¬ ((lg_cmp (lN (m_tot S s)) (lN v)) = 0) ∧ (y4_l2 = s)))))) ∨ (¬ ((m_rs S s (sn S 1)) ≤ r1) ∧ (y4_l2 = b)))) ∨ (¬ ((m_set S s) = true) ∧ (y4_l2 = b)) := by rw [ey4_l2]; repeat' (first | (exact rfl) | (split <;> first | (refine Or.inl ⟨by assumption, ?_⟩) | (refine Or.inr ⟨by assumption, ?_⟩)))
            refine lv_iinc (v := nI (s + 1)) (lv' := [(5, .int (nI (s + 1))), (3, .long (lN y4_l3)), (2, .int (nI y4_l2)), (0, .ref (lo (0))), (1, .int (nI r1))]) hx hb dX11_choose_101 hl (k := 0) rfl (nI_add _ 1) (by decide) rfl (fun ls hl => ?_)
            refine lv_goto (tgt := 28) hx hb dX11_choose_104 (by decide) ?_
            exact ih28_2 y4_l2 y4_l3 (s + 1) (by omega) (by omega) (by have ht1 := m_tot_le hS s; have ht2 := m_tot_le hS b; rw [c_best, ← hbb]; first | done | (subst hvv_; (try rw [ey4_l2]); simp only [lg_cmp_gt, lg_cmp_eq, lN_lt (show m_tot S b < 2 ^ 31 by omega) (show m_tot S s < 2 ^ 31 by omega), lN_eq (show m_tot S s < 2 ^ 31 by omega) (show m_tot S b < 2 ^ 31 by omega)]; by_cases w1 : m_set S s = true <;> by_cases w2 : m_rs S s (sn S 1) ≤ r1 <;> by_cases w3 : m_tot S b < m_tot S s <;> by_cases w4 : m_tot S s = m_tot S b <;> by_cases w5 : s_ahead s b = true <;> simp [w1, w2, w3, w4, w5] <;> omega)) (by rw [ey4_l3, ey4_l2]; subst hvv_; (repeat' split) <;> rfl) (by omega) (by omega) _ _ _ hW (lv_sub hl [0, 1, 2, 3, 4] rfl)
          refine x_if_eq (tgt := 101) cx dX11_choose_45 (by decide) (fun h45_5 => ?_) (fun h45_5 => ?_)
          · skip
            exact J101_4 v b (by rw [if_neg (fun q => Bool.noConfusion (h45_5.symm.trans q))]) (by rw [if_neg (fun q => Bool.noConfusion (h45_5.symm.trans q))]) _ (lv_sub hl [0, 1, 2, 3, 4] rfl)
          · skip
            refine lv_aload_n hx hb dX11_choose_48 rfl (lv_at hl 3 rfl) ?_
            refine lv_iload hx hb dX11_choose_49 (lv_at hl 0 rfl) ?_
            refine x_rdV (av := [.int (nI s)]) (rest := []) cx hk hw (rfl) cv_RX11_208_10 (m_rset S m1 hm1 hS hM1 s (by omega)) hl.1 rfl rfl (Nat.le_of_ble_eq_true rfl) ⟨by decide, by decide⟩ ⟨Nat.zero_le _, Nat.zero_le _⟩ dX11_choose_51 ?_
            have hrs := m_rs_le (s := s) hS (Nat.le_refl _)
            refine lv_iload_n hx hb dX11_choose_54 rfl (lv_at hl 4 rfl) ?_
            refine x_icmp_le (tgt := 61) cx dX11_choose_55 (by decide) (by omega) (fun h55_6 => ?_) (fun h55_6 => ?_)
            · skip
              refine lv_aload_n hx hb dX11_choose_61 rfl (lv_at hl 3 rfl) ?_
              refine lv_iload hx hb dX11_choose_62 (lv_at hl 0 rfl) ?_
              refine x_rdV (av := [.int (nI s)]) (rest := []) cx hk hw (rfl) cv_RX11_214_10 (m_totW S m1 hm1 hS hM1 hWk1 s (by omega)) hl.1 rfl rfl (Nat.le_of_ble_eq_true rfl) ⟨by decide, by decide⟩ ⟨Nat.zero_le _, Nat.zero_le _⟩ dX11_choose_64 ?_
              refine lv_lstore (lv' := [(6, .long (lN (m_tot S s))), (5, .int (nI s)), (3, .long (lN v)), (2, .int (nI b)), (0, .ref (lo (0))), (1, .int (nI r1))]) hx hb dX11_choose_67 hl (by decide) rfl (fun ls hl => ?_)
              refine lv_lload hx hb dX11_choose_69 (lv_at hl 0 rfl) ?_
              refine lv_lload_n hx hb dX11_choose_71 rfl (lv_at hl 2 rfl) ?_
              refine W.lcmp hx hb dX11_choose_72 ?_
              have ht1 := m_tot_le hS s
              have ht2 := m_tot_le hS b
              refine lv_if_gt (tgt := 101) hx hb dX11_choose_73 (by decide) (fun h73_7 => ?_) (fun h73_7 => ?_)
              · skip
                exact J101_4 v b (by rw [if_pos h45_5, if_pos h55_6, if_pos h73_7]) (by rw [if_pos h45_5, if_pos h55_6, if_pos h73_7]) _ (lv_sub hl [1, 2, 3, 4, 5] rfl)
              · skip
                refine lv_lload hx hb dX11_choose_76 (lv_at hl 0 rfl) ?_
                refine lv_lload_n hx hb dX11_choose_78 rfl (lv_at hl 2 rfl) ?_
                refine W.lcmp hx hb dX11_choose_79 ?_
                refine lv_if_ne (tgt := 95) hx hb dX11_choose_80 (by decide) (fun h80_8 => ?_) (fun h80_8 => ?_)
                · skip
                  refine lv_iload hx hb dX11_choose_95 (lv_at hl 1 rfl) ?_
                  refine lv_istore_n (lv' := [(2, .int (nI s)), (6, .long (lN (m_tot S s))), (5, .int (nI s)), (3, .long (lN v)), (0, .ref (lo (0))), (1, .int (nI r1))]) hx hb dX11_choose_97 rfl hl (by decide) rfl (fun ls hl => ?_)
                  refine lv_lload hx hb dX11_choose_98 (lv_at hl 1 rfl) ?_
                  refine lv_lstore_n (lv' := [(3, .long (lN (m_tot S s))), (2, .int (nI s)), (6, .long (lN (m_tot S s))), (5, .int (nI s)), (0, .ref (lo (0))), (1, .int (nI r1))]) hx hb dX11_choose_100 rfl hl (by decide) rfl (fun ls hl => ?_)
                  exact J101_4 (m_tot S s) s (by rw [if_pos h45_5, if_pos h55_6, if_neg h73_7, if_neg h80_8]) (by rw [if_pos h45_5, if_pos h55_6, if_neg h73_7, if_neg h80_8]) _ (lv_sub hl [3, 0, 1, 4, 5] rfl)
                · skip
                  refine lv_iload hx hb dX11_choose_83 (lv_at hl 1 rfl) ?_
                  refine lv_iload_n hx hb dX11_choose_85 rfl (lv_at hl 3 rfl) ?_
                  refine x_rdS (av := [.int (nI s), .int (nI b)]) (rest := []) cx hk hw cs_RX11_217 (m_ahead s b (by omega) (by omega)) hl.1 rfl rfl (Nat.le_of_ble_eq_true rfl) ⟨by decide, by decide⟩ ⟨Nat.zero_le _, Nat.zero_le _⟩ dX11_choose_86 ?_
                  refine x_if_ne (tgt := 95) cx dX11_choose_89 (by decide) (fun h89_9 => ?_) (fun h89_9 => ?_)
                  · skip
                    refine lv_iload hx hb dX11_choose_95 (lv_at hl 1 rfl) ?_
                    refine lv_istore_n (lv' := [(2, .int (nI s)), (6, .long (lN (m_tot S s))), (5, .int (nI s)), (3, .long (lN v)), (0, .ref (lo (0))), (1, .int (nI r1))]) hx hb dX11_choose_97 rfl hl (by decide) rfl (fun ls hl => ?_)
                    refine lv_lload hx hb dX11_choose_98 (lv_at hl 1 rfl) ?_
                    refine lv_lstore_n (lv' := [(3, .long (lN (m_tot S s))), (2, .int (nI s)), (6, .long (lN (m_tot S s))), (5, .int (nI s)), (0, .ref (lo (0))), (1, .int (nI r1))]) hx hb dX11_choose_100 rfl hl (by decide) rfl (fun ls hl => ?_)
                    exact J101_4 (m_tot S s) s (by rw [if_pos h45_5, if_pos h55_6, if_neg h73_7, if_pos h80_8, if_pos h89_9]) (by rw [if_pos h45_5, if_pos h55_6, if_neg h73_7, if_pos h80_8, if_pos h89_9]) _ (lv_sub hl [3, 0, 1, 4, 5] rfl)
                  · skip
                    refine lv_goto (tgt := 101) hx hb dX11_choose_92 (by decide) ?_
                    exact J101_4 v b (by rw [if_pos h45_5, if_pos h55_6, if_neg h73_7, if_pos h80_8, if_neg (fun q => Bool.noConfusion (h89_9.symm.trans q))]) (by rw [if_pos h45_5, if_pos h55_6, if_neg h73_7, if_pos h80_8, if_neg (fun q => Bool.noConfusion (h89_9.symm.trans q))]) _ (lv_sub hl [1, 2, 3, 4, 5] rfl)
            · skip
              refine lv_goto (tgt := 101) hx hb dX11_choose_58 (by decide) ?_
              exact J101_4 v b (by rw [if_pos h45_5, if_neg h55_6]) (by rw [if_pos h45_5, if_neg h55_6]) _ (lv_sub hl [0, 1, 2, 3, 4] rfl)
    exact L28_2 (_ + 1) 0 (m_tot S 0) 1 (by omega) (by omega) (by rw [c_best, if_neg (by simp)]; rfl) (by rfl) (by omega) (Nat.lt_succ_self _) _ _ _ hW (lv_sub hl [0, 1, 2, 3, 4] rfl)
  · skip
    refine lv_iconst (v := (-1)) hx hb dX11_choose_11 rfl ?_
    exact y_iret cx hW hr hlk ⟨by decide, by decide⟩ dX11_choose_12 (by rw [← hpo]; exact ⟨by rw [P_choose, if_neg (by simp [*])], rfl, m, hM, rfl⟩)
