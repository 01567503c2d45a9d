set_option maxHeartbeats 4000000 in
set_option maxRecDepth 100000 in
theorem w_put {l : Launch} {G : x_G} {lo : x_L} (S : St) (m : Nat → Nat → Int32) (hS : Sok S) (hM : Mok S m) (t a b c d : Int32) : x_Wr l G lo (mco G lo (nS S) (mS S m)) yX11_put cX11_put 7 (some .int) 3 0 0 [.ref (lo (0)), .int (t), .int (a), .int (b), .int (c), .int (d)] (m_post G lo (P_put S t a b c d).2 (some (.int (P_put S t a b c d).1))) := by
  refine x_wenter RX11 rfl (by decide) (Nat.le_of_ble_eq_true rfl) ?_
  intro pp ee ss mm bb mt cd ls AA cx hk hW hA hr hlk hnm hl
  have hl : lv_has ls 7 [(0, .ref (lo (0))), (1, .int (t)), (2, .int (a)), (3, .int (b)), (4, .int (c)), (5, .int (d))] := hl
  generalize hav : ([.ref (lo (0)), .int (t), .int (a), .int (b), .int (c), .int (d)] : List Value).toArray = av at cx ⊢
  generalize hpo : (m_post G lo (P_put S t a b c d).2 (some (.int (P_put S t a b c d).1))) = po
  have hx := cx.1
  have hb := cx.2.1
  have hown := cx.2.2.2.1
  have hts := cx.2.2.2.2
  have hw := hW.1
  obtain ⟨s1, s2, s3, s4, s5, s6⟩ := id hS
  have hm := m_isM G lo S m
  refine lv_aload_n hx hb dX11_put_0 rfl (lv_at hl 0 rfl) ?_
  refine lv_iload_n hx hb dX11_put_1 rfl (lv_at hl 1 rfl) ?_
  refine x_rdV (av := [.int (t)]) (rest := []) cx hk hw (rfl) cv_RX11_93_10 (m_isTab S m hm hS t) hl.1 rfl rfl (Nat.le_of_ble_eq_true rfl) ⟨by decide, by decide⟩ ⟨Nat.zero_le _, Nat.zero_le _⟩ dX11_put_2 ?_
  refine x_if_eq (tgt := 19) cx dX11_put_5 (by decide) (fun h5_1 => ?_) (fun h5_1 => ?_)
  · skip
    refine lv_iconst (v := (-1)) hx hb dX11_put_19 rfl ?_
    exact y_iret cx hW hr hlk ⟨by decide, by decide⟩ dX11_put_20 (by rw [← hpo]; first | (rw [show P_put S t a b c d = (-1, S) from by unfold P_put; rw [if_neg (fun w => Bool.noConfusion ((by assumption : m_isT S t = false).symm.trans w.1))]; done]; exact ⟨rfl, rfl, m, hM, rfl⟩) | (rw [show P_put S t a b c d = (-1, S) from by unfold P_put; rw [if_neg (fun w => w.2.1 (by rw [ht3, nI_clamp (by omega)]; assumption))]; done]; exact ⟨rfl, rfl, m, hM, rfl⟩))
  · skip
    obtain ⟨t1, ht1, ht2, ht3⟩ := m_isT_ex (by assumption)
    rw [ht3] at hl
    have hT := (s1 t1 ht1).1 ht2
    obtain ⟨k1, k2, k3, k4, k5, k6, k7, k8, k9, k0⟩ := id hT
    refine lv_aload_n hx hb dX11_put_8 rfl (lv_at hl 0 rfl) ?_
    refine x_get cx hk hw (rfl) f_RX11_16_10 rfl dX11_put_9 ?_
    refine lv_iload_n hx hb dX11_put_12 rfl (lv_at hl 1 rfl) ?_
    refine x_ialdE (x := nI ((sT S t1).1 3)) cx hk hw (show mco G lo (nS S) (mS S m) 3 = some (.inl (G.2 0, 4, .inl ((mS S m) 3))) from rfl) (by omega) (by decide) (rfl) dX11_put_13 ?_
    refine lv_bipush (v := nI 60) hx hb dX11_put_14 rfl ?_
    refine x_icmp_ne (tgt := 21) cx dX11_put_16 (by decide) (by omega) (fun h16_2 => ?_) (fun h16_2 => ?_)
    · skip
      refine lv_iconst (v := nI 0) hx hb dX11_put_21 rfl ?_
      refine lv_istore (lv' := [(6, .int (nI 0)), (0, .ref (lo (0))), (1, .int (nI t1)), (2, .int (a)), (3, .int (b)), (4, .int (c)), (5, .int (d))]) hx hb dX11_put_22 hl (by decide) rfl (fun ls hl => ?_)
      have L24_3 : ∀ (n_ : Nat) (k : Nat), (k ≤ (sT S t1).1 1) → (allN k (fun k => s_btw (s_arg a b c d k) (nI 0) (nI 999)) = true) → (sT S t1).1 1 - k < n_ → ∀ (H : Heap) (locs : List Loc) (ls : Array Slot), x_D AA G ss.heap lo (mco G lo (nS S) (mS S m)) H locs → lv_has ls 7 [(6, .int (nI k)), (0, .ref (lo (0))), (1, .int (nI t1)), (2, .int (a)), (3, .int (b)), (4, .int (c)), (5, .int (d))] → x_ww l 3 0 0 pp ee ss mm av bb mt cd G po AA H locs 0 0 24 ls [] := by
        intro n_
        induction n_ with
        | zero => intro k hv hall hm_ H locs ls hW hl; exact absurd hm_ (Nat.not_lt_zero _)
        | succ n_ ih24_3 =>
          intro k hv hall hm_ H locs ls hW hl
          have hw := hW.1
          refine lv_iload hx hb dX11_put_24 (lv_at hl 0 rfl) ?_
          refine lv_aload_n hx hb dX11_put_26 rfl (lv_at hl 1 rfl) ?_
          refine x_get cx hk hw (rfl) f_RX11_7_10 rfl dX11_put_27 ?_
          refine lv_iload_n hx hb dX11_put_30 rfl (lv_at hl 2 rfl) ?_
          refine x_ialdE (x := nI ((sT S t1).1 1)) cx hk hw (show mco G lo (nS S) (mS S m) 1 = some (.inl (G.2 0, 4, .inl ((mS S m) 1))) from rfl) (by omega) (by decide) (rfl) dX11_put_31 ?_
          refine x_icmp_ge (tgt := 85) cx dX11_put_32 (by decide) (by omega) (fun h32_4 => ?_) (fun h32_4 => ?_)
          · skip
            have hvals : s_vals (sT S t1) a b c d = true := by rw [s_vals, show (sT S t1).1 1 = k by omega]; exact hall
            refine lv_iconst (v := nI 0) hx hb dX11_put_85 rfl ?_
            refine lv_istore (lv' := [(6, .int (nI 0)), (0, .ref (lo (0))), (1, .int (nI t1)), (2, .int (a)), (3, .int (b)), (4, .int (c)), (5, .int (d))]) hx hb dX11_put_86 hl (by decide) rfl (fun ls hl => ?_)
            have L88_5 : ∀ (n_ : Nat) (k : Nat), (k ≤ (sT S t1).1 1) → (sT S t1).1 1 - k < n_ → ∀ (H : Heap) (locs : List Loc) (ls : Array Slot), x_D AA G ss.heap lo (mco G lo (nS S) (va_up (mS S m) 4 (m_pv S m t1 a b c d k))) H locs → lv_has ls 7 [(6, .int (nI k)), (0, .ref (lo (0))), (1, .int (nI t1)), (2, .int (a)), (3, .int (b)), (4, .int (c)), (5, .int (d))] → x_ww l 3 0 0 pp ee ss mm av bb mt cd G po AA H locs 0 0 88 ls [] := by
              intro n_
              induction n_ with
              | zero => intro k hv hm_ H locs ls hW hl; exact absurd hm_ (Nat.not_lt_zero _)
              | succ n_ ih88_5 =>
                intro k hv hm_ H locs ls hW hl
                have hw := hW.1
                refine lv_iload hx hb dX11_put_88 (lv_at hl 0 rfl) ?_
                refine lv_aload_n hx hb dX11_put_90 rfl (lv_at hl 1 rfl) ?_
                refine x_get cx hk hw (rfl) f_RX11_7_10 rfl dX11_put_91 ?_
                refine lv_iload_n hx hb dX11_put_94 rfl (lv_at hl 2 rfl) ?_
                refine x_ialdE (x := nI ((sT S t1).1 1)) cx hk hw (show mco G lo (nS S) (va_up (mS S m) 4 (m_pv S m t1 a b c d k)) 1 = some (.inl (G.2 0, 4, .inl ((va_up (mS S m) 4 (m_pv S m t1 a b c d k)) 1))) from rfl) (by omega) (by decide) (rfl) dX11_put_95 ?_
                refine x_icmp_ge (tgt := 159) cx dX11_put_96 (by decide) (by omega) (fun h96_6 => ?_) (fun h96_6 => ?_)
                · skip
                  refine lv_aload_n hx hb dX11_put_159 rfl (lv_at hl 1 rfl) ?_
                  refine x_get cx hk hw (rfl) f_RX11_16_10 rfl dX11_put_160 ?_
                  refine lv_iload_n hx hb dX11_put_163 rfl (lv_at hl 2 rfl) ?_
                  refine lv_dup2_11 hx hb dX11_put_164 rfl rfl ?_
                  refine x_ialdE (x := nI ((sT S t1).1 3)) cx hk hw (show mco G lo (nS S) (va_up (mS S m) 4 (m_pv S m t1 a b c d k)) 3 = some (.inl (G.2 0, 4, .inl ((va_up (mS S m) 4 (m_pv S m t1 a b c d k)) 3))) from rfl) (by omega) (by decide) (rfl) dX11_put_165 ?_
                  refine lv_iconst (v := nI 1) hx hb dX11_put_166 rfl ?_
                  refine x_iaddN cx dX11_put_167 ?_
                  refine y_ist 3 4 (by decide) cx hk hW (by omega) dX11_put_168 (fun H locs hW => ?_)
                  have hw := hW.1
                  refine lv_aload_n hx hb dX11_put_169 rfl (lv_at hl 1 rfl) ?_
                  refine x_get cx hk hw (rfl) f_RX11_16_10 rfl dX11_put_170 ?_
                  refine lv_iload_n hx hb dX11_put_173 rfl (lv_at hl 2 rfl) ?_
                  refine x_ialdE (x := nI ((sT S t1).1 3 + 1)) cx hk hw (show mco G lo (nS S) (va_up (va_up (mS S m) 4 (m_pv S m t1 a b c d k)) 3 (upd ((va_up (mS S m) 4 (m_pv S m t1 a b c d k)) 3) t1 (nI (((sT S t1).1 3) + 1)))) 3 = some (.inl (G.2 0, 4, .inl ((va_up (va_up (mS S m) 4 (m_pv S m t1 a b c d k)) 3 (upd ((va_up (mS S m) 4 (m_pv S m t1 a b c d k)) 3) t1 (nI (((sT S t1).1 3) + 1)))) 3))) from rfl) (by omega) (by decide) (by show upd _ t1 _ t1 = _; exact if_pos rfl) dX11_put_174 ?_
                  refine lv_iconst (v := nI 1) hx hb dX11_put_175 rfl ?_
                  refine x_isubN cx (by omega) dX11_put_176 ?_
                  exact y_iret cx hW hr hlk ⟨by decide, by decide⟩ dX11_put_177 (by rw [← hpo]; rw [show P_put S t a b c d = (nI ((sT S t1).1 3), setT S t1 (putT (sT S t1) a b c d)) from by unfold P_put; rw [ht3, nI_clamp (by omega)]; exact if_pos ⟨by rw [← ht3]; assumption, by assumption, hvals⟩]; exact ⟨rfl, rfl, m, hM, wput hT (by assumption) hvals (by omega)⟩)
                · skip
                  refine lv_aload_n hx hb dX11_put_99 rfl (lv_at hl 1 rfl) ?_
                  refine x_get cx hk hw (rfl) f_RX11_19_10 rfl dX11_put_100 ?_
                  refine lv_sipush (v := nI 240) hx hb dX11_put_103 rfl ?_
                  refine lv_iload_n hx hb dX11_put_106 rfl (lv_at hl 2 rfl) ?_
                  refine x_imulN cx dX11_put_107 ?_
                  refine lv_iconst (v := nI 4) hx hb dX11_put_108 rfl ?_
                  refine lv_aload_n hx hb dX11_put_109 rfl (lv_at hl 1 rfl) ?_
                  refine x_get cx hk hw (rfl) f_RX11_16_10 rfl dX11_put_110 ?_
                  refine lv_iload_n hx hb dX11_put_113 rfl (lv_at hl 2 rfl) ?_
                  refine x_ialdE (x := nI ((sT S t1).1 3)) cx hk hw (show mco G lo (nS S) (va_up (mS S m) 4 (m_pv S m t1 a b c d k)) 3 = some (.inl (G.2 0, 4, .inl ((va_up (mS S m) 4 (m_pv S m t1 a b c d k)) 3))) from rfl) (by omega) (by decide) (rfl) dX11_put_114 ?_
                  refine x_imulN cx dX11_put_115 ?_
                  refine x_iaddN cx dX11_put_116 ?_
                  refine lv_iload hx hb dX11_put_117 (lv_at hl 0 rfl) ?_
                  refine x_iaddN cx dX11_put_119 ?_
                  refine lv_iload hx hb dX11_put_120 (lv_at hl 0 rfl) ?_
                  have J152_7 : ∀ (y7_s0 : Int32) (ey7_s0 : y7_s0 = if k = 0 then a else (if k = 1 then b else (if k = 2 then c else d))) (ls : Array Slot), lv_has ls 7 [(6, .int (nI k)), (0, .ref (lo (0))), (1, .int (nI t1)), (2, .int (a)), (3, .int (b)), (4, .int (c)), (5, .int (d))] → x_ww l 3 0 0 pp ee ss mm av bb mt cd G po AA H locs 0 0 152 ls [.int (y7_s0), .int (nI (((240 * t1) + (4 * ((sT S t1).1 3))) + k)), .ref (lo (4))] := by
                    intro y7_s0 ey7_s0 ls hl
                    have dy7_s0 : (k = 0 ∧ (y7_s0 = a)) ∨ (¬ (k = 0) ∧ ((k = 1 ∧ (y7_s0 = b)) ∨ (¬ (k = 1) ∧ ((k = 2 ∧ (y7_s0 = c)) ∨ (¬ (k = 2) ∧ (y7_s0 = d)))))) := by rw [ey7_s0]; repeat' (first | (exact rfl) | (split <;> first | (refine Or.inl ⟨by assumption, ?_⟩) | (refine Or.inr ⟨by assumption, ?_⟩)))
                    refine y_ist 4 960 (by decide) cx hk hW (by omega) dX11_put_152 (fun H locs hW => ?_)
                    have hw := hW.1
                    refine lv_iinc (v := nI (k + 1)) (lv' := [(6, .int (nI (k + 1))), (0, .ref (lo (0))), (1, .int (nI t1)), (2, .int (a)), (3, .int (b)), (4, .int (c)), (5, .int (d))]) hx hb dX11_put_153 hl (k := 0) rfl (nI_add _ 1) (by decide) rfl (fun ls hl => ?_)
                    refine lv_goto (tgt := 88) hx hb dX11_put_156 (by decide) ?_
                    exact ih88_5 (k + 1) (by omega) (by omega) _ _ _ (show x_D AA G ss.heap lo (mco G lo (nS S) (va_up (mS S m) 4 (m_pv S m t1 a b c d (k + 1)))) H locs from (show mco G lo (nS S) (va_up (va_up (mS S m) 4 (m_pv S m t1 a b c d k)) 4 (upd ((va_up (mS S m) 4 (m_pv S m t1 a b c d k)) 4) (((240 * t1) + (4 * ((sT S t1).1 3))) + k) y7_s0)) = mco G lo (nS S) (va_up (mS S m) 4 (m_pv S m t1 a b c d (k + 1))) from by rw [va_up_up]; exact congrArg (fun f => mco G lo (nS S) (va_up (mS S m) 4 f)) (m_pv_s (by assumption) rfl)) ▸ hW) (lv_sub hl [0, 1, 2, 3, 4, 5, 6] rfl)
                  refine x_ifN_ne (tgt := 129) cx dX11_put_122 (by decide) (by omega) (fun h122_8 => ?_) (fun h122_8 => ?_)
                  · skip
                    refine lv_iload hx hb dX11_put_129 (lv_at hl 0 rfl) ?_
                    refine lv_iconst (v := nI 1) hx hb dX11_put_131 rfl ?_
                    refine x_icmp_ne (tgt := 139) cx dX11_put_132 (by decide) (by omega) (fun h132_9 => ?_) (fun h132_9 => ?_)
                    · skip
                      refine lv_iload hx hb dX11_put_139 (lv_at hl 0 rfl) ?_
                      refine lv_iconst (v := nI 2) hx hb dX11_put_141 rfl ?_
                      refine x_icmp_ne (tgt := 150) cx dX11_put_142 (by decide) (by omega) (fun h142_10 => ?_) (fun h142_10 => ?_)
                      · skip
                        refine lv_iload hx hb dX11_put_150 (lv_at hl 6 rfl) ?_
                        exact J152_7 d (by rw [if_neg h122_8, if_neg h132_9, if_neg h142_10]) _ (lv_sub hl [0, 1, 2, 3, 4, 5, 6] rfl)
                      · skip
                        refine lv_iload hx hb dX11_put_145 (lv_at hl 5 rfl) ?_
                        refine lv_goto (tgt := 152) hx hb dX11_put_147 (by decide) ?_
                        exact J152_7 c (by rw [if_neg h122_8, if_neg h132_9, if_pos h142_10]) _ (lv_sub hl [0, 1, 2, 3, 4, 5, 6] rfl)
                    · skip
                      refine lv_iload_n hx hb dX11_put_135 rfl (lv_at hl 4 rfl) ?_
                      refine lv_goto (tgt := 152) hx hb dX11_put_136 (by decide) ?_
                      exact J152_7 b (by rw [if_neg h122_8, if_pos h132_9]) _ (lv_sub hl [0, 1, 2, 3, 4, 5, 6] rfl)
                  · skip
                    refine lv_iload_n hx hb dX11_put_125 rfl (lv_at hl 3 rfl) ?_
                    refine lv_goto (tgt := 152) hx hb dX11_put_126 (by decide) ?_
                    exact J152_7 a (by rw [if_pos h122_8]) _ (lv_sub hl [0, 1, 2, 3, 4, 5, 6] rfl)
            exact L88_5 (_ + 1) 0 (by omega) (Nat.lt_succ_self _) _ _ _ (show x_D AA G ss.heap lo (mco G lo (nS S) (va_up (mS S m) 4 (m_pv S m t1 a b c d 0))) H locs from (show mco G lo (nS S) (mS S m) = mco G lo (nS S) (va_up (mS S m) 4 (m_pv S m t1 a b c d 0)) from by rw [m_pv_0, va_up_id]) ▸ hW) (lv_sub hl [0, 1, 2, 3, 4, 5, 6] rfl)
          · skip
            refine lv_iload hx hb dX11_put_35 (lv_at hl 0 rfl) ?_
            have J67_11 : ∀ (y11_s0 : Int32) (ey11_s0 : y11_s0 = if k = 0 then a else (if k = 1 then b else (if k = 2 then c else d))) (ls : Array Slot), lv_has ls 7 [(6, .int (nI k)), (0, .ref (lo (0))), (1, .int (nI t1)), (2, .int (a)), (3, .int (b)), (4, .int (c)), (5, .int (d))] → x_ww l 3 0 0 pp ee ss mm av bb mt cd G po AA H locs 0 0 67 ls [.int (y11_s0)] := by
              intro y11_s0 ey11_s0 ls hl
              have dy11_s0 : (k = 0 ∧ (y11_s0 = a)) ∨ (¬ (k = 0) ∧ ((k = 1 ∧ (y11_s0 = b)) ∨ (¬ (k = 1) ∧ ((k = 2 ∧ (y11_s0 = c)) ∨ (¬ (k = 2) ∧ (y11_s0 = d)))))) := by rw [ey11_s0]; repeat' (first | (exact rfl) | (split <;> first | (refine Or.inl ⟨by assumption, ?_⟩) | (refine Or.inr ⟨by assumption, ?_⟩)))
              refine lv_iconst (v := nI 0) hx hb dX11_put_67 rfl ?_
              refine lv_sipush (v := nI 999) hx hb dX11_put_68 rfl ?_
              refine x_rdS (av := [.int (y11_s0), .int (nI 0), .int (nI 999)]) (rest := []) cx hk hw cs_RX11_89 (m_lies y11_s0 (nI 0) (nI 999)) hl.1 rfl rfl (Nat.le_of_ble_eq_true rfl) ⟨by decide, by decide⟩ ⟨Nat.zero_le _, Nat.zero_le _⟩ dX11_put_71 ?_
              have ear : y11_s0 = s_arg a b c d k := ey11_s0
              refine x_if_ne (tgt := 79) cx dX11_put_74 (by decide) (fun h74_12 => ?_) (fun h74_12 => ?_)
              · skip
                refine lv_iinc (v := nI (k + 1)) (lv' := [(6, .int (nI (k + 1))), (0, .ref (lo (0))), (1, .int (nI t1)), (2, .int (a)), (3, .int (b)), (4, .int (c)), (5, .int (d))]) hx hb dX11_put_79 hl (k := 0) rfl (nI_add _ 1) (by decide) rfl (fun ls hl => ?_)
                refine lv_goto (tgt := 24) hx hb dX11_put_82 (by decide) ?_
                exact ih24_3 (k + 1) (by omega) (by exact allN_step hall (by rw [← ear]; assumption)) (by omega) _ _ _ hW (lv_sub hl [0, 1, 2, 3, 4, 5, 6] rfl)
              · skip
                refine lv_iconst (v := (-1)) hx hb dX11_put_77 rfl ?_
                exact y_iret cx hW hr hlk ⟨by decide, by decide⟩ dX11_put_78 (by rw [← hpo]; rw [show P_put S t a b c d = (-1, S) from by unfold P_put; rw [if_neg (fun w => by have w2 := w.2.2; rw [ht3, nI_clamp (by omega), s_vals, allN_no (k := k) (by omega) (by rw [← ear]; assumption)] at w2; exact absurd w2 (by decide))]; done]; exact ⟨rfl, rfl, m, hM, rfl⟩)
            refine x_ifN_ne (tgt := 44) cx dX11_put_37 (by decide) (by omega) (fun h37_13 => ?_) (fun h37_13 => ?_)
            · skip
              refine lv_iload hx hb dX11_put_44 (lv_at hl 0 rfl) ?_
              refine lv_iconst (v := nI 1) hx hb dX11_put_46 rfl ?_
              refine x_icmp_ne (tgt := 54) cx dX11_put_47 (by decide) (by omega) (fun h47_14 => ?_) (fun h47_14 => ?_)
              · skip
                refine lv_iload hx hb dX11_put_54 (lv_at hl 0 rfl) ?_
                refine lv_iconst (v := nI 2) hx hb dX11_put_56 rfl ?_
                refine x_icmp_ne (tgt := 65) cx dX11_put_57 (by decide) (by omega) (fun h57_15 => ?_) (fun h57_15 => ?_)
                · skip
                  refine lv_iload hx hb dX11_put_65 (lv_at hl 6 rfl) ?_
                  exact J67_11 d (by rw [if_neg h37_13, if_neg h47_14, if_neg h57_15]) _ (lv_sub hl [0, 1, 2, 3, 4, 5, 6] rfl)
                · skip
                  refine lv_iload hx hb dX11_put_60 (lv_at hl 5 rfl) ?_
                  refine lv_goto (tgt := 67) hx hb dX11_put_62 (by decide) ?_
                  exact J67_11 c (by rw [if_neg h37_13, if_neg h47_14, if_pos h57_15]) _ (lv_sub hl [0, 1, 2, 3, 4, 5, 6] rfl)
              · skip
                refine lv_iload_n hx hb dX11_put_50 rfl (lv_at hl 4 rfl) ?_
                refine lv_goto (tgt := 67) hx hb dX11_put_51 (by decide) ?_
                exact J67_11 b (by rw [if_neg h37_13, if_pos h47_14]) _ (lv_sub hl [0, 1, 2, 3, 4, 5, 6] rfl)
            · skip
              refine lv_iload_n hx hb dX11_put_40 rfl (lv_at hl 3 rfl) ?_
              refine lv_goto (tgt := 67) hx hb dX11_put_41 (by decide) ?_
              exact J67_11 a (by rw [if_pos h37_13]) _ (lv_sub hl [0, 1, 2, 3, 4, 5, 6] rfl)
      exact L24_3 (_ + 1) 0 (by omega) (by rfl) (Nat.lt_succ_self _) _ _ _ hW (lv_sub hl [0, 1, 2, 3, 4, 5, 6] rfl)
    · skip
      refine lv_iconst (v := (-1)) hx hb dX11_put_19 rfl ?_
      exact y_iret cx hW hr hlk ⟨by decide, by decide⟩ dX11_put_20 (by rw [← hpo]; first | (rw [show P_put S t a b c d = (-1, S) from by unfold P_put; rw [if_neg (fun w => Bool.noConfusion ((by assumption : m_isT S t = false).symm.trans w.1))]; done]; exact ⟨rfl, rfl, m, hM, rfl⟩) | (rw [show P_put S t a b c d = (-1, S) from by unfold P_put; rw [if_neg (fun w => w.2.1 (by rw [ht3, nI_clamp (by omega)]; assumption))]; done]; exact ⟨rfl, rfl, m, hM, rfl⟩))
set_option maxHeartbeats 4000000 in
set_option maxRecDepth 100000 in
theorem w_strike {l : Launch} {G : x_G} {lo : x_L} (S : St) (m : Nat → Nat → Int32) (hS : Sok S) (hM : Mok S m) (t r : Int32) : x_Wr l G lo (mco G lo (nS S) (mS S m)) yX11_strike cX11_strike 4 (some .boolean) 3 0 0 [.ref (lo (0)), .int (t), .int (r)] (m_post G lo (P_strike S t r).2 (some (.int (bI (P_strike S t r).1)))) := by
  refine x_wenter RX11 rfl (by decide) (Nat.le_of_ble_eq_true rfl) ?_
  intro pp ee ss mm bb mt cd ls AA cx hk hW hA hr hlk hnm hl
  have hl : lv_has ls 4 [(0, .ref (lo (0))), (1, .int (t)), (2, .int (r))] := hl
  generalize hav : ([.ref (lo (0)), .int (t), .int (r)] : List Value).toArray = av at cx ⊢
  generalize hpo : (m_post G lo (P_strike S t r).2 (some (.int (bI (P_strike S t r).1)))) = po
  have hx := cx.1
  have hb := cx.2.1
  have hown := cx.2.2.2.1
  have hts := cx.2.2.2.2
  have hw := hW.1
  obtain ⟨s1, s2, s3, s4, s5, s6⟩ := id hS
  have hm := m_isM G lo S m
  refine lv_aload_n hx hb dX11_strike_0 rfl (lv_at hl 0 rfl) ?_
  refine lv_iload_n hx hb dX11_strike_1 rfl (lv_at hl 1 rfl) ?_
  refine x_rdV (av := [.int (t)]) (rest := []) cx hk hw (rfl) cv_RX11_93_10 (m_isTab S m hm hS t) hl.1 rfl rfl (Nat.le_of_ble_eq_true rfl) ⟨by decide, by decide⟩ ⟨Nat.zero_le _, Nat.zero_le _⟩ dX11_strike_2 ?_
  refine x_if_eq (tgt := 24) cx dX11_strike_5 (by decide) (fun h5_1 => ?_) (fun h5_1 => ?_)
  · skip
    refine lv_iconst (v := nI 0) hx hb dX11_strike_24 rfl ?_
    exact y_zret (false) cx hW hr hlk ⟨by decide, by decide⟩ dX11_strike_25 rfl (by rw [← hpo]; first | (rw [show P_strike S t r = (false, S) from by unfold P_strike; rw [if_neg (fun w => Bool.noConfusion ((by assumption : m_isT S t = false).symm.trans w.1))]; done]; exact ⟨rfl, rfl, m, hM, rfl⟩) | (rw [show P_strike S t r = (false, S) from by unfold P_strike; rw [if_neg (fun w => by have w2 := w.2; rw [ht3, nI_clamp (by omega)] at w2; exact Bool.noConfusion ((by assumption : x_in ((sT S t1).1 3) r = false).symm.trans w2))]; done]; exact ⟨rfl, rfl, m, hM, rfl⟩))
  · skip
    obtain ⟨t1, ht1, ht2, ht3⟩ := m_isT_ex (by assumption)
    rw [ht3] at hl
    have hT := (s1 t1 ht1).1 ht2
    obtain ⟨k1, k2, k3, k4, k5, k6, k7, k8, k9, k0⟩ := id hT
    refine lv_iload_n hx hb dX11_strike_8 rfl (lv_at hl 2 rfl) ?_
    refine lv_iconst (v := nI 0) hx hb dX11_strike_9 rfl ?_
    refine lv_aload_n hx hb dX11_strike_10 rfl (lv_at hl 0 rfl) ?_
    refine x_get cx hk hw (rfl) f_RX11_16_10 rfl dX11_strike_11 ?_
    refine lv_iload_n hx hb dX11_strike_14 rfl (lv_at hl 1 rfl) ?_
    refine x_ialdE (x := nI ((sT S t1).1 3)) cx hk hw (show mco G lo (nS S) (mS S m) 3 = some (.inl (G.2 0, 4, .inl ((mS S m) 3))) from rfl) (by omega) (by decide) (rfl) dX11_strike_15 ?_
    refine lv_iconst (v := nI 1) hx hb dX11_strike_16 rfl ?_
    refine lv_isub hx hb dX11_strike_17 ?_
    refine x_rdS (av := [.int (r), .int (nI 0), .int ((nI ((sT S t1).1 3)) - (nI 1))]) (rest := []) cx hk hw cs_RX11_89 (m_lies r (nI 0) ((nI ((sT S t1).1 3)) - (nI 1))) hl.1 rfl rfl (Nat.le_of_ble_eq_true rfl) ⟨by decide, by decide⟩ ⟨Nat.zero_le _, Nat.zero_le _⟩ dX11_strike_18 ?_
    rw [s_btw_sub (by omega)]
    refine x_if_ne (tgt := 26) cx dX11_strike_21 (by decide) (fun h21_2 => ?_) (fun h21_2 => ?_)
    · skip
      obtain ⟨r1, hr1, hr3⟩ := x_in_ex (n := (sT S t1).1 3) (q := r) (by omega) (by assumption)
      rw [hr3] at hl
      refine lv_aload_n hx hb dX11_strike_26 rfl (lv_at hl 0 rfl) ?_
      refine x_get cx hk hw (rfl) f_RX11_16_10 rfl dX11_strike_27 ?_
      refine lv_iload_n hx hb dX11_strike_30 rfl (lv_at hl 1 rfl) ?_
      refine lv_dup2_11 hx hb dX11_strike_31 rfl rfl ?_
      refine x_ialdE (x := nI ((sT S t1).1 3)) cx hk hw (show mco G lo (nS S) (mS S m) 3 = some (.inl (G.2 0, 4, .inl ((mS S m) 3))) from rfl) (by omega) (by decide) (rfl) dX11_strike_32 ?_
      refine lv_iconst (v := nI 1) hx hb dX11_strike_33 rfl ?_
      refine x_isubN cx (by omega) dX11_strike_34 ?_
      refine y_ist 3 4 (by decide) cx hk hW (by omega) dX11_strike_35 (fun H locs hW => ?_)
      have hw := hW.1
      refine lv_sipush (v := nI 240) hx hb dX11_strike_36 rfl ?_
      refine lv_iload_n hx hb dX11_strike_39 rfl (lv_at hl 1 rfl) ?_
      refine x_imulN cx dX11_strike_40 ?_
      refine lv_iconst (v := nI 4) hx hb dX11_strike_41 rfl ?_
      refine lv_iload_n hx hb dX11_strike_42 rfl (lv_at hl 2 rfl) ?_
      refine x_imulN cx dX11_strike_43 ?_
      refine x_iaddN cx dX11_strike_44 ?_
      refine lv_istore_n (lv' := [(3, .int (nI ((240 * t1) + (4 * r1)))), (0, .ref (lo (0))), (1, .int (nI t1)), (2, .int (nI r1))]) hx hb dX11_strike_45 rfl hl (by decide) rfl (fun ls hl => ?_)
      have L46_3 : ∀ (n_ : Nat) (k : Nat), (240 * t1 + 4 * r1 ≤ k) → (k ≤ 240 * t1 + 4 * ((sT S t1).1 3 - 1)) → 240 * t1 + 4 * ((sT S t1).1 3 - 1) - k < n_ → ∀ (H : Heap) (locs : List Loc) (ls : Array Slot), x_D AA G ss.heap lo (mco G lo (nS S) (va_up (va_up (mS S m) 3 (upd (mS S m 3) t1 (nI ((sT S t1).1 3 - 1)))) 4 (m_sv S m t1 r1 k))) H locs → lv_has ls 4 [(3, .int (nI k)), (0, .ref (lo (0))), (1, .int (nI t1)), (2, .int (nI r1))] → x_ww l 3 0 0 pp ee ss mm av bb mt cd G po AA H locs 0 0 46 ls [] := by
        intro n_
        induction n_ with
        | zero => intro k hk1 hk2 hm_ H locs ls hW hl; exact absurd hm_ (Nat.not_lt_zero _)
        | succ n_ ih46_3 =>
          intro k hk1 hk2 hm_ H locs ls hW hl
          have hw := hW.1
          refine lv_iload_n hx hb dX11_strike_46 rfl (lv_at hl 0 rfl) ?_
          refine lv_sipush (v := nI 240) hx hb dX11_strike_47 rfl ?_
          refine lv_iload_n hx hb dX11_strike_50 rfl (lv_at hl 2 rfl) ?_
          refine x_imulN cx dX11_strike_51 ?_
          refine lv_iconst (v := nI 4) hx hb dX11_strike_52 rfl ?_
          refine lv_aload_n hx hb dX11_strike_53 rfl (lv_at hl 1 rfl) ?_
          refine x_get cx hk hw (rfl) f_RX11_16_10 rfl dX11_strike_54 ?_
          refine lv_iload_n hx hb dX11_strike_57 rfl (lv_at hl 2 rfl) ?_
          refine x_ialdE (x := nI ((sT S t1).1 3 - 1)) cx hk hw (show mco G lo (nS S) (va_up (va_up (mS S m) 3 (upd (mS S m 3) t1 (nI ((sT S t1).1 3 - 1)))) 4 (m_sv S m t1 r1 k)) 3 = some (.inl (G.2 0, 4, .inl ((va_up (va_up (mS S m) 3 (upd (mS S m 3) t1 (nI ((sT S t1).1 3 - 1)))) 4 (m_sv S m t1 r1 k)) 3))) from rfl) (by omega) (by decide) (by show upd _ t1 _ t1 = _; exact if_pos rfl) dX11_strike_58 ?_
          refine x_imulN cx dX11_strike_59 ?_
          refine x_iaddN cx dX11_strike_60 ?_
          refine x_icmp_ge (tgt := 84) cx dX11_strike_61 (by decide) (by omega) (fun h61_4 => ?_) (fun h61_4 => ?_)
          · skip
            refine lv_iconst (v := nI 1) hx hb dX11_strike_84 rfl ?_
            exact y_zret (true) cx hW hr hlk ⟨by decide, by decide⟩ dX11_strike_85 rfl (by rw [← hpo]; rw [show P_strike S t r = (true, setT S t1 (strT (sT S t1) r1)) from by unfold P_strike; rw [ht3, hr3, nI_clamp (by omega), nI_clamp (by omega)]; exact if_pos ⟨by rw [← ht3]; assumption, by rw [← hr3]; assumption⟩]; exact ⟨rfl, rfl, m, hM, wstr hT hr1 (by omega)⟩)
          · skip
            refine lv_aload_n hx hb dX11_strike_64 rfl (lv_at hl 1 rfl) ?_
            refine x_get cx hk hw (rfl) f_RX11_19_10 rfl dX11_strike_65 ?_
            refine lv_iload_n hx hb dX11_strike_68 rfl (lv_at hl 0 rfl) ?_
            refine lv_aload_n hx hb dX11_strike_69 rfl (lv_at hl 1 rfl) ?_
            refine x_get cx hk hw (rfl) f_RX11_19_10 rfl dX11_strike_70 ?_
            refine lv_iload_n hx hb dX11_strike_73 rfl (lv_at hl 0 rfl) ?_
            refine lv_iconst (v := nI 4) hx hb dX11_strike_74 rfl ?_
            refine x_iaddN cx dX11_strike_75 ?_
            refine x_ialdE (x := mS S m 4 (k + 4)) cx hk hw (show mco G lo (nS S) (va_up (va_up (mS S m) 3 (upd (mS S m 3) t1 (nI ((sT S t1).1 3 - 1)))) 4 (m_sv S m t1 r1 k)) 4 = some (.inl (G.2 0, 960, .inl ((va_up (va_up (mS S m) 3 (upd (mS S m 3) t1 (nI ((sT S t1).1 3 - 1)))) 4 (m_sv S m t1 r1 k)) 4))) from rfl) (by omega) (by decide) (by show m_sv S m t1 r1 k _ = _; unfold m_sv; rw [if_neg (by omega)]) dX11_strike_76 ?_
            refine y_ist 4 960 (by decide) cx hk hW (by omega) dX11_strike_77 (fun H locs hW => ?_)
            have hw := hW.1
            refine lv_iinc (v := nI (k + 1)) (lv' := [(3, .int (nI (k + 1))), (0, .ref (lo (0))), (1, .int (nI t1)), (2, .int (nI r1))]) hx hb dX11_strike_78 hl (k := 0) rfl (nI_add _ 1) (by decide) rfl (fun ls hl => ?_)
            refine lv_goto (tgt := 46) hx hb dX11_strike_81 (by decide) ?_
            exact ih46_3 (k + 1) (by omega) (by omega) (by omega) _ _ _ (show x_D AA G ss.heap lo (mco G lo (nS S) (va_up (va_up (mS S m) 3 (upd (mS S m 3) t1 (nI ((sT S t1).1 3 - 1)))) 4 (m_sv S m t1 r1 (k + 1)))) H locs from (show mco G lo (nS S) (va_up (va_up (va_up (mS S m) 3 (upd (mS S m 3) t1 (nI ((sT S t1).1 3 - 1)))) 4 (m_sv S m t1 r1 k)) 4 (upd ((va_up (va_up (mS S m) 3 (upd (mS S m 3) t1 (nI ((sT S t1).1 3 - 1)))) 4 (m_sv S m t1 r1 k)) 4) k (mS S m 4 (k + 4)))) = mco G lo (nS S) (va_up (va_up (mS S m) 3 (upd (mS S m 3) t1 (nI ((sT S t1).1 3 - 1)))) 4 (m_sv S m t1 r1 (k + 1))) from by rw [va_up_up]; exact congrArg (fun f => mco G lo (nS S) (va_up (va_up (mS S m) 3 (upd (mS S m 3) t1 (nI ((sT S t1).1 3 - 1)))) 4 f)) (m_sv_s hk1)) ▸ hW) (lv_sub hl [0, 1, 2, 3] rfl)
      exact L46_3 (_ + 1) ((240 * t1) + (4 * r1)) (by omega) (by omega) (Nat.lt_succ_self _) _ _ _ (show x_D AA G ss.heap lo (mco G lo (nS S) (va_up (va_up (mS S m) 3 (upd (mS S m 3) t1 (nI ((sT S t1).1 3 - 1)))) 4 (m_sv S m t1 r1 ((240 * t1) + (4 * r1))))) H locs from (show mco G lo (nS S) (va_up (mS S m) 3 (upd ((mS S m) 3) t1 (nI (((sT S t1).1 3) - 1)))) = mco G lo (nS S) (va_up (va_up (mS S m) 3 (upd (mS S m 3) t1 (nI ((sT S t1).1 3 - 1)))) 4 (m_sv S m t1 r1 ((240 * t1) + (4 * r1)))) from by rw [m_sv_0]; exact congrArg (mco G lo (nS S)) (va_up_id (va_up (mS S m) 3 (upd (mS S m 3) t1 (nI ((sT S t1).1 3 - 1)))) 4).symm) ▸ hW) (lv_sub hl [0, 1, 2, 3] rfl)
    · skip
      refine lv_iconst (v := nI 0) hx hb dX11_strike_24 rfl ?_
      exact y_zret (false) cx hW hr hlk ⟨by decide, by decide⟩ dX11_strike_25 rfl (by rw [← hpo]; first | (rw [show P_strike S t r = (false, S) from by unfold P_strike; rw [if_neg (fun w => Bool.noConfusion ((by assumption : m_isT S t = false).symm.trans w.1))]; done]; exact ⟨rfl, rfl, m, hM, rfl⟩) | (rw [show P_strike S t r = (false, S) from by unfold P_strike; rw [if_neg (fun w => by have w2 := w.2; rw [ht3, nI_clamp (by omega)] at w2; exact Bool.noConfusion ((by assumption : x_in ((sT S t1).1 3) r = false).symm.trans w2))]; done]; exact ⟨rfl, rfl, m, hM, rfl⟩))
set_option maxHeartbeats 4000000 in
set_option maxRecDepth 100000 in
theorem w_build {l : Launch} {G : x_G} {lo : x_L} (S : St) (m : Nat → Nat → Int32) (hS : Sok S) (hM : Mok S m) (a : Int32) (is : Bool) : x_Wr l G lo (mco G lo (nS S) (mS S m)) yX11_build cX11_build 3 (some .boolean) 3 0 0 [.ref (lo (0)), .int (a), .int (bI (is))] (m_post G lo (P_build S a is).2 (some (.int (bI (P_build S a is).1)))) := by
  refine x_wenter RX11 rfl (by decide) (Nat.le_of_ble_eq_true rfl) ?_
  intro pp ee ss mm bb mt cd ls AA cx hk hW hA hr hlk hnm hl
  have hl : lv_has ls 3 [(0, .ref (lo (0))), (1, .int (a)), (2, .int (bI (is)))] := hl
  generalize hav : ([.ref (lo (0)), .int (a), .int (bI (is))] : List Value).toArray = av at cx ⊢
  generalize hpo : (m_post G lo (P_build S a is).2 (some (.int (bI (P_build S a is).1)))) = po
  have hx := cx.1
  have hb := cx.2.1
  have hown := cx.2.2.2.1
  have hts := cx.2.2.2.2
  have hw := hW.1
  obtain ⟨s1, s2, s3, s4, s5, s6⟩ := id hS
  have hm := m_isM G lo S m
  have hb12 := Sok.b12 hS
  refine lv_aload_n hx hb dX11_build_0 rfl (lv_at hl 0 rfl) ?_
  refine lv_iload_n hx hb dX11_build_1 rfl (lv_at hl 1 rfl) ?_
  refine x_rdV (av := [.int (a)]) (rest := []) cx hk hw (rfl) cv_RX11_137_10 (m_isA S m hm hS a) hl.1 rfl rfl (Nat.le_of_ble_eq_true rfl) ⟨by decide, by decide⟩ ⟨Nat.zero_le _, Nat.zero_le _⟩ dX11_build_2 ?_
  refine x_if_eq (tgt := 39) cx dX11_build_5 (by decide) (fun h5_1 => ?_) (fun h5_1 => ?_)
  · skip
    refine lv_iconst (v := nI 0) hx hb dX11_build_39 rfl ?_
    exact y_zret (false) cx hW hr hlk ⟨by decide, by decide⟩ dX11_build_40 rfl (by rw [← hpo]; first | (rw [show P_build S a is = (false, S) from by unfold P_build; rw [if_neg (fun w => Bool.noConfusion ((by assumption : x_in (sn S 1) a = false).symm.trans w.1))]; done]; exact ⟨rfl, rfl, m, hM, rfl⟩) | (rw [show P_build S a is = (false, S) from by unfold P_build; rw [if_neg (fun w => by have w2 := w.2.1; rw [ha3, nI_clamp (by omega)] at w2; exact w2 (bI_inj (by assumption)))]; done]; exact ⟨rfl, rfl, m, hM, rfl⟩) | (rw [show P_build S a is = (false, S) from by unfold P_build; rw [if_neg (fun w => by have w2 := w.2.2 (by assumption); rw [ha3, nI_clamp (by omega)] at w2; exact Bool.noConfusion ((by assumption : m_set S (sn S 2 ||| 2 ^ a1) = false).symm.trans w2))]; done]; exact ⟨rfl, rfl, m, hM, rfl⟩))
  · skip
    obtain ⟨a1, ha1, ha3⟩ := x_in_ex (n := sn S 1) (q := a) (by omega) (by assumption)
    rw [ha3] at hl
    have hor := or_lt s4 ha1
    have hpw : 2 ^ a1 < 2 ^ sn S 1 := Nat.pow_lt_pow_right (by decide) ha1
    refine lv_aload_n hx hb dX11_build_8 rfl (lv_at hl 0 rfl) ?_
    refine x_get cx hk hw (rfl) f_RX11_140_10 rfl dX11_build_9 ?_
    refine lv_iload_n hx hb dX11_build_12 rfl (lv_at hl 1 rfl) ?_
    refine x_rdS (av := [.int (nI (sn S 2)), .int (nI a1)]) (rest := []) cx hk hw cs_RX11_97 (m_isIn (sn S 2) a1 (by omega) (by omega)) hl.1 rfl rfl (Nat.le_of_ble_eq_true rfl) ⟨by decide, by decide⟩ ⟨Nat.zero_le _, Nat.zero_le _⟩ dX11_build_13 ?_
    refine lv_iload_n hx hb dX11_build_16 rfl (lv_at hl 2 rfl) ?_
    refine lv_icmp_eq (tgt := 39) hx hb dX11_build_17 (by decide) (fun h17_2 => ?_) (fun h17_2 => ?_)
    · skip
      refine lv_iconst (v := nI 0) hx hb dX11_build_39 rfl ?_
      exact y_zret (false) cx hW hr hlk ⟨by decide, by decide⟩ dX11_build_40 rfl (by rw [← hpo]; first | (rw [show P_build S a is = (false, S) from by unfold P_build; rw [if_neg (fun w => Bool.noConfusion ((by assumption : x_in (sn S 1) a = false).symm.trans w.1))]; done]; exact ⟨rfl, rfl, m, hM, rfl⟩) | (rw [show P_build S a is = (false, S) from by unfold P_build; rw [if_neg (fun w => by have w2 := w.2.1; rw [ha3, nI_clamp (by omega)] at w2; exact w2 (bI_inj (by assumption)))]; done]; exact ⟨rfl, rfl, m, hM, rfl⟩) | (rw [show P_build S a is = (false, S) from by unfold P_build; rw [if_neg (fun w => by have w2 := w.2.2 (by assumption); rw [ha3, nI_clamp (by omega)] at w2; exact Bool.noConfusion ((by assumption : m_set S (sn S 2 ||| 2 ^ a1) = false).symm.trans w2))]; done]; exact ⟨rfl, rfl, m, hM, rfl⟩))
    · skip
      refine lv_iload_n hx hb dX11_build_20 rfl (lv_at hl 2 rfl) ?_
      refine x_if_eq (tgt := 41) cx dX11_build_21 (by decide) (fun h21_3 => ?_) (fun h21_3 => ?_)
      · skip
        refine lv_aload_n hx hb dX11_build_41 rfl (lv_at hl 0 rfl) ?_
        refine lv_dup hx hb dX11_build_42 rfl ?_
        refine x_get cx hk hw (rfl) f_RX11_140_10 rfl dX11_build_43 ?_
        refine lv_iconst (v := nI 1) hx hb dX11_build_46 rfl ?_
        refine lv_iload_n hx hb dX11_build_47 rfl (lv_at hl 1 rfl) ?_
        refine x_ishlB cx (by omega) dX11_build_48 ?_
        refine x_ixorB cx dX11_build_49 ?_
        refine y_pt 2 rfl (by decide) cx hk hW p_RX11_140_10 dX11_build_50 (fun H locs hW => ?_)
        have hw := hW.1
        refine lv_iconst (v := nI 1) hx hb dX11_build_53 rfl ?_
        exact y_zret (true) cx hW hr hlk ⟨by decide, by decide⟩ dX11_build_54 rfl (by rw [← hpo]; rw [show P_build S a is = (true, setB S (sn S 2 ^^^ 2 ^ a1)) from by unfold P_build; rw [ha3, nI_clamp (by omega)]; exact if_pos ⟨by rw [← ha3]; assumption, fun w => (by assumption : ¬ bI ((sn S 2).testBit a1) = bI is) (congrArg bI w), fun w => by first | assumption | (exact Bool.noConfusion ((by assumption : is = false).symm.trans w))⟩]; exact ⟨rfl, rfl, m, hM, wbld _⟩)
      · skip
        refine lv_aload_n hx hb dX11_build_24 rfl (lv_at hl 0 rfl) ?_
        refine lv_aload_n hx hb dX11_build_25 rfl (lv_at hl 0 rfl) ?_
        refine x_get cx hk hw (rfl) f_RX11_140_10 rfl dX11_build_26 ?_
        refine lv_iconst (v := nI 1) hx hb dX11_build_29 rfl ?_
        refine lv_iload_n hx hb dX11_build_30 rfl (lv_at hl 1 rfl) ?_
        refine x_ishlB cx (by omega) dX11_build_31 ?_
        refine x_iorB cx dX11_build_32 ?_
        refine x_rdV (av := [.int (nI ((sn S 2) ||| (2 ^ a1)))]) (rest := []) cx hk hw (rfl) cv_RX11_143_10 (m_isSet S m hm hS (nI ((sn S 2) ||| (2 ^ a1)))) hl.1 rfl rfl (Nat.le_of_ble_eq_true rfl) ⟨by decide, by decide⟩ ⟨Nat.zero_le _, Nat.zero_le _⟩ dX11_build_33 ?_
        rw [m_isS_nI hS (by omega), decide_eq_true hor, Bool.true_and]
        refine x_if_ne (tgt := 41) cx dX11_build_36 (by decide) (fun h36_4 => ?_) (fun h36_4 => ?_)
        · skip
          refine lv_aload_n hx hb dX11_build_41 rfl (lv_at hl 0 rfl) ?_
          refine lv_dup hx hb dX11_build_42 rfl ?_
          refine x_get cx hk hw (rfl) f_RX11_140_10 rfl dX11_build_43 ?_
          refine lv_iconst (v := nI 1) hx hb dX11_build_46 rfl ?_
          refine lv_iload_n hx hb dX11_build_47 rfl (lv_at hl 1 rfl) ?_
          refine x_ishlB cx (by omega) dX11_build_48 ?_
          refine x_ixorB cx dX11_build_49 ?_
          refine y_pt 2 rfl (by decide) cx hk hW p_RX11_140_10 dX11_build_50 (fun H locs hW => ?_)
          have hw := hW.1
          refine lv_iconst (v := nI 1) hx hb dX11_build_53 rfl ?_
          exact y_zret (true) cx hW hr hlk ⟨by decide, by decide⟩ dX11_build_54 rfl (by rw [← hpo]; rw [show P_build S a is = (true, setB S (sn S 2 ^^^ 2 ^ a1)) from by unfold P_build; rw [ha3, nI_clamp (by omega)]; exact if_pos ⟨by rw [← ha3]; assumption, fun w => (by assumption : ¬ bI ((sn S 2).testBit a1) = bI is) (congrArg bI w), fun w => by first | assumption | (exact Bool.noConfusion ((by assumption : is = false).symm.trans w))⟩]; exact ⟨rfl, rfl, m, hM, wbld _⟩)
        · skip
          refine lv_iconst (v := nI 0) hx hb dX11_build_39 rfl ?_
          exact y_zret (false) cx hW hr hlk ⟨by decide, by decide⟩ dX11_build_40 rfl (by rw [← hpo]; first | (rw [show P_build S a is = (false, S) from by unfold P_build; rw [if_neg (fun w => Bool.noConfusion ((by assumption : x_in (sn S 1) a = false).symm.trans w.1))]; done]; exact ⟨rfl, rfl, m, hM, rfl⟩) | (rw [show P_build S a is = (false, S) from by unfold P_build; rw [if_neg (fun w => by have w2 := w.2.1; rw [ha3, nI_clamp (by omega)] at w2; exact w2 (bI_inj (by assumption)))]; done]; exact ⟨rfl, rfl, m, hM, rfl⟩) | (rw [show P_build S a is = (false, S) from by unfold P_build; rw [if_neg (fun w => by have w2 := w.2.2 (by assumption); rw [ha3, nI_clamp (by omega)] at w2; exact Bool.noConfusion ((by assumption : m_set S (sn S 2 ||| 2 ^ a1) = false).symm.trans w2))]; done]; exact ⟨rfl, rfl, m, hM, rfl⟩))
