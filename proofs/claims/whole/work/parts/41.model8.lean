set_option maxHeartbeats 4000000 in
set_option maxRecDepth 100000 in
theorem m_atW {l : Launch} {G : x_G} {lo : x_L} {co : x_C} (S : St) (m : Nat → Nat → Int32) (n : Nat → Int32) (hS : Sok S) (ho : co 0 = some (.inr (10, m_obj lo n))) (hv : co 4 = some (.inl (G.2 0, 960, .inl (mS S m 4)))) (t r c : Nat) (ht_ : t < 4) (ht2 : 0 < (sT S t).1 1) (hr_ : r < (sT S t).1 3) (hc_ : c < (sT S t).1 1) : x_Rd l G lo co yX11_at cX11_at 4 (some .int) 1 [.ref (lo (0)), .int (nI t), .int (nI r), .int (nI c)] (some (.int (nI (t_v (sT S t) r c)))) := by
  refine x_enter RX11 rfl (by decide) (Nat.le_of_ble_eq_true rfl) ?_
  intro pp ee ss mm bb mt cd ls cx hk hw hr hlk hl
  have hl : lv_has ls 4 [(0, .ref (lo (0))), (1, .int (nI t)), (2, .int (nI r)), (3, .int (nI c))] := hl
  generalize hav : ([.ref (lo (0)), .int (nI t), .int (nI r), .int (nI c)] : List Value).toArray = av at cx ⊢
  generalize hvv : (some (.int (nI (t_v (sT S t) r c))) : Option Value) = vv
  have hx := cx.1
  have hb := cx.2.1
  have hown := cx.2.2.2.1
  have hts := cx.2.2.2.2
  obtain ⟨s1, s2, s3, s4, s5, s6⟩ := id hS
  have hT := (s1 t ht_).1 ht2
  obtain ⟨k1, k2, k3, k4, k5, k6, k7, k8, k9, k0⟩ := id hT
  refine lv_aload_n hx hb dX11_at_0 rfl (lv_at hl 0 rfl) ?_
  refine x_get cx hk hw (ho) f_RX11_19_10 rfl dX11_at_1 ?_
  refine lv_sipush (v := nI 240) hx hb dX11_at_4 rfl ?_
  refine lv_iload_n hx hb dX11_at_7 rfl (lv_at hl 1 rfl) ?_
  refine x_imulN cx dX11_at_8 ?_
  refine lv_iconst (v := nI 4) hx hb dX11_at_9 rfl ?_
  refine lv_iload_n hx hb dX11_at_10 rfl (lv_at hl 2 rfl) ?_
  refine x_imulN cx dX11_at_11 ?_
  refine x_iaddN cx dX11_at_12 ?_
  refine lv_iload_n hx hb dX11_at_13 rfl (lv_at hl 3 rfl) ?_
  refine x_iaddN cx dX11_at_14 ?_
  refine x_ialdE (x := nI ((sT S ((((240 * t) + (4 * r)) + c) / 240)).2 0 ((((240 * t) + (4 * r)) + c) % 240))) cx hk hw (hv) (by omega) (by decide) (rfl) dX11_at_15 ?_
  exact x_iret cx hr hlk dX11_at_16 ((congrArg (fun z => some (Value.int (nI z))) (show (sT S ((((240 * t) + (4 * r)) + c) / 240)).2 0 ((((240 * t) + (4 * r)) + c) % 240) = t_v (sT S t) r c from by rw [t_v, if_pos ⟨hr_, hc_⟩, show (240 * t) + (4 * r) + c = 240 * t + (r * 4 + c) by omega, (dm240 (t := t) (c := r * 4 + c) (by omega)).1, (dm240 (t := t) (c := r * 4 + c) (by omega)).2])).trans hvv)
set_option maxHeartbeats 4000000 in
set_option maxRecDepth 100000 in
theorem w_recount {l : Launch} {G : x_G} {lo : x_L} (S : St) (m : Nat → Nat → Int32) (hS : Sok S) (hM : Mok S m) (t : Int32) : x_Wr l G lo (mco G lo (nS S) (mS S m)) yX11_recount cX11_recount 8 (some .int) 4 0 0 [.ref (lo (0)), .int (t)] (m_post G lo (P_recount S t).2 (some (.int (P_recount S t).1))) := by
  refine x_wenter RX11 rfl (by decide) (Nat.le_of_ble_eq_true rfl) ?_
  intro pp ee ss mm bb mt cd ls AA cx hk hW hA hr hlk hnm hl
  have hl : lv_has ls 8 [(0, .ref (lo (0))), (1, .int (t))] := hl
  generalize hav : ([.ref (lo (0)), .int (t)] : List Value).toArray = av at cx ⊢
  generalize hpo : (m_post G lo (P_recount S t).2 (some (.int (P_recount S t).1))) = po
  have hx := cx.1
  have hb := cx.2.1
  have hown := cx.2.2.2.1
  have hts := cx.2.2.2.2
  have hw := hW.1
  obtain ⟨s1, s2, s3, s4, s5, s6⟩ := id hS
  have hm := m_isM G lo S m
  refine lv_aload_n hx hb dX11_recount_0 rfl (lv_at hl 0 rfl) ?_
  refine lv_iload_n hx hb dX11_recount_1 rfl (lv_at hl 1 rfl) ?_
  refine x_rdV (av := [.int (t)]) (rest := []) cx hk hw (rfl) cv_RX11_93_10 (m_isTab S m hm hS t) hl.1 rfl rfl (Nat.le_of_ble_eq_true rfl) ⟨by decide, by decide⟩ ⟨Nat.zero_le _, Nat.zero_le _⟩ dX11_recount_2 ?_
  refine x_if_ne (tgt := 10) cx dX11_recount_5 (by decide) (fun h5_1 => ?_) (fun h5_1 => ?_)
  · skip
    obtain ⟨t1, ht1, ht2, ht3⟩ := m_isT_ex (by assumption)
    rw [ht3] at hl
    have hT := (s1 t1 ht1).1 ht2
    obtain ⟨k1, k2, k3, k4, k5, k6, k7, k8, k9, k0⟩ := id hT
    refine lv_aload_n hx hb dX11_recount_10 rfl (lv_at hl 0 rfl) ?_
    refine x_get cx hk hw (rfl) f_RX11_22_10 rfl dX11_recount_11 ?_
    refine lv_iload_n hx hb dX11_recount_14 rfl (lv_at hl 1 rfl) ?_
    refine lv_aload_n hx hb dX11_recount_15 rfl (lv_at hl 0 rfl) ?_
    refine x_get cx hk hw (rfl) f_RX11_16_10 rfl dX11_recount_16 ?_
    refine lv_iload_n hx hb dX11_recount_19 rfl (lv_at hl 1 rfl) ?_
    refine x_ialdE (x := nI ((sT S t1).1 3)) cx hk hw (show mco G lo (nS S) (mS S m) 3 = some (.inl (G.2 0, 4, .inl ((mS S m) 3))) from rfl) (by first | omega | (have f1 := t_v_le hT r c; have f2 := t_v_le hT q c; have f3 := rc_l_le hT c r; have f4 := rc_g_le hT c r; omega)) (by decide) (rfl) dX11_recount_20 ?_
    refine y_ist 5 4 (by decide) cx hk hW (by first | omega | (have f1 := t_v_le hT r c; have f2 := t_v_le hT q c; have f3 := rc_l_le hT c r; have f4 := rc_g_le hT c r; omega)) dX11_recount_21 (fun H locs hW => ?_)
    have hw := hW.1
    refine lv_iconst (v := nI 0) hx hb dX11_recount_22 rfl ?_
    refine lv_istore_n (lv' := [(2, .int (nI 0)), (0, .ref (lo (0))), (1, .int (nI t1))]) hx hb dX11_recount_23 rfl hl (by decide) rfl (fun ls hl => ?_)
    have L24_2 : ∀ (n_ : Nat) (c : Nat), (c ≤ (sT S t1).1 1) → (sT S t1).1 1 - c < n_ → ∀ (H : Heap) (locs : List Loc) (ls : Array Slot), x_D AA G ss.heap lo (mco G lo (nS S) (m_r0 S m t1 c)) H locs → lv_has ls 8 [(2, .int (nI c)), (0, .ref (lo (0))), (1, .int (nI t1))] → x_ww l 4 0 0 pp ee ss mm av bb mt cd G po AA H locs 0 0 24 ls [] := by
      intro n_
      induction n_ with
      | zero => intro c hc hm_ H locs ls hW hl; exact absurd hm_ (Nat.not_lt_zero _)
      | succ n_ ih24_2 =>
        intro c hc hm_ H locs ls hW hl
        have hw := hW.1
        refine lv_iload_n hx hb dX11_recount_24 rfl (lv_at hl 0 rfl) ?_
        refine lv_aload_n hx hb dX11_recount_25 rfl (lv_at hl 1 rfl) ?_
        refine x_get cx hk hw (rfl) f_RX11_7_10 rfl dX11_recount_26 ?_
        refine lv_iload_n hx hb dX11_recount_29 rfl (lv_at hl 2 rfl) ?_
        refine x_ialdE (x := nI ((sT S t1).1 1)) cx hk hw (show mco G lo (nS S) (m_r0 S m t1 c) 1 = some (.inl (G.2 0, 4, .inl ((m_r0 S m t1 c) 1))) from rfl) (by first | omega | (have f1 := t_v_le hT r c; have f2 := t_v_le hT q c; have f3 := rc_l_le hT c r; have f4 := rc_g_le hT c r; omega)) (by decide) (rfl) dX11_recount_30 ?_
        refine x_icmp_ge (tgt := 226) cx dX11_recount_31 (by decide) (by first | omega | (have f1 := t_v_le hT r c; have f2 := t_v_le hT q c; have f3 := rc_l_le hT c r; have f4 := rc_g_le hT c r; omega)) (fun h31_3 => ?_) (fun h31_3 => ?_)
        · skip
          refine lv_aload_n hx hb dX11_recount_226 rfl (lv_at hl 1 rfl) ?_
          refine x_get cx hk hw (rfl) f_RX11_22_10 rfl dX11_recount_227 ?_
          refine lv_iload_n hx hb dX11_recount_230 rfl (lv_at hl 2 rfl) ?_
          refine x_ialdE (x := nI ((sT S t1).1 3)) cx hk hw (show mco G lo (nS S) (m_r0 S m t1 c) 5 = some (.inl (G.2 0, 4, .inl ((m_r0 S m t1 c) 5))) from rfl) (by first | omega | (have f1 := t_v_le hT r c; have f2 := t_v_le hT q c; have f3 := rc_l_le hT c r; have f4 := rc_g_le hT c r; omega)) (by decide) (by show upd _ _ _ _ = _; exact if_pos rfl) dX11_recount_231 ?_
          exact y_iret cx hW hr hlk ⟨by decide, by decide⟩ dX11_recount_232 (by rw [← hpo]; rw [show P_recount S t = (nI ((sT S t1).1 3), setT S t1 (recT (sT S t1))) from by unfold P_recount; rw [if_pos (by assumption), ht3, nI_clamp (by omega)]]; exact ⟨rfl, rfl, m, hM, m_r_end hT (by omega)⟩)
        · skip
          refine lv_iconst (v := nI 4) hx hb dX11_recount_34 rfl ?_
          refine lv_iload_n hx hb dX11_recount_35 rfl (lv_at hl 2 rfl) ?_
          refine x_imulN cx dX11_recount_36 ?_
          refine lv_iload_n hx hb dX11_recount_37 rfl (lv_at hl 0 rfl) ?_
          refine x_iaddN cx dX11_recount_38 ?_
          refine lv_istore_n (lv' := [(3, .int (nI ((4 * t1) + c))), (2, .int (nI c)), (0, .ref (lo (0))), (1, .int (nI t1))]) hx hb dX11_recount_39 rfl hl (by decide) rfl (fun ls hl => ?_)
          refine lv_aload_n hx hb dX11_recount_40 rfl (lv_at hl 2 rfl) ?_
          refine x_get cx hk hw (rfl) f_RX11_25_10 rfl dX11_recount_41 ?_
          refine lv_iload_n hx hb dX11_recount_44 rfl (lv_at hl 0 rfl) ?_
          refine lv_iconst (v := nI 0) hx hb dX11_recount_45 rfl ?_
          refine y_ist 6 16 (by decide) cx hk hW (by first | omega | (have f1 := t_v_le hT r c; have f2 := t_v_le hT q c; have f3 := rc_l_le hT c r; have f4 := rc_g_le hT c r; omega)) dX11_recount_46 (fun H locs hW => ?_)
          have hw := hW.1
          refine lv_aload_n hx hb dX11_recount_47 rfl (lv_at hl 2 rfl) ?_
          refine x_get cx hk hw (rfl) f_RX11_28_10 rfl dX11_recount_48 ?_
          refine lv_iload_n hx hb dX11_recount_51 rfl (lv_at hl 0 rfl) ?_
          refine lv_iconst (v := nI 0) hx hb dX11_recount_52 rfl ?_
          refine y_ist 7 16 (by decide) cx hk hW (by first | omega | (have f1 := t_v_le hT r c; have f2 := t_v_le hT q c; have f3 := rc_l_le hT c r; have f4 := rc_g_le hT c r; omega)) dX11_recount_53 (fun H locs hW => ?_)
          have hw := hW.1
          refine lv_aload_n hx hb dX11_recount_54 rfl (lv_at hl 2 rfl) ?_
          refine x_get cx hk hw (rfl) f_RX11_31_10 rfl dX11_recount_55 ?_
          refine lv_iload_n hx hb dX11_recount_58 rfl (lv_at hl 0 rfl) ?_
          refine lv_iconst (v := nI 0) hx hb dX11_recount_59 rfl ?_
          refine y_ist 8 16 (by decide) cx hk hW (by first | omega | (have f1 := t_v_le hT r c; have f2 := t_v_le hT q c; have f3 := rc_l_le hT c r; have f4 := rc_g_le hT c r; omega)) dX11_recount_60 (fun H locs hW => ?_)
          have hw := hW.1
          refine lv_iconst (v := nI 0) hx hb dX11_recount_61 rfl ?_
          refine lv_istore (lv' := [(4, .int (nI 0)), (3, .int (nI ((4 * t1) + c))), (2, .int (nI c)), (0, .ref (lo (0))), (1, .int (nI t1))]) hx hb dX11_recount_62 hl (by decide) rfl (fun ls hl => ?_)
          have L64_4 : ∀ (n_ : Nat) (r : Nat), (r ≤ (sT S t1).1 3) → (sT S t1).1 3 - r < n_ → ∀ (H : Heap) (locs : List Loc) (ls : Array Slot), x_D AA G ss.heap lo (mco G lo (nS S) (m_r1 S m t1 c r)) H locs → lv_has ls 8 [(4, .int (nI r)), (3, .int (nI ((4 * t1) + c))), (2, .int (nI c)), (0, .ref (lo (0))), (1, .int (nI t1))] → x_ww l 4 0 0 pp ee ss mm av bb mt cd G po AA H locs 0 0 64 ls [] := by
            intro n_
            induction n_ with
            | zero => intro r hr1 hm_ H locs ls hW hl; exact absurd hm_ (Nat.not_lt_zero _)
            | succ n_ ih64_4 =>
              intro r hr1 hm_ H locs ls hW hl
              have hw := hW.1
              refine lv_iload hx hb dX11_recount_64 (lv_at hl 0 rfl) ?_
              refine lv_aload_n hx hb dX11_recount_66 rfl (lv_at hl 3 rfl) ?_
              refine x_get cx hk hw (rfl) f_RX11_16_10 rfl dX11_recount_67 ?_
              refine lv_iload_n hx hb dX11_recount_70 rfl (lv_at hl 4 rfl) ?_
              refine x_ialdE (x := nI ((sT S t1).1 3)) cx hk hw (show mco G lo (nS S) (m_r1 S m t1 c r) 3 = some (.inl (G.2 0, 4, .inl ((m_r1 S m t1 c r) 3))) from rfl) (by first | omega | (have f1 := t_v_le hT r c; have f2 := t_v_le hT q c; have f3 := rc_l_le hT c r; have f4 := rc_g_le hT c r; omega)) (by decide) (rfl) dX11_recount_71 ?_
              refine x_icmp_ge (tgt := 220) cx dX11_recount_72 (by decide) (by first | omega | (have f1 := t_v_le hT r c; have f2 := t_v_le hT q c; have f3 := rc_l_le hT c r; have f4 := rc_g_le hT c r; omega)) (fun h72_5 => ?_) (fun h72_5 => ?_)
              · skip
                refine lv_iinc (v := nI (c + 1)) (lv' := [(2, .int (nI (c + 1))), (4, .int (nI r)), (3, .int (nI ((4 * t1) + c))), (0, .ref (lo (0))), (1, .int (nI t1))]) hx hb dX11_recount_220 hl (k := 2) rfl (nI_add _ 1) (by decide) rfl (fun ls hl => ?_)
                refine lv_goto (tgt := 24) hx hb dX11_recount_223 (by decide) ?_
                exact ih24_2 (c + 1) (by omega) (by omega) _ _ _ (show x_D AA G ss.heap lo (mco G lo (nS S) (m_r0 S m t1 (c + 1))) H locs from (show mco G lo (nS S) (m_r1 S m t1 c r) = mco G lo (nS S) (m_r0 S m t1 (c + 1)) from by exact m_r_next (by omega)) ▸ hW) (lv_sub hl [0, 3, 4] rfl)
              · skip
                have f1 := t_v_le hT r c
                have f3 := rc_l_le hT c r
                have f4 := rc_g_le hT c r
                have f5 : rc_u (sT S t1) c r ≤ r := cntN_le r
                refine lv_aload_n hx hb dX11_recount_75 rfl (lv_at hl 3 rfl) ?_
                refine lv_iload_n hx hb dX11_recount_76 rfl (lv_at hl 4 rfl) ?_
                refine lv_iload hx hb dX11_recount_77 (lv_at hl 0 rfl) ?_
                refine lv_iload_n hx hb dX11_recount_79 rfl (lv_at hl 2 rfl) ?_
                refine x_rdV (av := [.int (nI t1), .int (nI r), .int (nI c)]) (rest := []) cx hk hw (rfl) cv_RX11_101_10 (m_atW S m (nS S) hS rfl rfl t1 r c (by first | assumption | omega) (by first | assumption | omega) (by first | assumption | omega) (by first | assumption | omega)) hl.1 rfl rfl (Nat.le_of_ble_eq_true rfl) ⟨by decide, by decide⟩ ⟨Nat.zero_le _, Nat.zero_le _⟩ dX11_recount_80 ?_
                refine lv_istore (lv' := [(5, .int (nI (t_v (sT S t1) r c))), (4, .int (nI r)), (3, .int (nI ((4 * t1) + c))), (2, .int (nI c)), (0, .ref (lo (0))), (1, .int (nI t1))]) hx hb dX11_recount_83 hl (by decide) rfl (fun ls hl => ?_)
                refine lv_iconst (v := nI 1) hx hb dX11_recount_85 rfl ?_
                refine lv_istore (lv' := [(6, .int (nI 1)), (5, .int (nI (t_v (sT S t1) r c))), (4, .int (nI r)), (3, .int (nI ((4 * t1) + c))), (2, .int (nI c)), (0, .ref (lo (0))), (1, .int (nI t1))]) hx hb dX11_recount_86 hl (by decide) rfl (fun ls hl => ?_)
                refine lv_iconst (v := nI 0) hx hb dX11_recount_88 rfl ?_
                refine lv_istore (lv' := [(7, .int (nI 0)), (6, .int (nI 1)), (5, .int (nI (t_v (sT S t1) r c))), (4, .int (nI r)), (3, .int (nI ((4 * t1) + c))), (2, .int (nI c)), (0, .ref (lo (0))), (1, .int (nI t1))]) hx hb dX11_recount_89 hl (by decide) rfl (fun ls hl => ?_)
                have L91_6 : ∀ (n_ : Nat) (x : Nat) (q : Nat), (q ≤ r) → (x = if allN q (fun q => !decide (t_v (sT S t1) q c = t_v (sT S t1) r c)) = true then 1 else 0) → r - q < n_ → ∀ (H : Heap) (locs : List Loc) (ls : Array Slot), x_D AA G ss.heap lo (mco G lo (nS S) (m_r1 S m t1 c r)) H locs → lv_has ls 8 [(7, .int (nI q)), (6, .int (nI x)), (5, .int (nI (t_v (sT S t1) r c))), (4, .int (nI r)), (3, .int (nI ((4 * t1) + c))), (2, .int (nI c)), (0, .ref (lo (0))), (1, .int (nI t1))] → x_ww l 4 0 0 pp ee ss mm av bb mt cd G po AA H locs 0 0 91 ls [] := by
                  intro n_
                  induction n_ with
                  | zero => intro x q hq hx_ hm_ H locs ls hW hl; exact absurd hm_ (Nat.not_lt_zero _)
                  | succ n_ ih91_6 =>
                    intro x q hq hx_ hm_ H locs ls hW hl
                    have hw := hW.1
                    have hx1 : x ≤ 1 := by rw [hx_]; split <;> omega
                    refine lv_iload hx hb dX11_recount_91 (lv_at hl 0 rfl) ?_
                    refine lv_iload hx hb dX11_recount_93 (lv_at hl 3 rfl) ?_
                    refine x_icmp_ge (tgt := 129) cx dX11_recount_95 (by decide) (by first | omega | (have f1 := t_v_le hT r c; have f2 := t_v_le hT q c; have f3 := rc_l_le hT c r; have f4 := rc_g_le hT c r; omega)) (fun h95_7 => ?_) (fun h95_7 => ?_)
                    · skip
                      refine lv_aload_n hx hb dX11_recount_129 rfl (lv_at hl 6 rfl) ?_
                      refine x_get cx hk hw (rfl) f_RX11_25_10 rfl dX11_recount_130 ?_
                      refine lv_iload_n hx hb dX11_recount_133 rfl (lv_at hl 4 rfl) ?_
                      refine lv_dup2_11 hx hb dX11_recount_134 rfl rfl ?_
                      refine x_ialdE (x := nI (rc_u (sT S t1) c r)) cx hk hw (show mco G lo (nS S) (m_r1 S m t1 c r) 6 = some (.inl (G.2 0, 16, .inl ((m_r1 S m t1 c r) 6))) from rfl) (by first | omega | (have f1 := t_v_le hT r c; have f2 := t_v_le hT q c; have f3 := rc_l_le hT c r; have f4 := rc_g_le hT c r; omega)) (by decide) (by show upd _ _ _ _ = _; exact if_pos rfl) dX11_recount_135 ?_
                      refine lv_iload hx hb dX11_recount_136 (lv_at hl 1 rfl) ?_
                      have J146_8 : ∀ (y8_s0 : Nat) (ey8_s0 : y8_s0 = if x = 0 then 0 else 1) (ls : Array Slot), lv_has ls 8 [(7, .int (nI q)), (6, .int (nI x)), (5, .int (nI (t_v (sT S t1) r c))), (4, .int (nI r)), (3, .int (nI ((4 * t1) + c))), (2, .int (nI c)), (0, .ref (lo (0))), (1, .int (nI t1))] → x_ww l 4 0 0 pp ee ss mm av bb mt cd G po AA H locs 0 0 146 ls [.int (nI y8_s0), .int (nI (rc_u (sT S t1) c r)), .int (nI ((4 * t1) + c)), .ref (lo (6))] := by
                        intro y8_s0 ey8_s0 ls hl
                        have dy8_s0 : (x = 0 ∧ (y8_s0 = 0)) ∨ (¬ (x = 0) ∧ (y8_s0 = 1)) := by rw [ey8_s0]; repeat' (first | (exact rfl) | (split <;> first | (refine Or.inl ⟨by assumption, ?_⟩) | (refine Or.inr ⟨by assumption, ?_⟩)))
                        refine x_iaddN cx dX11_recount_146 ?_
                        refine y_ist 6 16 (by decide) cx hk hW (by first | omega | (have f1 := t_v_le hT r c; have f2 := t_v_le hT q c; have f3 := rc_l_le hT c r; have f4 := rc_g_le hT c r; omega)) dX11_recount_147 (fun H locs hW => ?_)
                        have hw := hW.1
                        refine lv_aload_n hx hb dX11_recount_148 rfl (lv_at hl 6 rfl) ?_
                        refine x_get cx hk hw (rfl) f_RX11_28_10 rfl dX11_recount_149 ?_
                        refine lv_iload_n hx hb dX11_recount_152 rfl (lv_at hl 4 rfl) ?_
                        refine lv_iload hx hb dX11_recount_153 (lv_at hl 3 rfl) ?_
                        have J180_9 : ∀ (y9_s0 : Nat) (ey9_s0 : y9_s0 = if r = 0 then (t_v (sT S t1) r c) else (if (rc_l (sT S t1) c r) ≤ (t_v (sT S t1) r c) then (rc_l (sT S t1) c r) else (t_v (sT S t1) r c))) (ls : Array Slot), lv_has ls 8 [(7, .int (nI q)), (6, .int (nI x)), (5, .int (nI (t_v (sT S t1) r c))), (4, .int (nI r)), (3, .int (nI ((4 * t1) + c))), (2, .int (nI c)), (0, .ref (lo (0))), (1, .int (nI t1))] → x_ww l 4 0 0 pp ee ss mm av bb mt cd G po AA H locs 0 0 180 ls [.int (nI y9_s0), .int (nI ((4 * t1) + c)), .ref (lo (7))] := by
                          intro y9_s0 ey9_s0 ls hl
                          have dy9_s0 : (r = 0 ∧ (y9_s0 = (t_v (sT S t1) r c))) ∨ (¬ (r = 0) ∧ (((rc_l (sT S t1) c r) ≤ (t_v (sT S t1) r c) ∧ (y9_s0 = (rc_l (sT S t1) c r))) ∨ (¬ ((rc_l (sT S t1) c r) ≤ (t_v (sT S t1) r c)) ∧ (y9_s0 = (t_v (sT S t1) r c))))) := by rw [ey9_s0]; repeat' (first | (exact rfl) | (split <;> first | (refine Or.inl ⟨by assumption, ?_⟩) | (refine Or.inr ⟨by assumption, ?_⟩)))
                          refine y_ist 7 16 (by decide) cx hk hW (by first | omega | (have f1 := t_v_le hT r c; have f2 := t_v_le hT q c; have f3 := rc_l_le hT c r; have f4 := rc_g_le hT c r; omega)) dX11_recount_180 (fun H locs hW => ?_)
                          have hw := hW.1
                          refine lv_aload_n hx hb dX11_recount_181 rfl (lv_at hl 6 rfl) ?_
                          refine x_get cx hk hw (rfl) f_RX11_31_10 rfl dX11_recount_182 ?_
                          refine lv_iload_n hx hb dX11_recount_185 rfl (lv_at hl 4 rfl) ?_
                          refine lv_iload hx hb dX11_recount_186 (lv_at hl 3 rfl) ?_
                          have J213_10 : ∀ (y10_s0 : Nat) (ey10_s0 : y10_s0 = if r = 0 then (t_v (sT S t1) r c) else (if (t_v (sT S t1) r c) ≤ (rc_g (sT S t1) c r) then (rc_g (sT S t1) c r) else (t_v (sT S t1) r c))) (ls : Array Slot), lv_has ls 8 [(7, .int (nI q)), (6, .int (nI x)), (5, .int (nI (t_v (sT S t1) r c))), (4, .int (nI r)), (3, .int (nI ((4 * t1) + c))), (2, .int (nI c)), (0, .ref (lo (0))), (1, .int (nI t1))] → x_ww l 4 0 0 pp ee ss mm av bb mt cd G po AA H locs 0 0 213 ls [.int (nI y10_s0), .int (nI ((4 * t1) + c)), .ref (lo (8))] := by
                            intro y10_s0 ey10_s0 ls hl
                            have dy10_s0 : (r = 0 ∧ (y10_s0 = (t_v (sT S t1) r c))) ∨ (¬ (r = 0) ∧ (((t_v (sT S t1) r c) ≤ (rc_g (sT S t1) c r) ∧ (y10_s0 = (rc_g (sT S t1) c r))) ∨ (¬ ((t_v (sT S t1) r c) ≤ (rc_g (sT S t1) c r)) ∧ (y10_s0 = (t_v (sT S t1) r c))))) := by rw [ey10_s0]; repeat' (first | (exact rfl) | (split <;> first | (refine Or.inl ⟨by assumption, ?_⟩) | (refine Or.inr ⟨by assumption, ?_⟩)))
                            refine y_ist 8 16 (by decide) cx hk hW (by first | omega | (have f1 := t_v_le hT r c; have f2 := t_v_le hT q c; have f3 := rc_l_le hT c r; have f4 := rc_g_le hT c r; omega)) dX11_recount_213 (fun H locs hW => ?_)
                            have hw := hW.1
                            refine lv_iinc (v := nI (r + 1)) (lv' := [(4, .int (nI (r + 1))), (7, .int (nI q)), (6, .int (nI x)), (5, .int (nI (t_v (sT S t1) r c))), (3, .int (nI ((4 * t1) + c))), (2, .int (nI c)), (0, .ref (lo (0))), (1, .int (nI t1))]) hx hb dX11_recount_214 hl (k := 3) rfl (nI_add _ 1) (by decide) rfl (fun ls hl => ?_)
                            refine lv_goto (tgt := 64) hx hb dX11_recount_217 (by decide) ?_
                            exact ih64_4 (r + 1) (by omega) (by omega) _ _ _ (show x_D AA G ss.heap lo (mco G lo (nS S) (m_r1 S m t1 c (r + 1))) H locs from (show mco G lo (nS S) (va_up (va_up (va_up (m_r1 S m t1 c r) 6 (upd ((m_r1 S m t1 c r) 6) ((4 * t1) + c) (nI ((rc_u (sT S t1) c r) + y8_s0)))) 7 (upd ((va_up (m_r1 S m t1 c r) 6 (upd ((m_r1 S m t1 c r) 6) ((4 * t1) + c) (nI ((rc_u (sT S t1) c r) + y8_s0)))) 7) ((4 * t1) + c) (nI y9_s0))) 8 (upd ((va_up (va_up (m_r1 S m t1 c r) 6 (upd ((m_r1 S m t1 c r) 6) ((4 * t1) + c) (nI ((rc_u (sT S t1) c r) + y8_s0)))) 7 (upd ((va_up (m_r1 S m t1 c r) 6 (upd ((m_r1 S m t1 c r) 6) ((4 * t1) + c) (nI ((rc_u (sT S t1) c r) + y8_s0)))) 7) ((4 * t1) + c) (nI y9_s0))) 8) ((4 * t1) + c) (nI y10_s0))) = mco G lo (nS S) (m_r1 S m t1 c (r + 1)) from by exact m_r_step (by have e_ : q = r := (by omega); rw [show rc_u (sT S t1) c (r + 1) = rc_u (sT S t1) c r + (if allN r (fun q => !decide (t_v (sT S t1) q c = t_v (sT S t1) r c)) = true then 1 else 0) from rfl, ← e_]; congr 1; simp only [*]; cases (allN r (fun q => !decide (t_v (sT S t1) q c = t_v (sT S t1) r c))) <;> rfl) (rc_l_s (by assumption)) (rc_g_s (by assumption))) ▸ hW) (lv_sub hl [0, 4, 5, 6, 7] rfl)
                          refine x_ifN_eq (tgt := 202) cx dX11_recount_188 (by decide) (by first | omega | (have f1 := t_v_le hT r c; have f2 := t_v_le hT q c; have f3 := rc_l_le hT c r; have f4 := rc_g_le hT c r; omega)) (fun h188_11 => ?_) (fun h188_11 => ?_)
                          · skip
                            refine lv_iload hx hb dX11_recount_202 (lv_at hl 2 rfl) ?_
                            refine lv_goto (tgt := 213) hx hb dX11_recount_204 (by decide) ?_
                            exact J213_10 (t_v (sT S t1) r c) (by rw [if_pos h188_11]) _ (lv_sub hl [0, 1, 2, 3, 4, 5, 6, 7] rfl)
                          · skip
                            refine lv_iload hx hb dX11_recount_191 (lv_at hl 2 rfl) ?_
                            refine lv_aload_n hx hb dX11_recount_193 rfl (lv_at hl 6 rfl) ?_
                            refine x_get cx hk hw (rfl) f_RX11_31_10 rfl dX11_recount_194 ?_
                            refine lv_iload_n hx hb dX11_recount_197 rfl (lv_at hl 4 rfl) ?_
                            refine x_ialdE (x := nI (rc_g (sT S t1) c r)) cx hk hw (show mco G lo (nS S) (va_up (va_up (m_r1 S m t1 c r) 6 (upd ((m_r1 S m t1 c r) 6) ((4 * t1) + c) (nI ((rc_u (sT S t1) c r) + y8_s0)))) 7 (upd ((va_up (m_r1 S m t1 c r) 6 (upd ((m_r1 S m t1 c r) 6) ((4 * t1) + c) (nI ((rc_u (sT S t1) c r) + y8_s0)))) 7) ((4 * t1) + c) (nI y9_s0))) 8 = some (.inl (G.2 0, 16, .inl ((va_up (va_up (m_r1 S m t1 c r) 6 (upd ((m_r1 S m t1 c r) 6) ((4 * t1) + c) (nI ((rc_u (sT S t1) c r) + y8_s0)))) 7 (upd ((va_up (m_r1 S m t1 c r) 6 (upd ((m_r1 S m t1 c r) 6) ((4 * t1) + c) (nI ((rc_u (sT S t1) c r) + y8_s0)))) 7) ((4 * t1) + c) (nI y9_s0))) 8))) from rfl) (by first | omega | (have f1 := t_v_le hT r c; have f2 := t_v_le hT q c; have f3 := rc_l_le hT c r; have f4 := rc_g_le hT c r; omega)) (by decide) (by show upd _ _ _ _ = _; exact if_pos rfl) dX11_recount_198 ?_
                            refine x_icmp_le (tgt := 207) cx dX11_recount_199 (by decide) (by first | omega | (have f1 := t_v_le hT r c; have f2 := t_v_le hT q c; have f3 := rc_l_le hT c r; have f4 := rc_g_le hT c r; omega)) (fun h199_12 => ?_) (fun h199_12 => ?_)
                            · skip
                              refine lv_aload_n hx hb dX11_recount_207 rfl (lv_at hl 6 rfl) ?_
                              refine x_get cx hk hw (rfl) f_RX11_31_10 rfl dX11_recount_208 ?_
                              refine lv_iload_n hx hb dX11_recount_211 rfl (lv_at hl 4 rfl) ?_
                              refine x_ialdE (x := nI (rc_g (sT S t1) c r)) cx hk hw (show mco G lo (nS S) (va_up (va_up (m_r1 S m t1 c r) 6 (upd ((m_r1 S m t1 c r) 6) ((4 * t1) + c) (nI ((rc_u (sT S t1) c r) + y8_s0)))) 7 (upd ((va_up (m_r1 S m t1 c r) 6 (upd ((m_r1 S m t1 c r) 6) ((4 * t1) + c) (nI ((rc_u (sT S t1) c r) + y8_s0)))) 7) ((4 * t1) + c) (nI y9_s0))) 8 = some (.inl (G.2 0, 16, .inl ((va_up (va_up (m_r1 S m t1 c r) 6 (upd ((m_r1 S m t1 c r) 6) ((4 * t1) + c) (nI ((rc_u (sT S t1) c r) + y8_s0)))) 7 (upd ((va_up (m_r1 S m t1 c r) 6 (upd ((m_r1 S m t1 c r) 6) ((4 * t1) + c) (nI ((rc_u (sT S t1) c r) + y8_s0)))) 7) ((4 * t1) + c) (nI y9_s0))) 8))) from rfl) (by first | omega | (have f1 := t_v_le hT r c; have f2 := t_v_le hT q c; have f3 := rc_l_le hT c r; have f4 := rc_g_le hT c r; omega)) (by decide) (by show upd _ _ _ _ = _; exact if_pos rfl) dX11_recount_212 ?_
                              exact J213_10 (rc_g (sT S t1) c r) (by rw [if_neg h188_11, if_pos h199_12]) _ (lv_sub hl [0, 1, 2, 3, 4, 5, 6, 7] rfl)
                            · skip
                              refine lv_iload hx hb dX11_recount_202 (lv_at hl 2 rfl) ?_
                              refine lv_goto (tgt := 213) hx hb dX11_recount_204 (by decide) ?_
                              exact J213_10 (t_v (sT S t1) r c) (by rw [if_neg h188_11, if_neg h199_12]) _ (lv_sub hl [0, 1, 2, 3, 4, 5, 6, 7] rfl)
                        refine x_ifN_eq (tgt := 169) cx dX11_recount_155 (by decide) (by first | omega | (have f1 := t_v_le hT r c; have f2 := t_v_le hT q c; have f3 := rc_l_le hT c r; have f4 := rc_g_le hT c r; omega)) (fun h155_13 => ?_) (fun h155_13 => ?_)
                        · skip
                          refine lv_iload hx hb dX11_recount_169 (lv_at hl 2 rfl) ?_
                          refine lv_goto (tgt := 180) hx hb dX11_recount_171 (by decide) ?_
                          exact J180_9 (t_v (sT S t1) r c) (by rw [if_pos h155_13]) _ (lv_sub hl [0, 1, 2, 3, 4, 5, 6, 7] rfl)
                        · skip
                          refine lv_iload hx hb dX11_recount_158 (lv_at hl 2 rfl) ?_
                          refine lv_aload_n hx hb dX11_recount_160 rfl (lv_at hl 6 rfl) ?_
                          refine x_get cx hk hw (rfl) f_RX11_28_10 rfl dX11_recount_161 ?_
                          refine lv_iload_n hx hb dX11_recount_164 rfl (lv_at hl 4 rfl) ?_
                          refine x_ialdE (x := nI (rc_l (sT S t1) c r)) cx hk hw (show mco G lo (nS S) (va_up (m_r1 S m t1 c r) 6 (upd ((m_r1 S m t1 c r) 6) ((4 * t1) + c) (nI ((rc_u (sT S t1) c r) + y8_s0)))) 7 = some (.inl (G.2 0, 16, .inl ((va_up (m_r1 S m t1 c r) 6 (upd ((m_r1 S m t1 c r) 6) ((4 * t1) + c) (nI ((rc_u (sT S t1) c r) + y8_s0)))) 7))) from rfl) (by first | omega | (have f1 := t_v_le hT r c; have f2 := t_v_le hT q c; have f3 := rc_l_le hT c r; have f4 := rc_g_le hT c r; omega)) (by decide) (by show upd _ _ _ _ = _; exact if_pos rfl) dX11_recount_165 ?_
                          refine x_icmp_ge (tgt := 174) cx dX11_recount_166 (by decide) (by first | omega | (have f1 := t_v_le hT r c; have f2 := t_v_le hT q c; have f3 := rc_l_le hT c r; have f4 := rc_g_le hT c r; omega)) (fun h166_14 => ?_) (fun h166_14 => ?_)
                          · skip
                            refine lv_aload_n hx hb dX11_recount_174 rfl (lv_at hl 6 rfl) ?_
                            refine x_get cx hk hw (rfl) f_RX11_28_10 rfl dX11_recount_175 ?_
                            refine lv_iload_n hx hb dX11_recount_178 rfl (lv_at hl 4 rfl) ?_
                            refine x_ialdE (x := nI (rc_l (sT S t1) c r)) cx hk hw (show mco G lo (nS S) (va_up (m_r1 S m t1 c r) 6 (upd ((m_r1 S m t1 c r) 6) ((4 * t1) + c) (nI ((rc_u (sT S t1) c r) + y8_s0)))) 7 = some (.inl (G.2 0, 16, .inl ((va_up (m_r1 S m t1 c r) 6 (upd ((m_r1 S m t1 c r) 6) ((4 * t1) + c) (nI ((rc_u (sT S t1) c r) + y8_s0)))) 7))) from rfl) (by first | omega | (have f1 := t_v_le hT r c; have f2 := t_v_le hT q c; have f3 := rc_l_le hT c r; have f4 := rc_g_le hT c r; omega)) (by decide) (by show upd _ _ _ _ = _; exact if_pos rfl) dX11_recount_179 ?_
                            exact J180_9 (rc_l (sT S t1) c r) (by rw [if_neg h155_13, if_pos h166_14]) _ (lv_sub hl [0, 1, 2, 3, 4, 5, 6, 7] rfl)
                          · skip
                            refine lv_iload hx hb dX11_recount_169 (lv_at hl 2 rfl) ?_
                            refine lv_goto (tgt := 180) hx hb dX11_recount_171 (by decide) ?_
                            exact J180_9 (t_v (sT S t1) r c) (by rw [if_neg h155_13, if_neg h166_14]) _ (lv_sub hl [0, 1, 2, 3, 4, 5, 6, 7] rfl)
                      refine x_ifN_eq (tgt := 145) cx dX11_recount_138 (by decide) (by first | omega | (have f1 := t_v_le hT r c; have f2 := t_v_le hT q c; have f3 := rc_l_le hT c r; have f4 := rc_g_le hT c r; omega)) (fun h138_15 => ?_) (fun h138_15 => ?_)
                      · skip
                        refine lv_iconst (v := nI 0) hx hb dX11_recount_145 rfl ?_
                        exact J146_8 0 (by rw [if_pos h138_15]) _ (lv_sub hl [0, 1, 2, 3, 4, 5, 6, 7] rfl)
                      · skip
                        refine lv_iconst (v := nI 1) hx hb dX11_recount_141 rfl ?_
                        refine lv_goto (tgt := 146) hx hb dX11_recount_142 (by decide) ?_
                        exact J146_8 1 (by rw [if_neg h138_15]) _ (lv_sub hl [0, 1, 2, 3, 4, 5, 6, 7] rfl)
                    · skip
                      refine lv_iload hx hb dX11_recount_98 (lv_at hl 1 rfl) ?_
                      have J121_16 : ∀ (y16_s0 : Nat) (ey16_s0 : y16_s0 = if x = 0 then 0 else (if (t_v (sT S t1) q c) = (t_v (sT S t1) r c) then 0 else 1)) (ls : Array Slot), lv_has ls 8 [(7, .int (nI q)), (6, .int (nI x)), (5, .int (nI (t_v (sT S t1) r c))), (4, .int (nI r)), (3, .int (nI ((4 * t1) + c))), (2, .int (nI c)), (0, .ref (lo (0))), (1, .int (nI t1))] → x_ww l 4 0 0 pp ee ss mm av bb mt cd G po AA H locs 0 0 121 ls [.int (nI y16_s0)] := by
                        intro y16_s0 ey16_s0 ls hl
                        have dy16_s0 : (x = 0 ∧ (y16_s0 = 0)) ∨ (¬ (x = 0) ∧ (((t_v (sT S t1) q c) = (t_v (sT S t1) r c) ∧ (y16_s0 = 0)) ∨ (¬ ((t_v (sT S t1) q c) = (t_v (sT S t1) r c)) ∧ (y16_s0 = 1)))) := by rw [ey16_s0]; repeat' (first | (exact rfl) | (split <;> first | (refine Or.inl ⟨by assumption, ?_⟩) | (refine Or.inr ⟨by assumption, ?_⟩)))
                        refine lv_istore (lv' := [(6, .int (nI y16_s0)), (7, .int (nI q)), (5, .int (nI (t_v (sT S t1) r c))), (4, .int (nI r)), (3, .int (nI ((4 * t1) + c))), (2, .int (nI c)), (0, .ref (lo (0))), (1, .int (nI t1))]) hx hb dX11_recount_121 hl (by decide) rfl (fun ls hl => ?_)
                        refine lv_iinc (v := nI (q + 1)) (lv' := [(7, .int (nI (q + 1))), (6, .int (nI y16_s0)), (5, .int (nI (t_v (sT S t1) r c))), (4, .int (nI r)), (3, .int (nI ((4 * t1) + c))), (2, .int (nI c)), (0, .ref (lo (0))), (1, .int (nI t1))]) hx hb dX11_recount_123 hl (k := 1) rfl (nI_add _ 1) (by decide) rfl (fun ls hl => ?_)
                        refine lv_goto (tgt := 91) hx hb dX11_recount_126 (by decide) ?_
                        exact ih91_6 y16_s0 (q + 1) (by omega) (by rw [allN, ey16_s0, hx_]; by_cases w1 : allN q (fun q => !decide (t_v (sT S t1) q c = t_v (sT S t1) r c)) = true <;> by_cases w2 : t_v (sT S t1) q c = t_v (sT S t1) r c <;> simp [w1, w2]) (by omega) _ _ _ hW (lv_sub hl [0, 1, 2, 3, 4, 5, 6, 7] rfl)
                      refine x_ifN_eq (tgt := 120) cx dX11_recount_100 (by decide) (by first | omega | (have f1 := t_v_le hT r c; have f2 := t_v_le hT q c; have f3 := rc_l_le hT c r; have f4 := rc_g_le hT c r; omega)) (fun h100_17 => ?_) (fun h100_17 => ?_)
                      · skip
                        refine lv_iconst (v := nI 0) hx hb dX11_recount_120 rfl ?_
                        exact J121_16 0 (by rw [if_pos h100_17]) _ (lv_sub hl [0, 1, 2, 3, 4, 5, 6, 7] rfl)
                      · skip
                        have f2 := t_v_le hT q c
                        refine lv_aload_n hx hb dX11_recount_103 rfl (lv_at hl 6 rfl) ?_
                        refine lv_iload_n hx hb dX11_recount_104 rfl (lv_at hl 7 rfl) ?_
                        refine lv_iload hx hb dX11_recount_105 (lv_at hl 0 rfl) ?_
                        refine lv_iload_n hx hb dX11_recount_107 rfl (lv_at hl 5 rfl) ?_
                        refine x_rdV (av := [.int (nI t1), .int (nI q), .int (nI c)]) (rest := []) cx hk hw (rfl) cv_RX11_101_10 (m_atW S m (nS S) hS rfl rfl t1 q c (by first | assumption | omega) (by first | assumption | omega) (by first | assumption | omega) (by first | assumption | omega)) hl.1 rfl rfl (Nat.le_of_ble_eq_true rfl) ⟨by decide, by decide⟩ ⟨Nat.zero_le _, Nat.zero_le _⟩ dX11_recount_108 ?_
                        refine lv_iload hx hb dX11_recount_111 (lv_at hl 2 rfl) ?_
                        refine x_icmp_eq (tgt := 120) cx dX11_recount_113 (by decide) (by first | omega | (have f1 := t_v_le hT r c; have f2 := t_v_le hT q c; have f3 := rc_l_le hT c r; have f4 := rc_g_le hT c r; omega)) (fun h113_18 => ?_) (fun h113_18 => ?_)
                        · skip
                          refine lv_iconst (v := nI 0) hx hb dX11_recount_120 rfl ?_
                          exact J121_16 0 (by rw [if_neg h100_17, if_pos h113_18]) _ (lv_sub hl [0, 1, 2, 3, 4, 5, 6, 7] rfl)
                        · skip
                          refine lv_iconst (v := nI 1) hx hb dX11_recount_116 rfl ?_
                          refine lv_goto (tgt := 121) hx hb dX11_recount_117 (by decide) ?_
                          exact J121_16 1 (by rw [if_neg h100_17, if_neg h113_18]) _ (lv_sub hl [0, 1, 2, 3, 4, 5, 6, 7] rfl)
                exact L91_6 (_ + 1) 1 0 (by omega) (by rfl) (Nat.lt_succ_self _) _ _ _ hW (lv_sub hl [0, 1, 2, 3, 4, 5, 6, 7] rfl)
          exact L64_4 (_ + 1) 0 (by omega) (Nat.lt_succ_self _) _ _ _ (show x_D AA G ss.heap lo (mco G lo (nS S) (m_r1 S m t1 c 0)) H locs from (show mco G lo (nS S) (va_up (va_up (va_up (m_r0 S m t1 c) 6 (upd ((m_r0 S m t1 c) 6) ((4 * t1) + c) (nI 0))) 7 (upd ((va_up (m_r0 S m t1 c) 6 (upd ((m_r0 S m t1 c) 6) ((4 * t1) + c) (nI 0))) 7) ((4 * t1) + c) (nI 0))) 8 (upd ((va_up (va_up (m_r0 S m t1 c) 6 (upd ((m_r0 S m t1 c) 6) ((4 * t1) + c) (nI 0))) 7 (upd ((va_up (m_r0 S m t1 c) 6 (upd ((m_r0 S m t1 c) 6) ((4 * t1) + c) (nI 0))) 7) ((4 * t1) + c) (nI 0))) 8) ((4 * t1) + c) (nI 0))) = mco G lo (nS S) (m_r1 S m t1 c 0) from by exact m_r_zero) ▸ hW) (lv_sub hl [0, 1, 2, 3, 4] rfl)
    exact L24_2 (_ + 1) 0 (by omega) (Nat.lt_succ_self _) _ _ _ (show x_D AA G ss.heap lo (mco G lo (nS S) (m_r0 S m t1 0)) H locs from (show mco G lo (nS S) (va_up (mS S m) 5 (upd ((mS S m) 5) t1 (nI ((sT S t1).1 3)))) = mco G lo (nS S) (m_r0 S m t1 0) from by exact m_r_init) ▸ hW) (lv_sub hl [0, 1, 2] rfl)
  · skip
    refine lv_iconst (v := (-1)) hx hb dX11_recount_8 rfl ?_
    exact y_iret cx hW hr hlk ⟨by decide, by decide⟩ dX11_recount_9 (by rw [← hpo]; rw [show P_recount S t = (-1, S) from by unfold P_recount; rw [if_neg (by simp [*])]; done]; exact ⟨rfl, rfl, m, hM, rfl⟩)
