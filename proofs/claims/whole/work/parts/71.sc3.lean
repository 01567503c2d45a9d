set_option maxHeartbeats 4000000 in
set_option maxRecDepth 100000 in
theorem s_most {l : Launch} {G : x_G} {lo : x_L} {co : x_C} (S : St) (X : Sc) (hS : Sok S) (hs : isSc G lo co X) (hL : Lok S X) (s l_ r : Nat) (hr0 : Lrow S X 0 (fun q => m_lc S q s (sn S 1))) (hms_ : m_set S s = true) (hs_ : s < 2 ^ 31) (hl_ : l_ + m_rs S s (sn S 1) = r) (hr_ : r ≤ 10000) : x_Rd l G lo co yX7_mostSaving cX7_mostSaving 10 (some .int) 3 [.ref (lo (6)), .int (nI s), .int (nI l_)] (some (.int (nO (g_nx S r s (sn S 1))))) := by
  refine x_enter RX7 rfl (by decide) (Nat.le_of_ble_eq_true rfl) ?_
  intro pp ee ss mm bb mt cd ls cx hk hw hr hlk hl
  have hl : lv_has ls 10 [(0, .ref (lo (6))), (1, .int (nI s)), (2, .int (nI l_))] := hl
  generalize hav : ([.ref (lo (6)), .int (nI s), .int (nI l_)] : List Value).toArray = av at cx ⊢
  generalize hvv : (some (.int (nO (g_nx S r s (sn S 1)))) : Option Value) = vv
  have hx := cx.1
  have hb := cx.2.1
  have hown := cx.2.2.2.1
  have hts := cx.2.2.2.2
  obtain ⟨s1, s2, s3, s4, s5, s6⟩ := id hS
  have h6 := hs.1
  rw [hL.1, hL.2.1] at h6
  obtain ⟨f8, hc8, hf8⟩ := hs.2.2.1
  obtain ⟨f12, hc12, hf12⟩ := hs.2.2.2.2.2.2.1
  have hb12 := Sok.b12 hS
  refine lv_iconst (v := (-1)) hx hb dX7_mostSaving_0 rfl ?_
  refine lv_istore_n (lv' := [(3, .int ((-1))), (0, .ref (lo (6))), (1, .int (nI s)), (2, .int (nI l_))]) hx hb dX7_mostSaving_1 rfl hl (by decide) rfl (fun ls hl => ?_)
  refine lv_lconst (v := lN 0) hx hb dX7_mostSaving_2 rfl ?_
  refine lv_lstore (lv' := [(4, .long (lN 0)), (3, .int ((-1))), (0, .ref (lo (6))), (1, .int (nI s)), (2, .int (nI l_))]) hx hb dX7_mostSaving_3 hl (by decide) rfl (fun ls hl => ?_)
  refine lv_iconst (v := nI 0) hx hb dX7_mostSaving_5 rfl ?_
  refine lv_istore (lv' := [(6, .int (nI 0)), (4, .long (lN 0)), (3, .int ((-1))), (0, .ref (lo (6))), (1, .int (nI s)), (2, .int (nI l_))]) hx hb dX7_mostSaving_6 hl (by decide) rfl (fun ls hl => ?_)
  have L8_1 : ∀ (n_ : Nat) (b : Nat) (ms : Int64) (k : Nat), (k ≤ sn S 1) → (b = g_nx S r s k) → (ms = lN (m_tot S s) - lN (if b = 0 then m_tot S s else m_tot S (s ||| 2 ^ (b - 1)))) → sn S 1 - k < n_ → ∀ (ls : Array Slot), lv_has ls 10 [(6, .int (nI k)), (4, .long (ms)), (3, .int (nO b)), (0, .ref (lo (6))), (1, .int (nI s)), (2, .int (nI l_))] → x_w l 3 pp ee ss mm av bb mt cd vv 8 ls [] := by
    intro n_
    induction n_ with
    | zero => intro b ms k hv hbb hms hm_ ls hl; exact absurd hm_ (Nat.not_lt_zero _)
    | succ n_ ih8_1 =>
      intro b ms k hv hbb hms hm_ ls hl
      refine lv_iload hx hb dX7_mostSaving_8 (lv_at hl 0 rfl) ?_
      refine lv_aload_n hx hb dX7_mostSaving_10 rfl (lv_at hl 3 rfl) ?_
      refine x_get (v := .int (nI (sn S 1))) cx hk hw (h6) f_RX7_48_6 rfl dX7_mostSaving_11 ?_
      refine x_icmp_ge (tgt := 108) cx dX7_mostSaving_14 (by decide) (by omega) (fun h14_2 => ?_) (fun h14_2 => ?_)
      · skip
        refine lv_iload_n hx hb dX7_mostSaving_108 rfl (lv_at hl 2 rfl) ?_
        exact x_iret cx hr hlk dX7_mostSaving_109 ((congrArg (fun z => some (Value.int z)) (show nO b = nO (g_nx S r s (sn S 1)) from by rw [hbb, show k = sn S 1 by omega])).trans hvv)
      · skip
        have hbl := (g_nx_le S r s k).1
        have hsa := m_sp_le hS (a := k) (by omega)
        have hsb : ¬ b = 0 → m_sp S (b - 1) ≤ 780 := fun _ => m_sp_le hS (by omega)
        refine lv_aload_n hx hb dX7_mostSaving_17 rfl (lv_at hl 3 rfl) ?_
        refine lv_iload hx hb dX7_mostSaving_18 (lv_at hl 0 rfl) ?_
        refine lv_iload_n hx hb dX7_mostSaving_20 rfl (lv_at hl 4 rfl) ?_
        refine lv_iload_n hx hb dX7_mostSaving_21 rfl (lv_at hl 5 rfl) ?_
        refine x_rdV (av := [.int (nI k), .int (nI s), .int (nI l_)]) (rest := []) cx hk hw (h6) cv_RX7_127_6 (s_fits S X hS hs hL k s l_ (by omega) (by omega) (by omega)) hl.1 rfl rfl (Nat.le_of_ble_eq_true rfl) ⟨by decide, by decide⟩ ⟨Nat.zero_le _, Nat.zero_le _⟩ dX7_mostSaving_22 ?_
        have J44_3 : ∀ (y3_s0 : Int64) (ey3_s0 : y3_s0 = if (!s.testBit k && decide (m_sp S k ≤ l_) && decide (d_rivs S k &&& s = 0)) = true then (lN (svN S k (fun q_ => m_lc S q_ s (sn S 1)) (sn S 0)) - lN (m_kc S k)) else (lN 0)) (ls : Array Slot), lv_has ls 10 [(6, .int (nI k)), (4, .long (ms)), (3, .int (nO b)), (0, .ref (lo (6))), (1, .int (nI s)), (2, .int (nI l_))] → x_w l 3 pp ee ss mm av bb mt cd vv 44 ls [.long (y3_s0)] := by
          intro y3_s0 ey3_s0 ls hl
          have dy3_s0 : ((!s.testBit k && decide (m_sp S k ≤ l_) && decide (d_rivs S k &&& s = 0)) = true ∧ (y3_s0 = (lN (svN S k (fun q_ => m_lc S q_ s (sn S 1)) (sn S 0)) - lN (m_kc S k)))) ∨ (¬ ((!s.testBit k && decide (m_sp S k ≤ l_) && decide (d_rivs S k &&& s = 0)) = true) ∧ (y3_s0 = (lN 0))) := by rw [ey3_s0]; repeat' (first | (exact rfl) | (split <;> first | (refine Or.inl ⟨by assumption, ?_⟩) | (refine Or.inr ⟨by assumption, ?_⟩)))
          have hyy : y3_s0 = if s.testBit k = false ∧ m_set S (s ||| 2 ^ k) = true ∧ m_rs S (s ||| 2 ^ k) (sn S 1) ≤ r then lN (m_tot S s) - lN (m_tot S (s ||| 2 ^ k)) else lN 0 := by rw [ey3_s0, ite_iff (fit_iff hms_ (by omega) hl_)]; by_cases hq : s.testBit k = false ∧ m_set S (s ||| 2 ^ k) = true ∧ m_rs S (s ||| 2 ^ k) (sn S 1) ≤ r; (rw [if_pos hq, if_pos hq]; exact sv_tot (by omega) hq.1); rw [if_neg hq, if_neg hq]
          refine lv_lstore (lv' := [(7, .long (y3_s0)), (6, .int (nI k)), (4, .long (ms)), (3, .int (nO b)), (0, .ref (lo (6))), (1, .int (nI s)), (2, .int (nI l_))]) hx hb dX7_mostSaving_44 hl (by decide) rfl (fun ls hl => ?_)
          refine lv_iload_n hx hb dX7_mostSaving_46 rfl (lv_at hl 3 rfl) ?_
          refine lv_iconst (v := (-1)) hx hb dX7_mostSaving_47 rfl ?_
          have J80_4 : ∀ (y4_s0 : Nat) (ey4_s0 : y4_s0 = if b = 0 then 0 else (if (lg_cmp y3_s0 ms) = 0 then (if (m_sp S (b - 1)) ≤ (m_sp S k) then 0 else 1) else 0)) (ls : Array Slot), lv_has ls 10 [(7, .long (y3_s0)), (6, .int (nI k)), (4, .long (ms)), (3, .int (nO b)), (0, .ref (lo (6))), (1, .int (nI s)), (2, .int (nI l_))] → x_w l 3 pp ee ss mm av bb mt cd vv 80 ls [.int (nI y4_s0)] := by
            intro y4_s0 ey4_s0 ls hl
            have dy4_s0 : (b = 0 ∧ (y4_s0 = 0)) ∨ (¬ (b = 0) ∧ (((lg_cmp y3_s0 ms) = 0 ∧ (((m_sp S (b - 1)) ≤ (m_sp S k) ∧ (y4_s0 = 0)) ∨ (¬ ((m_sp S (b - 1)) ≤ (m_sp S k)) ∧ (y4_s0 = 1)))) ∨ (¬ ((lg_cmp y3_s0 ms) = 0) ∧ (y4_s0 = 0)))) := by rw [ey4_s0]; repeat' (first | (exact rfl) | (split <;> first | (refine Or.inl ⟨by assumption, ?_⟩) | (refine Or.inr ⟨by assumption, ?_⟩)))
            refine lv_istore (lv' := [(9, .int (nI y4_s0)), (7, .long (y3_s0)), (6, .int (nI k)), (4, .long (ms)), (3, .int (nO b)), (0, .ref (lo (6))), (1, .int (nI s)), (2, .int (nI l_))]) hx hb dX7_mostSaving_80 hl (by decide) rfl (fun ls hl => ?_)
            refine lv_lload hx hb dX7_mostSaving_82 (lv_at hl 1 rfl) ?_
            refine lv_lload hx hb dX7_mostSaving_84 (lv_at hl 3 rfl) ?_
            refine W.lcmp hx hb dX7_mostSaving_86 ?_
            have J102_5 : ∀ (y5_l4 : Int64) (y5_l3 : Nat) (ey5_l4 : y5_l4 = if 0 < (lg_cmp y3_s0 ms) then y3_s0 else (if y4_s0 = 0 then ms else y3_s0)) (ey5_l3 : y5_l3 = if 0 < (lg_cmp y3_s0 ms) then (k + 1) else (if y4_s0 = 0 then b else (k + 1))) (ls : Array Slot), lv_has ls 10 [(4, .long (y5_l4)), (3, .int (nO y5_l3)), (9, .int (nI y4_s0)), (7, .long (y3_s0)), (6, .int (nI k)), (0, .ref (lo (6))), (1, .int (nI s)), (2, .int (nI l_))] → x_w l 3 pp ee ss mm av bb mt cd vv 102 ls [] := by
              intro y5_l4 y5_l3 ey5_l4 ey5_l3 ls hl
              have dy5_l4 : (0 < (lg_cmp y3_s0 ms) ∧ (y5_l4 = y3_s0)) ∨ (¬ (0 < (lg_cmp y3_s0 ms)) ∧ ((y4_s0 = 0 ∧ (y5_l4 = ms)) ∨ (¬ (y4_s0 = 0) ∧ (y5_l4 = y3_s0)))) := by rw [ey5_l4]; repeat' (first | (exact rfl) | (split <;> first | (refine Or.inl ⟨by assumption, ?_⟩) | (refine Or.inr ⟨by assumption, ?_⟩)))
              have dy5_l3 : (0 < (lg_cmp y3_s0 ms) ∧ (y5_l3 = (k + 1))) ∨ (¬ (0 < (lg_cmp y3_s0 ms)) ∧ ((y4_s0 = 0 ∧ (y5_l3 = b)) ∨ (¬ (y4_s0 = 0) ∧ (y5_l3 = (k + 1))))) := by rw [ey5_l3]; repeat' (first | (exact rfl) | (split <;> first | (refine Or.inl ⟨by assumption, ?_⟩) | (refine Or.inr ⟨by assumption, ?_⟩)))
              refine lv_iinc (v := nI (k + 1)) (lv' := [(6, .int (nI (k + 1))), (4, .long (y5_l4)), (3, .int (nO y5_l3)), (9, .int (nI y4_s0)), (7, .long (y3_s0)), (0, .ref (lo (6))), (1, .int (nI s)), (2, .int (nI l_))]) hx hb dX7_mostSaving_102 hl (k := 4) rfl (nI_add _ 1) (by decide) rfl (fun ls hl => ?_)
              refine lv_goto (tgt := 8) hx hb dX7_mostSaving_105 (by decide) ?_
              exact ih8_1 y5_l3 y5_l4 (k + 1) (by omega) (by exact ms_step hS hms_ (by omega) hbb hms hyy (by assumption) ey5_l3) (by exact ms_sv (a := k) hms ey5_l3 ey5_l4 (fun h1_ => by have h2_ := ms_step hS hms_ (by omega) hbb hms hyy (by assumption) ey5_l3; rw [h2_] at h1_; have h3_ := (g_nx_le S r s (k + 1)).2 (by omega); rw [h1_, Nat.add_sub_cancel] at h3_; rw [hyy, if_pos ⟨h3_.1, h3_.2.1, h3_.2.2.1⟩]) (by omega)) (by omega) _ (lv_sub hl [0, 1, 2, 5, 6, 7] rfl)
            refine lv_if_gt (tgt := 95) hx hb dX7_mostSaving_87 (by decide) (fun h87_6 => ?_) (fun h87_6 => ?_)
            · skip
              refine lv_iload hx hb dX7_mostSaving_95 (lv_at hl 2 rfl) ?_
              refine lv_istore_n (lv' := [(3, .int (nI k)), (9, .int (nI y4_s0)), (7, .long (y3_s0)), (6, .int (nI k)), (4, .long (ms)), (0, .ref (lo (6))), (1, .int (nI s)), (2, .int (nI l_))]) hx hb dX7_mostSaving_97 rfl hl (by decide) rfl (fun ls hl => ?_)
              refine lv_lload hx hb dX7_mostSaving_98 (lv_at hl 2 rfl) ?_
              refine lv_lstore (lv' := [(4, .long (y3_s0)), (3, .int (nI k)), (9, .int (nI y4_s0)), (7, .long (y3_s0)), (6, .int (nI k)), (0, .ref (lo (6))), (1, .int (nI s)), (2, .int (nI l_))]) hx hb dX7_mostSaving_100 hl (by decide) rfl (fun ls hl => ?_)
              exact J102_5 y3_s0 (k + 1) (by rw [if_pos h87_6]) (by rw [if_pos h87_6]) _ (lv_sub hl [0, 1, 2, 3, 4, 5, 6, 7] rfl)
            · skip
              refine lv_iload hx hb dX7_mostSaving_90 (lv_at hl 0 rfl) ?_
              refine x_ifN_eq (tgt := 102) cx dX7_mostSaving_92 (by decide) (by omega) (fun h92_7 => ?_) (fun h92_7 => ?_)
              · skip
                exact J102_5 ms b (by rw [if_neg h87_6, if_pos h92_7]) (by rw [if_neg h87_6, if_pos h92_7]) _ (lv_sub hl [3, 4, 0, 1, 2, 5, 6, 7] rfl)
              · skip
                refine lv_iload hx hb dX7_mostSaving_95 (lv_at hl 2 rfl) ?_
                refine lv_istore_n (lv' := [(3, .int (nI k)), (9, .int (nI y4_s0)), (7, .long (y3_s0)), (6, .int (nI k)), (4, .long (ms)), (0, .ref (lo (6))), (1, .int (nI s)), (2, .int (nI l_))]) hx hb dX7_mostSaving_97 rfl hl (by decide) rfl (fun ls hl => ?_)
                refine lv_lload hx hb dX7_mostSaving_98 (lv_at hl 2 rfl) ?_
                refine lv_lstore (lv' := [(4, .long (y3_s0)), (3, .int (nI k)), (9, .int (nI y4_s0)), (7, .long (y3_s0)), (6, .int (nI k)), (0, .ref (lo (6))), (1, .int (nI s)), (2, .int (nI l_))]) hx hb dX7_mostSaving_100 hl (by decide) rfl (fun ls hl => ?_)
                exact J102_5 y3_s0 (k + 1) (by rw [if_neg h87_6, if_neg h92_7]) (by rw [if_neg h87_6, if_neg h92_7]) _ (lv_sub hl [0, 1, 2, 3, 4, 5, 6, 7] rfl)
          refine x_icmpO1_eq (tgt := 79) cx dX7_mostSaving_48 (by decide) (by omega) (fun h48_8 => ?_) (fun h48_8 => ?_)
          · skip
            refine lv_iconst (v := nI 0) hx hb dX7_mostSaving_79 rfl ?_
            exact J80_4 0 (by rw [if_pos h48_8]) _ (lv_sub hl [0, 1, 2, 3, 4, 5, 6] rfl)
          · skip
            refine lv_lload hx hb dX7_mostSaving_51 (lv_at hl 0 rfl) ?_
            refine lv_lload hx hb dX7_mostSaving_53 (lv_at hl 2 rfl) ?_
            refine W.lcmp hx hb dX7_mostSaving_55 ?_
            refine lv_if_ne (tgt := 79) hx hb dX7_mostSaving_56 (by decide) (fun h56_9 => ?_) (fun h56_9 => ?_)
            · skip
              refine lv_iconst (v := nI 0) hx hb dX7_mostSaving_79 rfl ?_
              exact J80_4 0 (by rw [if_neg h48_8, if_neg h56_9]) _ (lv_sub hl [0, 1, 2, 3, 4, 5, 6] rfl)
            · skip
              refine lv_aload_n hx hb dX7_mostSaving_59 rfl (lv_at hl 4 rfl) ?_
              refine x_get (v := .ref (lo (9))) cx hk hw (h6) f_RX7_20_6 rfl dX7_mostSaving_60 ?_
              refine lv_iload hx hb dX7_mostSaving_63 (lv_at hl 1 rfl) ?_
              refine x_ialdE (x := nI (m_sp S k)) cx hk hw (hs.2.2.2.1) (by omega) (by decide) ((hL.2.2.2 k (by omega)).1) dX7_mostSaving_65 ?_
              refine lv_aload_n hx hb dX7_mostSaving_66 rfl (lv_at hl 4 rfl) ?_
              refine x_get (v := .ref (lo (9))) cx hk hw (h6) f_RX7_20_6 rfl dX7_mostSaving_67 ?_
              refine lv_iload_n hx hb dX7_mostSaving_70 rfl (lv_at hl 3 rfl) ?_
              rw [nO_s (k := b) (by assumption)]
              refine x_ialdE (x := nI (m_sp S (b - 1))) cx hk hw (hs.2.2.2.1) (by omega) (by decide) ((hL.2.2.2 (b - 1) (by omega)).1) dX7_mostSaving_71 ?_
              have hsb2 := hsb (by assumption)
              refine x_icmp_ge (tgt := 79) cx dX7_mostSaving_72 (by decide) (by omega) (fun h72_10 => ?_) (fun h72_10 => ?_)
              · skip
                refine lv_iconst (v := nI 0) hx hb dX7_mostSaving_79 rfl ?_
                exact J80_4 0 (by rw [if_neg h48_8, if_pos h56_9, if_pos h72_10]) _ (lv_sub hl [0, 1, 2, 3, 4, 5, 6] rfl)
              · skip
                refine lv_iconst (v := nI 1) hx hb dX7_mostSaving_75 rfl ?_
                refine lv_goto (tgt := 80) hx hb dX7_mostSaving_76 (by decide) ?_
                exact J80_4 1 (by rw [if_neg h48_8, if_pos h56_9, if_neg h72_10]) _ (lv_sub hl [0, 1, 2, 3, 4, 5, 6] rfl)
        refine x_if_eq (tgt := 43) cx dX7_mostSaving_25 (by decide) (fun h25_11 => ?_) (fun h25_11 => ?_)
        · skip
          refine lv_lconst (v := lN 0) hx hb dX7_mostSaving_43 rfl ?_
          exact J44_3 (lN 0) (by rw [if_neg (fun q => Bool.noConfusion (h25_11.symm.trans q))]) _ (lv_sub hl [0, 1, 2, 3, 4, 5] rfl)
        · skip
          refine lv_aload_n hx hb dX7_mostSaving_28 rfl (lv_at hl 3 rfl) ?_
          refine lv_iload hx hb dX7_mostSaving_29 (lv_at hl 0 rfl) ?_
          refine lv_aload_n hx hb dX7_mostSaving_31 rfl (lv_at hl 3 rfl) ?_
          refine x_get (v := .ref (lo (12))) cx hk hw (h6) f_RX7_29_6 rfl dX7_mostSaving_32 ?_
          refine lv_iconst (v := nI 0) hx hb dX7_mostSaving_35 rfl ?_
          refine x_aaldIN cx hk hw (hc12) (by omega) (by first | decide | omega) (congrArg va_rf (hf12 0 (by omega))) dX7_mostSaving_36 ?_
          refine x_rdV (av := [.int (nI k), .ref (lo (tL 0))]) (rest := []) cx hk hw (h6) cv_RX7_101_6 (s_sv S X hS hs hL (fun q_ => m_lc S q_ s (sn S 1)) (fun q hq => m_lc_le hS hq (sn S 1)) 0 k hr0 (by omega) (by omega)) hl.1 rfl rfl (Nat.le_of_ble_eq_true rfl) ⟨by decide, by decide⟩ ⟨Nat.zero_le _, Nat.zero_le _⟩ dX7_mostSaving_37 ?_
          refine lv_goto (tgt := 44) hx hb dX7_mostSaving_40 (by decide) ?_
          exact J44_3 (lN (svN S k (fun q_ => m_lc S q_ s (sn S 1)) (sn S 0)) - lN (m_kc S k)) (by rw [if_pos h25_11]) _ (lv_sub hl [0, 1, 2, 3, 4, 5] rfl)
  exact L8_1 (_ + 1) 0 (lN 0) 0 (by omega) (by rfl) (by rw [if_pos rfl]; exact (lNd_0 _).symm) (Nat.lt_succ_self _) _ (lv_sub hl [0, 1, 2, 3, 4, 5] rfl)
set_option maxHeartbeats 4000000 in
set_option maxRecDepth 100000 in
theorem g_gather {l : Launch} {G : x_G} {lo : x_L} {co : x_C} (S : St) (X : Sc) (hS : Sok S) (hs : isSc G lo co X) (hL : Lok S X) (r : Nat) (hr0 : Lrow S X 0 (fun q => m_plain S q)) (hr_ : r ≤ 10000) : x_Wr l G lo (co) yX7_gathered cX7_gathered 6 (some .int) 4 0 0 [.ref (lo (6)), .int (nI r)] (fun (v : Option Value) (lo1 : x_L) (co1 : x_C) => v = some (.int (nI (g_it S r (sn S 1)))) ∧ lo1 = lo ∧ ofr co co1 6 47 ∧ ∃ X1, isSc G lo co1 X1 ∧ Lok S X1) := by
  refine x_wenter RX7 rfl (by decide) (Nat.le_of_ble_eq_true rfl) ?_
  intro pp ee ss mm bb mt cd ls AA cx hk hW hA hr hlk hnm hl
  have hl : lv_has ls 6 [(0, .ref (lo (6))), (1, .int (nI r))] := hl
  generalize hav : ([.ref (lo (6)), .int (nI r)] : List Value).toArray = av at cx ⊢
  generalize hpo : (fun (v : Option Value) (lo1 : x_L) (co1 : x_C) => v = some (.int (nI (g_it S r (sn S 1)))) ∧ lo1 = lo ∧ ofr co co1 6 47 ∧ ∃ X1, isSc G lo co1 X1 ∧ Lok S X1) = po
  have hx := cx.1
  have hb := cx.2.1
  have hown := cx.2.2.2.1
  have hts := cx.2.2.2.2
  have hw := hW.1
  suffices key_ : ∀ (H : Heap) (locs : List Loc), x_D AA G ss.heap lo (co) H locs → x_ww l 4 0 0 pp ee ss mm av bb mt cd G po AA H locs 0 0 0 ls [] from key_ _ _ hW
  intro H locs hW
  have hw := hW.1
  obtain ⟨s1, s2, s3, s4, s5, s6⟩ := id hS
  have h6 := hs.1
  rw [hL.1, hL.2.1] at h6
  obtain ⟨f8, hc8, hf8⟩ := hs.2.2.1
  obtain ⟨f12, hc12, hf12⟩ := hs.2.2.2.2.2.2.1
  have hb12 := Sok.b12 hS
  refine lv_iconst (v := nI 0) hx hb dX7_gathered_0 rfl ?_
  refine lv_istore_n (lv' := [(2, .int (nI 0)), (0, .ref (lo (6))), (1, .int (nI r))]) hx hb dX7_gathered_1 rfl hl (by decide) rfl (fun ls hl => ?_)
  refine lv_iload_n hx hb dX7_gathered_2 rfl (lv_at hl 2 rfl) ?_
  refine lv_istore_n (lv' := [(3, .int (nI r)), (2, .int (nI 0)), (0, .ref (lo (6))), (1, .int (nI r))]) hx hb dX7_gathered_3 rfl hl (by decide) rfl (fun ls hl => ?_)
  refine lv_iconst (v := nI 0) hx hb dX7_gathered_4 rfl ?_
  refine lv_istore (lv' := [(4, .int (nI 0)), (3, .int (nI r)), (2, .int (nI 0)), (0, .ref (lo (6))), (1, .int (nI r))]) hx hb dX7_gathered_5 hl (by decide) rfl (fun ls hl => ?_)
  have L7_1 : ∀ (n_ : Nat) (s : Nat) (l_ : Nat) (i : Nat) (X1 : Sc) (cw1 : x_C), (i ≤ sn S 1) → (s = g_it S r i) → (l_ + m_rs S s (sn S 1) = r) → (isSc G lo cw1 X1) → (Lok S X1) → (Lrow S X1 0 (fun q => m_lc S q s (sn S 1))) → (ofr co cw1 6 47) → sn S 1 - i < n_ → ∀ (H : Heap) (locs : List Loc) (ls : Array Slot), x_D AA G ss.heap lo cw1 H locs → lv_has ls 6 [(4, .int (nI i)), (3, .int (nI l_)), (2, .int (nI s)), (0, .ref (lo (6))), (1, .int (nI r))] → x_ww l 4 0 0 pp ee ss mm av bb mt cd G po AA H locs 0 0 7 ls [] := by
    intro n_
    induction n_ with
    | zero => intro s l_ i X1 cw1 hv hsi hll hs1 hL1 hr1 hof hm_ H locs ls hW hl; exact absurd hm_ (Nat.not_lt_zero _)
    | succ n_ ih7_1 =>
      intro s l_ i X1 cw1 hv hsi hll hs1 hL1 hr1 hof hm_1 H locs ls hW hl
      have hw := hW.1
      have h61 := hs1.1
      rw [hL1.1, hL1.2.1] at h61
      obtain ⟨f81, hc81, hf81⟩ := hs1.2.2.1
      obtain ⟨f121, hc121, hf121⟩ := hs1.2.2.2.2.2.2.1
      have hsl : s < 2 ^ sn S 1 := by rw [hsi]; exact g_it_lt r i
      have hms1 : m_set S s = true := by rw [hsi]; exact (g_it_set i).1
      have hnl := (g_nx_le S r s (sn S 1)).1
      refine lv_iload hx hb dX7_gathered_7 (lv_at hl 0 rfl) ?_
      refine lv_aload_n hx hb dX7_gathered_9 rfl (lv_at hl 3 rfl) ?_
      refine x_get (v := .int (nI (sn S 1))) cx hk hw (h61) f_RX7_48_6 rfl dX7_gathered_10 ?_
      refine x_icmp_ge (tgt := 63) cx dX7_gathered_13 (by decide) (by omega) (fun h13_2 => ?_) (fun h13_2 => ?_)
      · skip
        refine lv_iload_n hx hb dX7_gathered_63 rfl (lv_at hl 2 rfl) ?_
        exact y_iret cx hW hr hlk ⟨by decide, by decide⟩ dX7_gathered_64 (by rw [← hpo]; first | exact ⟨by rw [hsi, show i = sn S 1 by omega], rfl, hof, X1, hs1, hL1⟩ | (have hz_ : g_nx S r (g_it S r i) (sn S 1) = 0 := (by rw [← hsi]; assumption); exact ⟨by have h_ := g_it_fix hz_ (sn S 1 - i); rw [show i + (sn S 1 - i) = sn S 1 by omega] at h_; rw [hsi, h_], rfl, hof, X1, hs1, hL1⟩))
      · skip
        refine lv_aload_n hx hb dX7_gathered_16 rfl (lv_at hl 3 rfl) ?_
        refine lv_iload_n hx hb dX7_gathered_17 rfl (lv_at hl 2 rfl) ?_
        refine lv_iload_n hx hb dX7_gathered_18 rfl (lv_at hl 1 rfl) ?_
        refine x_rdV (av := [.int (nI s), .int (nI l_)]) (rest := []) cx hk hw (h61) cv_RX7_140_6 (s_most S X1 hS hs1 hL1 s l_ r hr1 hms1 (by omega) hll (by omega)) hl.1 rfl rfl (Nat.le_of_ble_eq_true rfl) ⟨by decide, by decide⟩ ⟨Nat.zero_le _, Nat.zero_le _⟩ dX7_gathered_19 ?_
        refine lv_istore (lv' := [(5, .int (nO (g_nx S r s (sn S 1)))), (4, .int (nI i)), (3, .int (nI l_)), (2, .int (nI s)), (0, .ref (lo (6))), (1, .int (nI r))]) hx hb dX7_gathered_22 hl (by decide) rfl (fun ls hl => ?_)
        refine lv_iload hx hb dX7_gathered_24 (lv_at hl 0 rfl) ?_
        refine lv_iconst (v := (-1)) hx hb dX7_gathered_26 rfl ?_
        refine x_icmpO1_ne (tgt := 33) cx dX7_gathered_27 (by decide) (by omega) (fun h27_3 => ?_) (fun h27_3 => ?_)
        · skip
          obtain ⟨g1, hg1⟩ : ∃ g1, g_nx S r s (sn S 1) = g1 + 1 := ⟨g_nx S r s (sn S 1) - 1, by omega⟩
          have hgl := g_nx_le S r s (sn S 1)
          rw [hg1, Nat.add_sub_cancel] at hgl
          obtain ⟨hg2, hg3, hg4, hg5⟩ := hgl.2 (Nat.succ_ne_zero g1)
          have hg6 := hg4
          rw [rs_or hg2, if_pos (by omega)] at hg6
          rw [hg1, show nO (g1 + 1) = nI g1 from rfl] at hl
          have hg7 := or_lt hsl (show g1 < sn S 1 by omega)
          have hg8 : g_it S r (i + 1) = s ||| 2 ^ g1 := by rw [g_it, ← hsi, hg1, if_neg (Nat.succ_ne_zero g1), Nat.add_sub_cancel]
          refine lv_iload_n hx hb dX7_gathered_33 rfl (lv_at hl 3 rfl) ?_
          refine lv_iload hx hb dX7_gathered_34 (lv_at hl 0 rfl) ?_
          refine x_rdSN (av := [.int (nI g1)]) (rest := [.int (nI s)]) cx hk hw cn_RX7_131 (c_bitN g1 (by omega)) hl.1 rfl rfl (Nat.le_of_ble_eq_true rfl) ⟨by decide, by decide⟩ ⟨Nat.zero_le _, Nat.zero_le _⟩ dX7_gathered_36 ?_
          refine x_iorB cx dX7_gathered_39 ?_
          refine lv_istore_n (lv' := [(2, .int (nI (s ||| (2 ^ g1)))), (5, .int (nI g1)), (4, .int (nI i)), (3, .int (nI l_)), (0, .ref (lo (6))), (1, .int (nI r))]) hx hb dX7_gathered_40 rfl hl (by decide) rfl (fun ls hl => ?_)
          refine lv_iload_n hx hb dX7_gathered_41 rfl (lv_at hl 3 rfl) ?_
          refine lv_aload_n hx hb dX7_gathered_42 rfl (lv_at hl 4 rfl) ?_
          refine x_get (v := .ref (lo (9))) cx hk hw (h61) f_RX7_20_6 rfl dX7_gathered_43 ?_
          refine lv_iload hx hb dX7_gathered_46 (lv_at hl 1 rfl) ?_
          refine x_ialdE (x := nI (m_sp S g1)) cx hk hw (hs1.2.2.2.1) (by omega) (by decide) ((hL1.2.2.2 g1 (by omega)).1) dX7_gathered_48 ?_
          refine x_isubN cx (by omega) dX7_gathered_49 ?_
          refine lv_istore_n (lv' := [(3, .int (nI (l_ - (m_sp S g1)))), (2, .int (nI (s ||| (2 ^ g1)))), (5, .int (nI g1)), (4, .int (nI i)), (0, .ref (lo (6))), (1, .int (nI r))]) hx hb dX7_gathered_50 rfl hl (by decide) rfl (fun ls hl => ?_)
          refine lv_aload_n hx hb dX7_gathered_51 rfl (lv_at hl 4 rfl) ?_
          refine lv_iload hx hb dX7_gathered_52 (lv_at hl 2 rfl) ?_
          refine y_wrV (av := [.int (nI g1)]) (rest := []) cx hk hW hA (h61) cv_RX7_143_6 (g_lower S X1 hS hs1 hL1 (fun q_ => m_lc S q_ s (sn S 1)) (fun q hq => m_lc_le hS hq (sn S 1)) g1 hr1 (by omega)) hl.1 rfl rfl (Nat.le_of_ble_eq_true rfl) ⟨by decide, by decide⟩ ⟨by decide, by decide⟩ dX7_gathered_54 (fun v_ lo4 co4 H locs hq_ hW => ?_)
          obtain ⟨hv_, hlo_, hs4, ho4⟩ := hq_
          have hlo2_ := hlo_.symm
          subst hv_ hlo2_
          have hw := hW.1
          refine lv_iinc (v := nI (i + 1)) (lv' := [(4, .int (nI (i + 1))), (3, .int (nI (l_ - (m_sp S g1)))), (2, .int (nI (s ||| (2 ^ g1)))), (5, .int (nI g1)), (0, .ref (lo (6))), (1, .int (nI r))]) hx hb dX7_gathered_57 hl (k := 3) rfl (nI_add _ 1) (by decide) rfl (fun ls hl => ?_)
          refine lv_goto (tgt := 7) hx hb dX7_gathered_60 (by decide) ?_
          exact ih7_1 (s ||| (2 ^ g1)) (l_ - (m_sp S g1)) (i + 1) (sX X1 (40 + 0) (ovr (sn S 0) (fun q_ => min ((fun q_ => m_lc S q_ s (sn S 1)) q_) (cst S g1 q_)) (X1.2.2 (40 + 0)))) _ (by omega) (by exact hg8.symm) (by rw [rs_or hg2, if_pos (by omega)]; omega) (by exact hs4) (by exact Lok.row hS hL1) (by intro q hq; rw [sX_at, ovr, if_pos hq]; show _ = nI (m_lc S q (s ||| 2 ^ g1) (sn S 1)); rw [lc_or, if_pos (by omega)]) (by exact (hof).tr ho4) (by omega) _ _ _ hW (lv_sub hl [0, 1, 2, 4, 5] rfl)
        · skip
          refine lv_goto (tgt := 63) hx hb dX7_gathered_30 (by decide) ?_
          refine lv_iload_n hx hb dX7_gathered_63 rfl (lv_at hl 3 rfl) ?_
          exact y_iret cx hW hr hlk ⟨by decide, by decide⟩ dX7_gathered_64 (by rw [← hpo]; first | exact ⟨by rw [hsi, show i = sn S 1 by omega], rfl, hof, X1, hs1, hL1⟩ | (have hz_ : g_nx S r (g_it S r i) (sn S 1) = 0 := (by rw [← hsi]; assumption); exact ⟨by have h_ := g_it_fix hz_ (sn S 1 - i); rw [show i + (sn S 1 - i) = sn S 1 by omega] at h_; rw [hsi, h_], rfl, hof, X1, hs1, hL1⟩))
  exact L7_1 (_ + 1) 0 r 0 X _ (by omega) (by rfl) (by rw [m_rs_0]; rfl) (by exact hs) (by exact hL) (by intro q hq; rw [hr0 q hq]; show nI (m_plain S q) = nI (m_lc S q 0 (sn S 1)); rw [show m_lc S q 0 (sn S 1) = m_plain S q from by have h_ := lc_hi (S := S) (q := q) (s := 0) (a := 0) (by decide) (sn S 1); rw [Nat.zero_add] at h_; exact h_]) (by exact ofr.rf _ _ _) (Nat.lt_succ_self _) _ _ _ hW (lv_sub hl [0, 1, 2, 3, 4] rfl)
set_option maxHeartbeats 4000000 in
set_option maxRecDepth 100000 in
theorem g_ex0 {l : Launch} {G : x_G} {lo : x_L} {co : x_C} (S : St) (X : Sc) (hS : Sok S) (hs : isSc G lo co X) (hL : Lok S X) (r a s b l_ : Nat) (hr1 : Lrow S X a (fun q => m_lc S q s a)) (hsl : s < 2 ^ a) (hb_ : X.1 2 = nI b) (hbl : b < 2 ^ sn S 1) (hbc_ : X.2.1 = lN (m_tot S b)) (hll : l_ + m_rs S s (sn S 1) = r) (hr_ : r ≤ 10000) (han : a = sn S 1) : x_Wr l G lo (co) yX7_explore cX7_explore 8 none (0 + 3) 0 0 [.ref (lo (6)), .int (nI a), .int (nI s), .long (lN (m_tot S s)), .int (nI l_)] (exP G lo co S r 0 a s b X) := by
  refine x_wenter RX7 rfl (by decide) (Nat.le_of_ble_eq_true rfl) ?_
  intro pp ee ss mm bb mt cd ls AA cx hk hW hA hr hlk hnm hl
  have hl : lv_has ls 8 [(0, .ref (lo (6))), (1, .int (nI a)), (2, .int (nI s)), (3, .long (lN (m_tot S s))), (5, .int (nI l_))] := hl
  generalize hav : ([.ref (lo (6)), .int (nI a), .int (nI s), .long (lN (m_tot S s)), .int (nI l_)] : List Value).toArray = av at cx ⊢
  generalize hpo : (exP G lo co S r 0 a s b X) = po
  have hx := cx.1
  have hb := cx.2.1
  have hown := cx.2.2.2.1
  have hts := cx.2.2.2.2
  have hw := hW.1
  suffices key_ : ∀ (H : Heap) (locs : List Loc), x_D AA G ss.heap lo (co) H locs → x_ww l (0 + 3) 0 0 pp ee ss mm av bb mt cd G po AA H locs 0 0 0 ls [] from key_ _ _ hW
  intro H locs hW
  have hw := hW.1
  obtain ⟨s1, s2, s3, s4, s5, s6⟩ := id hS
  have h6 := hs.1
  rw [hL.1, hL.2.1, hb_, hbc_] at h6
  obtain ⟨f8, hc8, hf8⟩ := hs.2.2.1
  obtain ⟨f12, hc12, hf12⟩ := hs.2.2.2.2.2.2.1
  have hb12 := Sok.b12 hS
  have hsn : s < 2 ^ sn S 1 := Nat.lt_of_lt_of_le hsl (Nat.pow_le_pow_right (by decide) (by omega))
  have ht1 := m_tot_le hS s
  have ht2 := m_tot_le hS b
  refine lv_iload_n hx hb dX7_explore_0 rfl (lv_at hl 1 rfl) ?_
  refine lv_aload_n hx hb dX7_explore_1 rfl (lv_at hl 0 rfl) ?_
  refine x_get (v := .int (nI (sn S 1))) cx hk hw (h6) f_RX7_48_6 rfl dX7_explore_2 ?_
  refine x_icmp_lt (tgt := 15) cx dX7_explore_5 (by decide) (by omega) (fun h5_1 => ?_) (fun h5_1 => ?_)
  · skip
    exact absurd (by assumption : a < sn S 1) (by omega)
  · skip
    refine lv_aload_n hx hb dX7_explore_8 rfl (lv_at hl 0 rfl) ?_
    refine lv_iload_n hx hb dX7_explore_9 rfl (lv_at hl 2 rfl) ?_
    refine lv_lload_n hx hb dX7_explore_10 rfl (lv_at hl 3 rfl) ?_
    refine y_wrV (av := [.int (nI s), .long (lN (m_tot S s))]) (rest := []) cx hk hW hA (h6) cv_RX7_123_6 (g_keep S X hS hs hL s (m_tot S s) b (m_tot S b) hb_ hbc_ (by omega) (by omega) (by omega) (by omega)) hl.1 rfl rfl (Nat.le_of_ble_eq_true rfl) ⟨by decide, by decide⟩ ⟨by decide, by decide⟩ dX7_explore_11 (fun v_ lo2 co2 H locs hq_ hW => ?_)
    obtain ⟨hv_, hlo_, ho2, X2, hs2, hx12, hx22, hx32, hx42, hx52⟩ := hq_
    have hlo2_ := hlo_.symm
    subst hv_ hlo2_
    have hw := hW.1
    exact y_vret cx hW hr hlk ⟨by decide, by decide⟩ dX7_explore_14 (by rw [← hpo]; exact ⟨rfl, rfl, ho2, X2, hs2, Lok.X hL hx12 hx22 hx32, fun k_ _ => by rw [hx12], hx42, by rw [hx52, exN, kb]; split <;> rfl⟩)
set_option maxHeartbeats 4000000 in
set_option maxRecDepth 100000 in
theorem g_ex1 {l : Launch} {G : x_G} {lo : x_L} {co : x_C} (S : St) (X : Sc) (hS : Sok S) (hs : isSc G lo co X) (hL : Lok S X) (r a s b l_ : Nat) (hr1 : Lrow S X a (fun q => m_lc S q s a)) (hsl : s < 2 ^ a) (hb_ : X.1 2 = nI b) (hbl : b < 2 ^ sn S 1) (hbc_ : X.2.1 = lN (m_tot S b)) (hll : l_ + m_rs S s (sn S 1) = r) (hr_ : r ≤ 10000) (n : Nat) (han : a + (n + 1) = sn S 1) (ih : exH l G lo S r n (a + 1)) : x_Wr l G lo (co) yX7_explore cX7_explore 8 none (n + 1 + 3) 0 0 [.ref (lo (6)), .int (nI a), .int (nI s), .long (lN (m_tot S s)), .int (nI l_)] (exP G lo co S r (n + 1) a s b X) := by
  refine x_wenter RX7 rfl (by decide) (Nat.le_of_ble_eq_true rfl) ?_
  intro pp ee ss mm bb mt cd ls AA cx hk hW hA hr hlk hnm hl
  have hl : lv_has ls 8 [(0, .ref (lo (6))), (1, .int (nI a)), (2, .int (nI s)), (3, .long (lN (m_tot S s))), (5, .int (nI l_))] := hl
  generalize hav : ([.ref (lo (6)), .int (nI a), .int (nI s), .long (lN (m_tot S s)), .int (nI l_)] : List Value).toArray = av at cx ⊢
  generalize hpo : (exP G lo co S r (n + 1) a s b X) = po
  have hx := cx.1
  have hb := cx.2.1
  have hown := cx.2.2.2.1
  have hts := cx.2.2.2.2
  have hw := hW.1
  suffices key_ : ∀ (H : Heap) (locs : List Loc), x_D AA G ss.heap lo (co) H locs → x_ww l (n + 1 + 3) 0 0 pp ee ss mm av bb mt cd G po AA H locs 0 0 0 ls [] from key_ _ _ hW
  intro H locs hW
  have hw := hW.1
  obtain ⟨s1, s2, s3, s4, s5, s6⟩ := id hS
  have h6 := hs.1
  rw [hL.1, hL.2.1, hb_, hbc_] at h6
  obtain ⟨f8, hc8, hf8⟩ := hs.2.2.1
  obtain ⟨f12, hc12, hf12⟩ := hs.2.2.2.2.2.2.1
  have hb12 := Sok.b12 hS
  have hsn : s < 2 ^ sn S 1 := Nat.lt_of_lt_of_le hsl (Nat.pow_le_pow_right (by decide) (by omega))
  have ht1 := m_tot_le hS s
  have ht2 := m_tot_le hS b
  have ht3 := m_tot_le hS (s ||| 2 ^ a)
  have hspl := m_sp_le hS (a := a) (by omega)
  refine lv_iload_n hx hb dX7_explore_0 rfl (lv_at hl 1 rfl) ?_
  refine lv_aload_n hx hb dX7_explore_1 rfl (lv_at hl 0 rfl) ?_
  refine x_get (v := .int (nI (sn S 1))) cx hk hw (h6) f_RX7_48_6 rfl dX7_explore_2 ?_
  refine x_icmp_lt (tgt := 15) cx dX7_explore_5 (by decide) (by omega) (fun h5_1 => ?_) (fun h5_1 => ?_)
  · skip
    refine lv_aload_n hx hb dX7_explore_15 rfl (lv_at hl 0 rfl) ?_
    refine lv_iload_n hx hb dX7_explore_16 rfl (lv_at hl 1 rfl) ?_
    refine lv_iload_n hx hb dX7_explore_17 rfl (lv_at hl 2 rfl) ?_
    refine lv_iload hx hb dX7_explore_18 (lv_at hl 4 rfl) ?_
    refine x_rdV (av := [.int (nI a), .int (nI s), .int (nI l_)]) (rest := []) cx hk hw (h6) cv_RX7_127_6 (s_fits S X hS hs hL a s l_ (by omega) (by omega) (by omega)) hl.1 rfl rfl (Nat.le_of_ble_eq_true rfl) ⟨by show _ ≤ n + 1 + 3; omega, by show _ ≤ 40 * (n + 1 + 3); omega⟩ ⟨Nat.zero_le _, Nat.zero_le _⟩ dX7_explore_20 ?_
    have J41_2 : ∀ (y2_s0 : Int64) (ey2_s0 : y2_s0 = if (!s.testBit a && decide (m_sp S a ≤ l_) && decide (d_rivs S a &&& s = 0)) = true then (lN (svN S a (fun q_ => m_lc S q_ s a) (sn S 0)) - lN (m_kc S a)) else (lN 0)) (ls : Array Slot), lv_has ls 8 [(0, .ref (lo (6))), (1, .int (nI a)), (2, .int (nI s)), (3, .long (lN (m_tot S s))), (5, .int (nI l_))] → x_ww l (n + 1 + 3) 0 0 pp ee ss mm av bb mt cd G po AA H locs 0 0 41 ls [.long (y2_s0)] := by
      intro y2_s0 ey2_s0 ls hl
      have dy2_s0 : ((!s.testBit a && decide (m_sp S a ≤ l_) && decide (d_rivs S a &&& s = 0)) = true ∧ (y2_s0 = (lN (svN S a (fun q_ => m_lc S q_ s a) (sn S 0)) - lN (m_kc S a)))) ∨ (¬ ((!s.testBit a && decide (m_sp S a ≤ l_) && decide (d_rivs S a &&& s = 0)) = true) ∧ (y2_s0 = (lN 0))) := by rw [ey2_s0]; repeat' (first | (exact rfl) | (split <;> first | (refine Or.inl ⟨by assumption, ?_⟩) | (refine Or.inr ⟨by assumption, ?_⟩)))
      have hyy : y2_s0 = if d_rivs S a &&& s = 0 ∧ m_rs S s (sn S 1) + m_sp S a ≤ r then lN (m_tot S s) - lN (m_tot S (s ||| 2 ^ a)) else lN 0 := by rw [ey2_s0, ite_iff (ex_fit hsl hll)]; by_cases hq : d_rivs S a &&& s = 0 ∧ m_rs S s (sn S 1) + m_sp S a ≤ r; (rw [if_pos hq, if_pos hq]; exact sv_ex (by omega) hsl); rw [if_neg hq, if_neg hq]
      refine lv_lstore (lv' := [(6, .long (y2_s0)), (0, .ref (lo (6))), (1, .int (nI a)), (2, .int (nI s)), (3, .long (lN (m_tot S s))), (5, .int (nI l_))]) hx hb dX7_explore_41 hl (by decide) rfl (fun ls hl => ?_)
      refine lv_lload hx hb dX7_explore_43 (lv_at hl 0 rfl) ?_
      refine lv_lconst (v := lN 0) hx hb dX7_explore_45 rfl ?_
      refine W.lcmp hx hb dX7_explore_46 ?_
      refine lv_if_le (tgt := 82) hx hb dX7_explore_47 (by decide) (fun h47_3 => ?_) (fun h47_3 => ?_)
      · skip
        refine lv_aload_n hx hb dX7_explore_82 rfl (lv_at hl 1 rfl) ?_
        refine lv_iload_n hx hb dX7_explore_83 rfl (lv_at hl 2 rfl) ?_
        refine lv_iconst (v := nI 0) hx hb dX7_explore_84 rfl ?_
        rw [show nI 0 = bI false from rfl]
        refine y_wrV (av := [.int (nI a), .int (bI (false))]) (rest := []) cx hk hW hA (h6) cv_RX7_105_6 (g_settle S X hS hs hL (fun q_ => m_lc S q_ s a) (fun q hq => m_lc_le hS hq a) a false hr1 (by omega)) hl.1 rfl rfl (Nat.le_of_ble_eq_true rfl) ⟨by show _ ≤ n + 1 + 3; omega, by show _ ≤ 40 * (n + 1 + 3); omega⟩ ⟨Nat.le_refl 0, Nat.le_refl 0⟩ dX7_explore_85 (fun v_ lo4 co4 H locs hq_ hW => ?_)
        obtain ⟨hv_, hlo_, hs4, ho4⟩ := hq_
        have hlo2_ := hlo_.symm
        subst hv_ hlo2_
        have hw := hW.1
        have hL4 : Lok S (sX X (40 + (a + 1)) (ovr (sn S 0) (fun q_ => if false = true then min ((fun q_ => m_lc S q_ s a) q_) (cst S a q_) else (fun q_ => m_lc S q_ s a) q_) (X.2.2 (40 + (a + 1))))) := Lok.row hS hL
        have hrr4 : Lrow S (sX X (40 + (a + 1)) (ovr (sn S 0) (fun q_ => if false = true then min ((fun q_ => m_lc S q_ s a) q_) (cst S a q_) else (fun q_ => m_lc S q_ s a) q_) (X.2.2 (40 + (a + 1))))) a (fun q_ => m_lc S q_ s a) := fun q hq => by rw [sX_ne (by omega)]; exact hr1 q hq
        have h64 := hs4.1
        rw [hL4.1, hL4.2.1] at h64
        obtain ⟨f84, hc84, hf84⟩ := hs4.2.2.1
        obtain ⟨f124, hc124, hf124⟩ := hs4.2.2.2.2.2.2.1
        refine lv_aload_n hx hb dX7_explore_88 rfl (lv_at hl 1 rfl) ?_
        refine lv_iload_n hx hb dX7_explore_89 rfl (lv_at hl 2 rfl) ?_
        refine lv_iconst (v := nI 1) hx hb dX7_explore_90 rfl ?_
        refine x_iaddN cx dX7_explore_91 ?_
        refine lv_iload_n hx hb dX7_explore_92 rfl (lv_at hl 3 rfl) ?_
        refine lv_lload_n hx hb dX7_explore_93 rfl (lv_at hl 4 rfl) ?_
        refine lv_iload hx hb dX7_explore_94 (lv_at hl 5 rfl) ?_
        refine y_wrV (av := [.int (nI (a + 1)), .int (nI s), .long (lN (m_tot S s)), .int (nI l_)]) (rest := []) cx hk hW hA (hs4.1) cv_RX7_119_6 (ih _ (sX X (40 + (a + 1)) (ovr (sn S 0) (fun q_ => if false = true then min ((fun q_ => m_lc S q_ s a) q_) (cst S a q_) else (fun q_ => m_lc S q_ s a) q_) (X.2.2 (40 + (a + 1))))) s b l_ hs4 hL4 (fun q hq => by rw [sX_at, ovr, if_pos hq]; show _ = nI (m_lc S q s (a + 1)); rw [ex_row0 hsl]; rfl) (Nat.lt_trans hsl (Nat.pow_lt_pow_right (by decide) (Nat.lt_succ_self a))) hb_ hbl hbc_ hll) hl.1 rfl rfl (Nat.le_of_ble_eq_true rfl) ⟨by show _ ≤ n + 1 + 3; omega, by show _ ≤ 40 * (n + 1 + 3); omega⟩ ⟨Nat.le_refl 0, Nat.le_refl 0⟩ dX7_explore_96 (fun v_ lo5 co5 H locs hq_ hW => ?_)
        obtain ⟨hv_, hlo_, ho5, X5, hs5, hL5, hrw5, hxb5, hxc5⟩ := hq_
        have hlo2_ := hlo_.symm
        subst hv_ hlo2_
        have hw := hW.1
        exact y_vret cx hW hr hlk ⟨by decide, by decide⟩ dX7_explore_99 (by rw [← hpo]; have hCn : ¬ (d_rivs S a &&& s = 0 ∧ m_rs S s (sn S 1) + m_sp S a ≤ r ∧ m_tot S (s ||| 2 ^ a) < m_tot S s) := (fun z => by rw [if_pos ⟨z.1, z.2.1⟩] at hyy; have hle := (by assumption : lg_cmp y2_s0 (lN 0) ≤ 0); rw [lg_cmp_le, hyy, lNd_le0 (by omega) (by omega)] at hle; have z3 := z.2.2; omega); exact ⟨rfl, rfl, (ho4).tr ho5, X5, hs5, hL5, fun j hj => by rw [hrw5 j (by omega), sX_ne (by omega)], by rw [exN, if_neg hCn]; exact hxb5, by rw [exN, if_neg hCn]; exact hxc5⟩)
      · skip
        have hCe : (d_rivs S a &&& s = 0 ∧ m_rs S s (sn S 1) + m_sp S a ≤ r ∧ m_tot S (s ||| 2 ^ a) < m_tot S s) := by by_cases hq : d_rivs S a &&& s = 0 ∧ m_rs S s (sn S 1) + m_sp S a ≤ r; (rw [if_pos hq] at hyy; refine ⟨hq.1, hq.2, ?_⟩; have hgt := (by assumption : ¬ lg_cmp y2_s0 (lN 0) ≤ 0); rw [lg_cmp_le, hyy, lNd_le0 (by omega) (by omega)] at hgt; omega); (rw [if_neg hq] at hyy; exact absurd (by rw [hyy, lg_cmp_le, l_le]; omega) (by assumption : ¬ lg_cmp y2_s0 (lN 0) ≤ 0))
        have hcost : lN (m_tot S s) - y2_s0 = lN (m_tot S (s ||| 2 ^ a)) := by rw [hyy, if_pos ⟨hCe.1, hCe.2.1⟩, lNd_lNd]
        have hol : s ||| 2 ^ a < 2 ^ (a + 1) := Nat.or_lt_two_pow (Nat.lt_trans hsl (Nat.pow_lt_pow_right (by decide) (Nat.lt_succ_self a))) (Nat.pow_lt_pow_right (by decide) (Nat.lt_succ_self a))
        have hol2 := or_lt hsn (show a < sn S 1 by omega)
        refine lv_aload_n hx hb dX7_explore_50 rfl (lv_at hl 1 rfl) ?_
        refine lv_iload_n hx hb dX7_explore_51 rfl (lv_at hl 2 rfl) ?_
        refine lv_iconst (v := nI 1) hx hb dX7_explore_52 rfl ?_
        rw [show nI 1 = bI true from rfl]
        refine y_wrV (av := [.int (nI a), .int (bI (true))]) (rest := []) cx hk hW hA (h6) cv_RX7_105_6 (g_settle S X hS hs hL (fun q_ => m_lc S q_ s a) (fun q hq => m_lc_le hS hq a) a true hr1 (by omega)) hl.1 rfl rfl (Nat.le_of_ble_eq_true rfl) ⟨by show _ ≤ n + 1 + 3; omega, by show _ ≤ 40 * (n + 1 + 3); omega⟩ ⟨Nat.le_refl 0, Nat.le_refl 0⟩ dX7_explore_53 (fun v_ lo6 co6 H locs hq_ hW => ?_)
        obtain ⟨hv_, hlo_, hs6, ho6⟩ := hq_
        have hlo2_ := hlo_.symm
        subst hv_ hlo2_
        have hw := hW.1
        have hL6 : Lok S (sX X (40 + (a + 1)) (ovr (sn S 0) (fun q_ => if true = true then min ((fun q_ => m_lc S q_ s a) q_) (cst S a q_) else (fun q_ => m_lc S q_ s a) q_) (X.2.2 (40 + (a + 1))))) := Lok.row hS hL
        have hrr6 : Lrow S (sX X (40 + (a + 1)) (ovr (sn S 0) (fun q_ => if true = true then min ((fun q_ => m_lc S q_ s a) q_) (cst S a q_) else (fun q_ => m_lc S q_ s a) q_) (X.2.2 (40 + (a + 1))))) a (fun q_ => m_lc S q_ s a) := fun q hq => by rw [sX_ne (by omega)]; exact hr1 q hq
        have h66 := hs6.1
        rw [hL6.1, hL6.2.1] at h66
        obtain ⟨f86, hc86, hf86⟩ := hs6.2.2.1
        obtain ⟨f126, hc126, hf126⟩ := hs6.2.2.2.2.2.2.1
        refine lv_aload_n hx hb dX7_explore_56 rfl (lv_at hl 1 rfl) ?_
        refine lv_iload_n hx hb dX7_explore_57 rfl (lv_at hl 2 rfl) ?_
        refine lv_iconst (v := nI 1) hx hb dX7_explore_58 rfl ?_
        refine x_iaddN cx dX7_explore_59 ?_
        refine lv_iload_n hx hb dX7_explore_60 rfl (lv_at hl 3 rfl) ?_
        refine lv_iload_n hx hb dX7_explore_61 rfl (lv_at hl 2 rfl) ?_
        refine x_rdSN (av := [.int (nI a)]) (rest := [.int (nI s), .int (nI (a + 1)), .ref (lo (6))]) cx hk hw cn_RX7_131 (c_bitN a (by omega)) hl.1 rfl rfl (Nat.le_of_ble_eq_true rfl) ⟨by show _ ≤ n + 1 + 3; omega, by show _ ≤ 40 * (n + 1 + 3); omega⟩ ⟨Nat.zero_le _, Nat.zero_le _⟩ dX7_explore_62 ?_
        refine x_iorB cx dX7_explore_65 ?_
        refine lv_lload_n hx hb dX7_explore_66 rfl (lv_at hl 4 rfl) ?_
        refine lv_lload hx hb dX7_explore_67 (lv_at hl 0 rfl) ?_
        refine lv_lsub hx hb dX7_explore_69 ?_
        rw [hcost]
        refine lv_iload hx hb dX7_explore_70 (lv_at hl 5 rfl) ?_
        refine lv_aload_n hx hb dX7_explore_72 rfl (lv_at hl 1 rfl) ?_
        refine x_get (v := .ref (lo (9))) cx hk hw (h66) f_RX7_20_6 rfl dX7_explore_73 ?_
        refine lv_iload_n hx hb dX7_explore_76 rfl (lv_at hl 2 rfl) ?_
        refine x_ialdE (x := nI (m_sp S a)) cx hk hw (hs6.2.2.2.1) (by omega) (by decide) ((hL6.2.2.2 a (by omega)).1) dX7_explore_77 ?_
        refine x_isubN cx (by omega) dX7_explore_78 ?_
        refine y_wrV (av := [.int (nI (a + 1)), .int (nI (s ||| (2 ^ a))), .long (lN (m_tot S (s ||| 2 ^ a))), .int (nI (l_ - (m_sp S a)))]) (rest := []) cx hk hW hA (hs6.1) cv_RX7_119_6 (ih _ (sX X (40 + (a + 1)) (ovr (sn S 0) (fun q_ => if true = true then min ((fun q_ => m_lc S q_ s a) q_) (cst S a q_) else (fun q_ => m_lc S q_ s a) q_) (X.2.2 (40 + (a + 1))))) (s ||| 2 ^ a) b (l_ - (m_sp S a)) hs6 hL6 (fun q hq => by rw [sX_at, ovr, if_pos hq]; show _ = nI (m_lc S q (s ||| 2 ^ a) (a + 1)); rw [ex_row hsl]; rfl) hol hb_ hbl hbc_ (by rw [rs_or (tb_lt hsl (Nat.le_refl a)), if_pos (by omega)]; omega)) hl.1 rfl rfl (Nat.le_of_ble_eq_true rfl) ⟨by show _ ≤ n + 1 + 3; omega, by show _ ≤ 40 * (n + 1 + 3); omega⟩ ⟨Nat.le_refl 0, Nat.le_refl 0⟩ dX7_explore_79 (fun v_ lo7 co7 H locs hq_ hW => ?_)
        obtain ⟨hv_, hlo_, ho7, X7, hs7, hL7, hrw7, hxb7, hxc7⟩ := hq_
        have hlo2_ := hlo_.symm
        subst hv_ hlo2_
        have hw := hW.1
        have hra7 : Lrow S X7 a (fun q => m_lc S q s a) := fun q hq => by rw [hrw7 a (Nat.le_succ a), sX_ne (by omega)]; exact hr1 q hq
        have hbl7 : (exN S r n (a + 1) (s ||| 2 ^ a) b) < 2 ^ sn S 1 := exN_lt n (a + 1) _ b (by omega) hol2 hbl
        have h67 := hs7.1
        rw [hL7.1, hL7.2.1] at h67
        obtain ⟨f87, hc87, hf87⟩ := hs7.2.2.1
        obtain ⟨f127, hc127, hf127⟩ := hs7.2.2.2.2.2.2.1
        have hrk7 : ∀ j, j ≤ a → X7.2.2 (40 + j) = X.2.2 (40 + j) := fun j hj => by rw [hrw7 j (by omega), sX_ne (by omega)]
        refine lv_aload_n hx hb dX7_explore_82 rfl (lv_at hl 1 rfl) ?_
        refine lv_iload_n hx hb dX7_explore_83 rfl (lv_at hl 2 rfl) ?_
        refine lv_iconst (v := nI 0) hx hb dX7_explore_84 rfl ?_
        rw [show nI 0 = bI false from rfl]
        refine y_wrV (av := [.int (nI a), .int (bI (false))]) (rest := []) cx hk hW hA (h67) cv_RX7_105_6 (g_settle S X7 hS hs7 hL7 (fun q_ => m_lc S q_ s a) (fun q hq => m_lc_le hS hq a) a false hra7 (by omega)) hl.1 rfl rfl (Nat.le_of_ble_eq_true rfl) ⟨by show _ ≤ n + 1 + 3; omega, by show _ ≤ 40 * (n + 1 + 3); omega⟩ ⟨Nat.le_refl 0, Nat.le_refl 0⟩ dX7_explore_85 (fun v_ lo8 co8 H locs hq_ hW => ?_)
        obtain ⟨hv_, hlo_, hs8, ho8⟩ := hq_
        have hlo2_ := hlo_.symm
        subst hv_ hlo2_
        have hw := hW.1
        have hL8 : Lok S (sX X7 (40 + (a + 1)) (ovr (sn S 0) (fun q_ => if false = true then min ((fun q_ => m_lc S q_ s a) q_) (cst S a q_) else (fun q_ => m_lc S q_ s a) q_) (X7.2.2 (40 + (a + 1))))) := Lok.row hS hL7
        have hrr8 : Lrow S (sX X7 (40 + (a + 1)) (ovr (sn S 0) (fun q_ => if false = true then min ((fun q_ => m_lc S q_ s a) q_) (cst S a q_) else (fun q_ => m_lc S q_ s a) q_) (X7.2.2 (40 + (a + 1))))) a (fun q_ => m_lc S q_ s a) := fun q hq => by rw [sX_ne (by omega)]; exact hra7 q hq
        have h68 := hs8.1
        rw [hL8.1, hL8.2.1] at h68
        obtain ⟨f88, hc88, hf88⟩ := hs8.2.2.1
        obtain ⟨f128, hc128, hf128⟩ := hs8.2.2.2.2.2.2.1
        refine lv_aload_n hx hb dX7_explore_88 rfl (lv_at hl 1 rfl) ?_
        refine lv_iload_n hx hb dX7_explore_89 rfl (lv_at hl 2 rfl) ?_
        refine lv_iconst (v := nI 1) hx hb dX7_explore_90 rfl ?_
        refine x_iaddN cx dX7_explore_91 ?_
        refine lv_iload_n hx hb dX7_explore_92 rfl (lv_at hl 3 rfl) ?_
        refine lv_lload_n hx hb dX7_explore_93 rfl (lv_at hl 4 rfl) ?_
        refine lv_iload hx hb dX7_explore_94 (lv_at hl 5 rfl) ?_
        refine y_wrV (av := [.int (nI (a + 1)), .int (nI s), .long (lN (m_tot S s)), .int (nI l_)]) (rest := []) cx hk hW hA (hs8.1) cv_RX7_119_6 (ih _ (sX X7 (40 + (a + 1)) (ovr (sn S 0) (fun q_ => if false = true then min ((fun q_ => m_lc S q_ s a) q_) (cst S a q_) else (fun q_ => m_lc S q_ s a) q_) (X7.2.2 (40 + (a + 1))))) s (exN S r n (a + 1) (s ||| 2 ^ a) b) l_ hs8 hL8 (fun q hq => by rw [sX_at, ovr, if_pos hq]; show _ = nI (m_lc S q s (a + 1)); rw [ex_row0 hsl]; rfl) (Nat.lt_trans hsl (Nat.pow_lt_pow_right (by decide) (Nat.lt_succ_self a))) hxb7 hbl7 hxc7 hll) hl.1 rfl rfl (Nat.le_of_ble_eq_true rfl) ⟨by show _ ≤ n + 1 + 3; omega, by show _ ≤ 40 * (n + 1 + 3); omega⟩ ⟨Nat.le_refl 0, Nat.le_refl 0⟩ dX7_explore_96 (fun v_ lo9 co9 H locs hq_ hW => ?_)
        obtain ⟨hv_, hlo_, ho9, X9, hs9, hL9, hrw9, hxb9, hxc9⟩ := hq_
        have hlo2_ := hlo_.symm
        subst hv_ hlo2_
        have hw := hW.1
        exact y_vret cx hW hr hlk ⟨by decide, by decide⟩ dX7_explore_99 (by rw [← hpo]; exact ⟨rfl, rfl, (((ho6).tr ho7).tr ho8).tr ho9, X9, hs9, hL9, fun j hj => by rw [hrw9 j (by omega), sX_ne (by omega), hrk7 j hj], by rw [exN, if_pos hCe]; exact hxb9, by rw [exN, if_pos hCe]; exact hxc9⟩)
    refine x_if_eq (tgt := 40) cx dX7_explore_23 (by decide) (fun h23_10 => ?_) (fun h23_10 => ?_)
    · skip
      refine lv_lconst (v := lN 0) hx hb dX7_explore_40 rfl ?_
      exact J41_2 (lN 0) (by rw [if_neg (fun q => Bool.noConfusion (h23_10.symm.trans q))]) _ (lv_sub hl [0, 1, 2, 3, 4] rfl)
    · skip
      refine lv_aload_n hx hb dX7_explore_26 rfl (lv_at hl 0 rfl) ?_
      refine lv_iload_n hx hb dX7_explore_27 rfl (lv_at hl 1 rfl) ?_
      refine lv_aload_n hx hb dX7_explore_28 rfl (lv_at hl 0 rfl) ?_
      refine x_get (v := .ref (lo (12))) cx hk hw (h6) f_RX7_29_6 rfl dX7_explore_29 ?_
      refine lv_iload_n hx hb dX7_explore_32 rfl (lv_at hl 1 rfl) ?_
      refine x_aaldIN cx hk hw (hc12) (by omega) (by first | decide | omega) (congrArg va_rf (hf12 a (by omega))) dX7_explore_33 ?_
      refine x_rdV (av := [.int (nI a), .ref (lo (tL a))]) (rest := []) cx hk hw (h6) cv_RX7_101_6 (s_sv S X hS hs hL (fun q_ => m_lc S q_ s a) (fun q hq => m_lc_le hS hq a) a a hr1 (by omega) (by omega)) hl.1 rfl rfl (Nat.le_of_ble_eq_true rfl) ⟨by show _ ≤ n + 1 + 3; omega, by show _ ≤ 40 * (n + 1 + 3); omega⟩ ⟨Nat.zero_le _, Nat.zero_le _⟩ dX7_explore_34 ?_
      refine lv_goto (tgt := 41) hx hb dX7_explore_37 (by decide) ?_
      exact J41_2 (lN (svN S a (fun q_ => m_lc S q_ s a) (sn S 0)) - lN (m_kc S a)) (by rw [if_pos h23_10]) _ (lv_sub hl [0, 1, 2, 3, 4] rfl)
  · skip
    exact absurd (by assumption : ¬ a < sn S 1) (by omega)
