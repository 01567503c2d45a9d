set_option maxHeartbeats 4000000 in
set_option maxRecDepth 100000 in
theorem m_turn_ {l : Launch} {G : x_G} {lo : x_L} {co : x_C} (S : St) (m : Nat → Nat → Int32) (hm : isM G lo co S m) (hS : Sok S) (t a b c : Int32) : x_Rd l G lo co yX11_inTurn cX11_inTurn 5 (some .int) 4 [.ref (lo (0)), .int (t), .int (a), .int (b), .int (c)] (some (.int (m_turn S t a b c))) := by
  refine x_enter RX11 rfl (by decide) (Nat.le_of_ble_eq_true rfl) ?_
  intro pp ee ss mm bb mt cd ls cx hk hw hr hlk hl
  have hl : lv_has ls 5 [(0, .ref (lo (0))), (1, .int (t)), (2, .int (a)), (3, .int (b)), (4, .int (c))] := hl
  generalize hav : ([.ref (lo (0)), .int (t), .int (a), .int (b), .int (c)] : List Value).toArray = av at cx ⊢
  generalize hvv : (some (.int (m_turn S t a b c)) : Option Value) = vv
  have hx := cx.1
  have hb := cx.2.1
  have hown := cx.2.2.2.1
  have hts := cx.2.2.2.2
  obtain ⟨s1, s2, s3, s4, s5, s6⟩ := id hS
  refine lv_aload_n hx hb dX11_inTurn_0 rfl (lv_at hl 0 rfl) ?_
  refine lv_iload_n hx hb dX11_inTurn_1 rfl (lv_at hl 1 rfl) ?_
  refine lv_iload_n hx hb dX11_inTurn_2 rfl (lv_at hl 2 rfl) ?_
  refine x_rdV (av := [.int (t), .int (a)]) (rest := []) cx hk hw (hm.1) cv_RX11_113_10 (m_isCol S m hm hS t a) hl.1 rfl rfl (Nat.le_of_ble_eq_true rfl) ⟨by decide, by decide⟩ ⟨Nat.zero_le _, Nat.zero_le _⟩ dX11_inTurn_3 ?_
  refine x_if_eq (tgt := 20) cx dX11_inTurn_6 (by decide) (fun h6_1 => ?_) (fun h6_1 => ?_)
  · skip
    refine lv_iconst (v := (-1)) hx hb dX11_inTurn_20 rfl ?_
    exact x_iret cx hr hlk dX11_inTurn_21 ((congrArg (fun z => some (Value.int z)) (show (-1) = m_turn S t a b c from by first | (unfold m_turn; rw [mt_no (by assumption)]; rfl) | (unfold m_turn; rw [if_neg (by rw [hti, ht3, nI_clamp (by omega), turn_m]; simp [*]; done)]))).trans hvv)
  · skip
    have hca := (by assumption : m_isC S t a = true)
    have hti : m_isT S t = true := by rw [m_isC, Bool.and_eq_true] at hca; exact hca.1
    obtain ⟨t1, ht1, ht2, ht3⟩ := m_isT_ex hti
    have hT := (s1 t1 ht1).1 ht2
    obtain ⟨k1, k2, k3, k4, k5, k6, k7, k8, k9, k0⟩ := id hT
    have hta : t_has (sT S t1) a = true := by rw [m_isC, ht3, nI_clamp (by omega), Bool.and_eq_true] at hca; exact hca.2
    have hane : ¬ a = (-1) := (sh_a k2 hta).2
    have hane2 : ¬ (-1) = a := fun q => hane q.symm
    refine lv_iload_n hx hb dX11_inTurn_9 rfl (lv_at hl 3 rfl) ?_
    refine lv_iconst (v := (-1)) hx hb dX11_inTurn_10 rfl ?_
    refine lv_icmp_ne (tgt := 22) hx hb dX11_inTurn_11 (by decide) (fun h11_2 => ?_) (fun h11_2 => ?_)
    · skip
      refine lv_iload_n hx hb dX11_inTurn_22 rfl (lv_at hl 3 rfl) ?_
      refine lv_iconst (v := (-1)) hx hb dX11_inTurn_23 rfl ?_
      refine lv_icmp_eq (tgt := 43) hx hb dX11_inTurn_24 (by decide) (fun h24_3 => ?_) (fun h24_3 => ?_)
      · skip
        refine lv_iload hx hb dX11_inTurn_43 (lv_at hl 4 rfl) ?_
        refine lv_iconst (v := (-1)) hx hb dX11_inTurn_45 rfl ?_
        refine lv_icmp_eq (tgt := 73) hx hb dX11_inTurn_46 (by decide) (fun h46_4 => ?_) (fun h46_4 => ?_)
        · skip
          have hst : s_turn (sT S t1) a b c = true := by first | contradiction | (rw [turn_m]; simp [*]; done)
          obtain ⟨g1, g2, g3⟩ := turn_hon hst
          refine lv_iconst (v := nI 1) hx hb dX11_inTurn_73 rfl ?_
          refine lv_iload_n hx hb dX11_inTurn_74 rfl (lv_at hl 2 rfl) ?_
          refine lv_ishl hx hb dX11_inTurn_75 ?_
          refine lv_iload_n hx hb dX11_inTurn_76 rfl (lv_at hl 3 rfl) ?_
          refine lv_iconst (v := (-1)) hx hb dX11_inTurn_77 rfl ?_
          have J88_5 : ∀ (y5_s0 : Int32) (ey5_s0 : y5_s0 = if b = (-1) then (nI 0) else ((nI 1) <<< (b &&& 31))) (ls : Array Slot), lv_has ls 5 [(0, .ref (lo (0))), (1, .int (t)), (2, .int (a)), (3, .int (b)), (4, .int (c))] → x_w l 4 pp ee ss mm av bb mt cd vv 88 ls [.int (y5_s0), .int ((nI 1) <<< (a &&& 31))] := by
            intro y5_s0 ey5_s0 ls hl
            have dy5_s0 : (b = (-1) ∧ (y5_s0 = (nI 0))) ∨ (¬ (b = (-1)) ∧ (y5_s0 = ((nI 1) <<< (b &&& 31)))) := by rw [ey5_s0]; repeat' (first | (exact rfl) | (split <;> first | (refine Or.inl ⟨by assumption, ?_⟩) | (refine Or.inr ⟨by assumption, ?_⟩)))
            refine lv_ior hx hb dX11_inTurn_88 ?_
            refine lv_iload hx hb dX11_inTurn_89 (lv_at hl 4 rfl) ?_
            refine lv_iconst (v := (-1)) hx hb dX11_inTurn_91 rfl ?_
            have J103_6 : ∀ (y6_s0 : Int32) (ey6_s0 : y6_s0 = if c = (-1) then (nI 0) else ((nI 1) <<< (c &&& 31))) (ls : Array Slot), lv_has ls 5 [(0, .ref (lo (0))), (1, .int (t)), (2, .int (a)), (3, .int (b)), (4, .int (c))] → x_w l 4 pp ee ss mm av bb mt cd vv 103 ls [.int (y6_s0), .int (((nI 1) <<< (a &&& 31)) ||| y5_s0)] := by
              intro y6_s0 ey6_s0 ls hl
              have dy6_s0 : (c = (-1) ∧ (y6_s0 = (nI 0))) ∨ (¬ (c = (-1)) ∧ (y6_s0 = ((nI 1) <<< (c &&& 31)))) := by rw [ey6_s0]; repeat' (first | (exact rfl) | (split <;> first | (refine Or.inl ⟨by assumption, ?_⟩) | (refine Or.inr ⟨by assumption, ?_⟩)))
              refine lv_ior hx hb dX11_inTurn_103 ?_
              exact x_iret cx hr hlk dX11_inTurn_104 ((congrArg (fun z => some (Value.int z)) (show (((nI 1) <<< (a &&& 31)) ||| y5_s0) ||| y6_s0 = m_turn S t a b c from by first | contradiction | skip; unfold m_turn; rw [if_pos (by rw [hti, ht3, nI_clamp (by omega), hst]; rfl), s_own, ← nI_or, ← nI_or, ← (sh_a k2 g1).1, ← sh_b k2 g2, ← sh_b k2 g3]; simp [*])).trans hvv)
            refine lv_icmp_ne (tgt := 99) hx hb dX11_inTurn_92 (by decide) (fun h92_7 => ?_) (fun h92_7 => ?_)
            · skip
              refine lv_iconst (v := nI 1) hx hb dX11_inTurn_99 rfl ?_
              refine lv_iload hx hb dX11_inTurn_100 (lv_at hl 4 rfl) ?_
              refine lv_ishl hx hb dX11_inTurn_102 ?_
              exact J103_6 ((nI 1) <<< (c &&& 31)) (by rw [if_neg h92_7]) _ (lv_sub hl [0, 1, 2, 3, 4] rfl)
            · skip
              refine lv_iconst (v := nI 0) hx hb dX11_inTurn_95 rfl ?_
              refine lv_goto (tgt := 103) hx hb dX11_inTurn_96 (by decide) ?_
              exact J103_6 (nI 0) (by rw [if_pos h92_7]) _ (lv_sub hl [0, 1, 2, 3, 4] rfl)
          refine lv_icmp_ne (tgt := 85) hx hb dX11_inTurn_78 (by decide) (fun h78_8 => ?_) (fun h78_8 => ?_)
          · skip
            refine lv_iconst (v := nI 1) hx hb dX11_inTurn_85 rfl ?_
            refine lv_iload_n hx hb dX11_inTurn_86 rfl (lv_at hl 3 rfl) ?_
            refine lv_ishl hx hb dX11_inTurn_87 ?_
            exact J88_5 ((nI 1) <<< (b &&& 31)) (by rw [if_neg h78_8]) _ (lv_sub hl [0, 1, 2, 3, 4] rfl)
          · skip
            refine lv_iconst (v := nI 0) hx hb dX11_inTurn_81 rfl ?_
            refine lv_goto (tgt := 88) hx hb dX11_inTurn_82 (by decide) ?_
            exact J88_5 (nI 0) (by rw [if_pos h78_8]) _ (lv_sub hl [0, 1, 2, 3, 4] rfl)
        · skip
          refine lv_aload_n hx hb dX11_inTurn_49 rfl (lv_at hl 0 rfl) ?_
          refine lv_iload_n hx hb dX11_inTurn_50 rfl (lv_at hl 1 rfl) ?_
          refine lv_iload hx hb dX11_inTurn_51 (lv_at hl 4 rfl) ?_
          refine x_rdV (av := [.int (t), .int (c)]) (rest := []) cx hk hw (hm.1) cv_RX11_113_10 (m_isCol S m hm hS t c) hl.1 rfl rfl (Nat.le_of_ble_eq_true rfl) ⟨by decide, by decide⟩ ⟨Nat.zero_le _, Nat.zero_le _⟩ dX11_inTurn_53 ?_
          rw [show m_isC S t c = t_has (sT S t1) c from by rw [m_isC, hti, ht3, nI_clamp (by omega), Bool.true_and]]
          refine x_if_eq (tgt := 71) cx dX11_inTurn_56 (by decide) (fun h56_9 => ?_) (fun h56_9 => ?_)
          · skip
            refine lv_iconst (v := (-1)) hx hb dX11_inTurn_71 rfl ?_
            exact x_iret cx hr hlk dX11_inTurn_72 ((congrArg (fun z => some (Value.int z)) (show (-1) = m_turn S t a b c from by first | contradiction | (unfold m_turn; rw [if_neg (by rw [hti, ht3, nI_clamp (by omega), turn_m]; simp [*]; done)]))).trans hvv)
          · skip
            refine lv_iload hx hb dX11_inTurn_59 (lv_at hl 4 rfl) ?_
            refine lv_iload_n hx hb dX11_inTurn_61 rfl (lv_at hl 2 rfl) ?_
            refine lv_icmp_eq (tgt := 71) hx hb dX11_inTurn_62 (by decide) (fun h62_10 => ?_) (fun h62_10 => ?_)
            · skip
              refine lv_iconst (v := (-1)) hx hb dX11_inTurn_71 rfl ?_
              exact x_iret cx hr hlk dX11_inTurn_72 ((congrArg (fun z => some (Value.int z)) (show (-1) = m_turn S t a b c from by first | contradiction | (unfold m_turn; rw [if_neg (by rw [hti, ht3, nI_clamp (by omega), turn_m]; simp [*]; done)]))).trans hvv)
            · skip
              refine lv_iload hx hb dX11_inTurn_65 (lv_at hl 4 rfl) ?_
              refine lv_iload_n hx hb dX11_inTurn_67 rfl (lv_at hl 3 rfl) ?_
              refine lv_icmp_ne (tgt := 73) hx hb dX11_inTurn_68 (by decide) (fun h68_11 => ?_) (fun h68_11 => ?_)
              · skip
                have hst : s_turn (sT S t1) a b c = true := by first | contradiction | (rw [turn_m]; simp [*]; done)
                obtain ⟨g1, g2, g3⟩ := turn_hon hst
                refine lv_iconst (v := nI 1) hx hb dX11_inTurn_73 rfl ?_
                refine lv_iload_n hx hb dX11_inTurn_74 rfl (lv_at hl 2 rfl) ?_
                refine lv_ishl hx hb dX11_inTurn_75 ?_
                refine lv_iload_n hx hb dX11_inTurn_76 rfl (lv_at hl 3 rfl) ?_
                refine lv_iconst (v := (-1)) hx hb dX11_inTurn_77 rfl ?_
                have J88_12 : ∀ (y12_s0 : Int32) (ey12_s0 : y12_s0 = if b = (-1) then (nI 0) else ((nI 1) <<< (b &&& 31))) (ls : Array Slot), lv_has ls 5 [(0, .ref (lo (0))), (1, .int (t)), (2, .int (a)), (3, .int (b)), (4, .int (c))] → x_w l 4 pp ee ss mm av bb mt cd vv 88 ls [.int (y12_s0), .int ((nI 1) <<< (a &&& 31))] := by
                  intro y12_s0 ey12_s0 ls hl
                  have dy12_s0 : (b = (-1) ∧ (y12_s0 = (nI 0))) ∨ (¬ (b = (-1)) ∧ (y12_s0 = ((nI 1) <<< (b &&& 31)))) := by rw [ey12_s0]; repeat' (first | (exact rfl) | (split <;> first | (refine Or.inl ⟨by assumption, ?_⟩) | (refine Or.inr ⟨by assumption, ?_⟩)))
                  refine lv_ior hx hb dX11_inTurn_88 ?_
                  refine lv_iload hx hb dX11_inTurn_89 (lv_at hl 4 rfl) ?_
                  refine lv_iconst (v := (-1)) hx hb dX11_inTurn_91 rfl ?_
                  have J103_13 : ∀ (y13_s0 : Int32) (ey13_s0 : y13_s0 = if c = (-1) then (nI 0) else ((nI 1) <<< (c &&& 31))) (ls : Array Slot), lv_has ls 5 [(0, .ref (lo (0))), (1, .int (t)), (2, .int (a)), (3, .int (b)), (4, .int (c))] → x_w l 4 pp ee ss mm av bb mt cd vv 103 ls [.int (y13_s0), .int (((nI 1) <<< (a &&& 31)) ||| y12_s0)] := by
                    intro y13_s0 ey13_s0 ls hl
                    have dy13_s0 : (c = (-1) ∧ (y13_s0 = (nI 0))) ∨ (¬ (c = (-1)) ∧ (y13_s0 = ((nI 1) <<< (c &&& 31)))) := by rw [ey13_s0]; repeat' (first | (exact rfl) | (split <;> first | (refine Or.inl ⟨by assumption, ?_⟩) | (refine Or.inr ⟨by assumption, ?_⟩)))
                    refine lv_ior hx hb dX11_inTurn_103 ?_
                    exact x_iret cx hr hlk dX11_inTurn_104 ((congrArg (fun z => some (Value.int z)) (show (((nI 1) <<< (a &&& 31)) ||| y12_s0) ||| y13_s0 = m_turn S t a b c from by first | contradiction | skip; unfold m_turn; rw [if_pos (by rw [hti, ht3, nI_clamp (by omega), hst]; rfl), s_own, ← nI_or, ← nI_or, ← (sh_a k2 g1).1, ← sh_b k2 g2, ← sh_b k2 g3]; simp [*])).trans hvv)
                  refine lv_icmp_ne (tgt := 99) hx hb dX11_inTurn_92 (by decide) (fun h92_14 => ?_) (fun h92_14 => ?_)
                  · skip
                    refine lv_iconst (v := nI 1) hx hb dX11_inTurn_99 rfl ?_
                    refine lv_iload hx hb dX11_inTurn_100 (lv_at hl 4 rfl) ?_
                    refine lv_ishl hx hb dX11_inTurn_102 ?_
                    exact J103_13 ((nI 1) <<< (c &&& 31)) (by rw [if_neg h92_14]) _ (lv_sub hl [0, 1, 2, 3, 4] rfl)
                  · skip
                    refine lv_iconst (v := nI 0) hx hb dX11_inTurn_95 rfl ?_
                    refine lv_goto (tgt := 103) hx hb dX11_inTurn_96 (by decide) ?_
                    exact J103_13 (nI 0) (by rw [if_pos h92_14]) _ (lv_sub hl [0, 1, 2, 3, 4] rfl)
                refine lv_icmp_ne (tgt := 85) hx hb dX11_inTurn_78 (by decide) (fun h78_15 => ?_) (fun h78_15 => ?_)
                · skip
                  refine lv_iconst (v := nI 1) hx hb dX11_inTurn_85 rfl ?_
                  refine lv_iload_n hx hb dX11_inTurn_86 rfl (lv_at hl 3 rfl) ?_
                  refine lv_ishl hx hb dX11_inTurn_87 ?_
                  exact J88_12 ((nI 1) <<< (b &&& 31)) (by rw [if_neg h78_15]) _ (lv_sub hl [0, 1, 2, 3, 4] rfl)
                · skip
                  refine lv_iconst (v := nI 0) hx hb dX11_inTurn_81 rfl ?_
                  refine lv_goto (tgt := 88) hx hb dX11_inTurn_82 (by decide) ?_
                  exact J88_12 (nI 0) (by rw [if_pos h78_15]) _ (lv_sub hl [0, 1, 2, 3, 4] rfl)
              · skip
                refine lv_iconst (v := (-1)) hx hb dX11_inTurn_71 rfl ?_
                exact x_iret cx hr hlk dX11_inTurn_72 ((congrArg (fun z => some (Value.int z)) (show (-1) = m_turn S t a b c from by first | contradiction | (unfold m_turn; rw [if_neg (by rw [hti, ht3, nI_clamp (by omega), turn_m]; simp [*]; done)]))).trans hvv)
      · skip
        refine lv_aload_n hx hb dX11_inTurn_27 rfl (lv_at hl 0 rfl) ?_
        refine lv_iload_n hx hb dX11_inTurn_28 rfl (lv_at hl 1 rfl) ?_
        refine lv_iload_n hx hb dX11_inTurn_29 rfl (lv_at hl 3 rfl) ?_
        refine x_rdV (av := [.int (t), .int (b)]) (rest := []) cx hk hw (hm.1) cv_RX11_113_10 (m_isCol S m hm hS t b) hl.1 rfl rfl (Nat.le_of_ble_eq_true rfl) ⟨by decide, by decide⟩ ⟨Nat.zero_le _, Nat.zero_le _⟩ dX11_inTurn_30 ?_
        rw [show m_isC S t b = t_has (sT S t1) b from by rw [m_isC, hti, ht3, nI_clamp (by omega), Bool.true_and]]
        refine x_if_eq (tgt := 41) cx dX11_inTurn_33 (by decide) (fun h33_16 => ?_) (fun h33_16 => ?_)
        · skip
          refine lv_iconst (v := (-1)) hx hb dX11_inTurn_41 rfl ?_
          exact x_iret cx hr hlk dX11_inTurn_42 ((congrArg (fun z => some (Value.int z)) (show (-1) = m_turn S t a b c from by first | contradiction | (unfold m_turn; rw [if_neg (by rw [hti, ht3, nI_clamp (by omega), turn_m]; simp [*]; done)]))).trans hvv)
        · skip
          refine lv_iload_n hx hb dX11_inTurn_36 rfl (lv_at hl 3 rfl) ?_
          refine lv_iload_n hx hb dX11_inTurn_37 rfl (lv_at hl 2 rfl) ?_
          refine lv_icmp_ne (tgt := 43) hx hb dX11_inTurn_38 (by decide) (fun h38_17 => ?_) (fun h38_17 => ?_)
          · skip
            refine lv_iload hx hb dX11_inTurn_43 (lv_at hl 4 rfl) ?_
            refine lv_iconst (v := (-1)) hx hb dX11_inTurn_45 rfl ?_
            refine lv_icmp_eq (tgt := 73) hx hb dX11_inTurn_46 (by decide) (fun h46_18 => ?_) (fun h46_18 => ?_)
            · skip
              have hst : s_turn (sT S t1) a b c = true := by first | contradiction | (rw [turn_m]; simp [*]; done)
              obtain ⟨g1, g2, g3⟩ := turn_hon hst
              refine lv_iconst (v := nI 1) hx hb dX11_inTurn_73 rfl ?_
              refine lv_iload_n hx hb dX11_inTurn_74 rfl (lv_at hl 2 rfl) ?_
              refine lv_ishl hx hb dX11_inTurn_75 ?_
              refine lv_iload_n hx hb dX11_inTurn_76 rfl (lv_at hl 3 rfl) ?_
              refine lv_iconst (v := (-1)) hx hb dX11_inTurn_77 rfl ?_
              have J88_19 : ∀ (y19_s0 : Int32) (ey19_s0 : y19_s0 = if b = (-1) then (nI 0) else ((nI 1) <<< (b &&& 31))) (ls : Array Slot), lv_has ls 5 [(0, .ref (lo (0))), (1, .int (t)), (2, .int (a)), (3, .int (b)), (4, .int (c))] → x_w l 4 pp ee ss mm av bb mt cd vv 88 ls [.int (y19_s0), .int ((nI 1) <<< (a &&& 31))] := by
                intro y19_s0 ey19_s0 ls hl
                have dy19_s0 : (b = (-1) ∧ (y19_s0 = (nI 0))) ∨ (¬ (b = (-1)) ∧ (y19_s0 = ((nI 1) <<< (b &&& 31)))) := by rw [ey19_s0]; repeat' (first | (exact rfl) | (split <;> first | (refine Or.inl ⟨by assumption, ?_⟩) | (refine Or.inr ⟨by assumption, ?_⟩)))
                refine lv_ior hx hb dX11_inTurn_88 ?_
                refine lv_iload hx hb dX11_inTurn_89 (lv_at hl 4 rfl) ?_
                refine lv_iconst (v := (-1)) hx hb dX11_inTurn_91 rfl ?_
                have J103_20 : ∀ (y20_s0 : Int32) (ey20_s0 : y20_s0 = if c = (-1) then (nI 0) else ((nI 1) <<< (c &&& 31))) (ls : Array Slot), lv_has ls 5 [(0, .ref (lo (0))), (1, .int (t)), (2, .int (a)), (3, .int (b)), (4, .int (c))] → x_w l 4 pp ee ss mm av bb mt cd vv 103 ls [.int (y20_s0), .int (((nI 1) <<< (a &&& 31)) ||| y19_s0)] := by
                  intro y20_s0 ey20_s0 ls hl
                  have dy20_s0 : (c = (-1) ∧ (y20_s0 = (nI 0))) ∨ (¬ (c = (-1)) ∧ (y20_s0 = ((nI 1) <<< (c &&& 31)))) := by rw [ey20_s0]; repeat' (first | (exact rfl) | (split <;> first | (refine Or.inl ⟨by assumption, ?_⟩) | (refine Or.inr ⟨by assumption, ?_⟩)))
                  refine lv_ior hx hb dX11_inTurn_103 ?_
                  exact x_iret cx hr hlk dX11_inTurn_104 ((congrArg (fun z => some (Value.int z)) (show (((nI 1) <<< (a &&& 31)) ||| y19_s0) ||| y20_s0 = m_turn S t a b c from by first | contradiction | skip; unfold m_turn; rw [if_pos (by rw [hti, ht3, nI_clamp (by omega), hst]; rfl), s_own, ← nI_or, ← nI_or, ← (sh_a k2 g1).1, ← sh_b k2 g2, ← sh_b k2 g3]; simp [*])).trans hvv)
                refine lv_icmp_ne (tgt := 99) hx hb dX11_inTurn_92 (by decide) (fun h92_21 => ?_) (fun h92_21 => ?_)
                · skip
                  refine lv_iconst (v := nI 1) hx hb dX11_inTurn_99 rfl ?_
                  refine lv_iload hx hb dX11_inTurn_100 (lv_at hl 4 rfl) ?_
                  refine lv_ishl hx hb dX11_inTurn_102 ?_
                  exact J103_20 ((nI 1) <<< (c &&& 31)) (by rw [if_neg h92_21]) _ (lv_sub hl [0, 1, 2, 3, 4] rfl)
                · skip
                  refine lv_iconst (v := nI 0) hx hb dX11_inTurn_95 rfl ?_
                  refine lv_goto (tgt := 103) hx hb dX11_inTurn_96 (by decide) ?_
                  exact J103_20 (nI 0) (by rw [if_pos h92_21]) _ (lv_sub hl [0, 1, 2, 3, 4] rfl)
              refine lv_icmp_ne (tgt := 85) hx hb dX11_inTurn_78 (by decide) (fun h78_22 => ?_) (fun h78_22 => ?_)
              · skip
                refine lv_iconst (v := nI 1) hx hb dX11_inTurn_85 rfl ?_
                refine lv_iload_n hx hb dX11_inTurn_86 rfl (lv_at hl 3 rfl) ?_
                refine lv_ishl hx hb dX11_inTurn_87 ?_
                exact J88_19 ((nI 1) <<< (b &&& 31)) (by rw [if_neg h78_22]) _ (lv_sub hl [0, 1, 2, 3, 4] rfl)
              · skip
                refine lv_iconst (v := nI 0) hx hb dX11_inTurn_81 rfl ?_
                refine lv_goto (tgt := 88) hx hb dX11_inTurn_82 (by decide) ?_
                exact J88_19 (nI 0) (by rw [if_pos h78_22]) _ (lv_sub hl [0, 1, 2, 3, 4] rfl)
            · skip
              refine lv_aload_n hx hb dX11_inTurn_49 rfl (lv_at hl 0 rfl) ?_
              refine lv_iload_n hx hb dX11_inTurn_50 rfl (lv_at hl 1 rfl) ?_
              refine lv_iload hx hb dX11_inTurn_51 (lv_at hl 4 rfl) ?_
              refine x_rdV (av := [.int (t), .int (c)]) (rest := []) cx hk hw (hm.1) cv_RX11_113_10 (m_isCol S m hm hS t c) hl.1 rfl rfl (Nat.le_of_ble_eq_true rfl) ⟨by decide, by decide⟩ ⟨Nat.zero_le _, Nat.zero_le _⟩ dX11_inTurn_53 ?_
              rw [show m_isC S t c = t_has (sT S t1) c from by rw [m_isC, hti, ht3, nI_clamp (by omega), Bool.true_and]]
              refine x_if_eq (tgt := 71) cx dX11_inTurn_56 (by decide) (fun h56_23 => ?_) (fun h56_23 => ?_)
              · skip
                refine lv_iconst (v := (-1)) hx hb dX11_inTurn_71 rfl ?_
                exact x_iret cx hr hlk dX11_inTurn_72 ((congrArg (fun z => some (Value.int z)) (show (-1) = m_turn S t a b c from by first | contradiction | (unfold m_turn; rw [if_neg (by rw [hti, ht3, nI_clamp (by omega), turn_m]; simp [*]; done)]))).trans hvv)
              · skip
                refine lv_iload hx hb dX11_inTurn_59 (lv_at hl 4 rfl) ?_
                refine lv_iload_n hx hb dX11_inTurn_61 rfl (lv_at hl 2 rfl) ?_
                refine lv_icmp_eq (tgt := 71) hx hb dX11_inTurn_62 (by decide) (fun h62_24 => ?_) (fun h62_24 => ?_)
                · skip
                  refine lv_iconst (v := (-1)) hx hb dX11_inTurn_71 rfl ?_
                  exact x_iret cx hr hlk dX11_inTurn_72 ((congrArg (fun z => some (Value.int z)) (show (-1) = m_turn S t a b c from by first | contradiction | (unfold m_turn; rw [if_neg (by rw [hti, ht3, nI_clamp (by omega), turn_m]; simp [*]; done)]))).trans hvv)
                · skip
                  refine lv_iload hx hb dX11_inTurn_65 (lv_at hl 4 rfl) ?_
                  refine lv_iload_n hx hb dX11_inTurn_67 rfl (lv_at hl 3 rfl) ?_
                  refine lv_icmp_ne (tgt := 73) hx hb dX11_inTurn_68 (by decide) (fun h68_25 => ?_) (fun h68_25 => ?_)
                  · skip
                    have hst : s_turn (sT S t1) a b c = true := by first | contradiction | (rw [turn_m]; simp [*]; done)
                    obtain ⟨g1, g2, g3⟩ := turn_hon hst
                    refine lv_iconst (v := nI 1) hx hb dX11_inTurn_73 rfl ?_
                    refine lv_iload_n hx hb dX11_inTurn_74 rfl (lv_at hl 2 rfl) ?_
                    refine lv_ishl hx hb dX11_inTurn_75 ?_
                    refine lv_iload_n hx hb dX11_inTurn_76 rfl (lv_at hl 3 rfl) ?_
                    refine lv_iconst (v := (-1)) hx hb dX11_inTurn_77 rfl ?_
                    have J88_26 : ∀ (y26_s0 : Int32) (ey26_s0 : y26_s0 = if b = (-1) then (nI 0) else ((nI 1) <<< (b &&& 31))) (ls : Array Slot), lv_has ls 5 [(0, .ref (lo (0))), (1, .int (t)), (2, .int (a)), (3, .int (b)), (4, .int (c))] → x_w l 4 pp ee ss mm av bb mt cd vv 88 ls [.int (y26_s0), .int ((nI 1) <<< (a &&& 31))] := by
                      intro y26_s0 ey26_s0 ls hl
                      have dy26_s0 : (b = (-1) ∧ (y26_s0 = (nI 0))) ∨ (¬ (b = (-1)) ∧ (y26_s0 = ((nI 1) <<< (b &&& 31)))) := by rw [ey26_s0]; repeat' (first | (exact rfl) | (split <;> first | (refine Or.inl ⟨by assumption, ?_⟩) | (refine Or.inr ⟨by assumption, ?_⟩)))
                      refine lv_ior hx hb dX11_inTurn_88 ?_
                      refine lv_iload hx hb dX11_inTurn_89 (lv_at hl 4 rfl) ?_
                      refine lv_iconst (v := (-1)) hx hb dX11_inTurn_91 rfl ?_
                      have J103_27 : ∀ (y27_s0 : Int32) (ey27_s0 : y27_s0 = if c = (-1) then (nI 0) else ((nI 1) <<< (c &&& 31))) (ls : Array Slot), lv_has ls 5 [(0, .ref (lo (0))), (1, .int (t)), (2, .int (a)), (3, .int (b)), (4, .int (c))] → x_w l 4 pp ee ss mm av bb mt cd vv 103 ls [.int (y27_s0), .int (((nI 1) <<< (a &&& 31)) ||| y26_s0)] := by
                        intro y27_s0 ey27_s0 ls hl
                        have dy27_s0 : (c = (-1) ∧ (y27_s0 = (nI 0))) ∨ (¬ (c = (-1)) ∧ (y27_s0 = ((nI 1) <<< (c &&& 31)))) := by rw [ey27_s0]; repeat' (first | (exact rfl) | (split <;> first | (refine Or.inl ⟨by assumption, ?_⟩) | (refine Or.inr ⟨by assumption, ?_⟩)))
                        refine lv_ior hx hb dX11_inTurn_103 ?_
                        exact x_iret cx hr hlk dX11_inTurn_104 ((congrArg (fun z => some (Value.int z)) (show (((nI 1) <<< (a &&& 31)) ||| y26_s0) ||| y27_s0 = m_turn S t a b c from by first | contradiction | skip; unfold m_turn; rw [if_pos (by rw [hti, ht3, nI_clamp (by omega), hst]; rfl), s_own, ← nI_or, ← nI_or, ← (sh_a k2 g1).1, ← sh_b k2 g2, ← sh_b k2 g3]; simp [*])).trans hvv)
                      refine lv_icmp_ne (tgt := 99) hx hb dX11_inTurn_92 (by decide) (fun h92_28 => ?_) (fun h92_28 => ?_)
                      · skip
                        refine lv_iconst (v := nI 1) hx hb dX11_inTurn_99 rfl ?_
                        refine lv_iload hx hb dX11_inTurn_100 (lv_at hl 4 rfl) ?_
                        refine lv_ishl hx hb dX11_inTurn_102 ?_
                        exact J103_27 ((nI 1) <<< (c &&& 31)) (by rw [if_neg h92_28]) _ (lv_sub hl [0, 1, 2, 3, 4] rfl)
                      · skip
                        refine lv_iconst (v := nI 0) hx hb dX11_inTurn_95 rfl ?_
                        refine lv_goto (tgt := 103) hx hb dX11_inTurn_96 (by decide) ?_
                        exact J103_27 (nI 0) (by rw [if_pos h92_28]) _ (lv_sub hl [0, 1, 2, 3, 4] rfl)
                    refine lv_icmp_ne (tgt := 85) hx hb dX11_inTurn_78 (by decide) (fun h78_29 => ?_) (fun h78_29 => ?_)
                    · skip
                      refine lv_iconst (v := nI 1) hx hb dX11_inTurn_85 rfl ?_
                      refine lv_iload_n hx hb dX11_inTurn_86 rfl (lv_at hl 3 rfl) ?_
                      refine lv_ishl hx hb dX11_inTurn_87 ?_
                      exact J88_26 ((nI 1) <<< (b &&& 31)) (by rw [if_neg h78_29]) _ (lv_sub hl [0, 1, 2, 3, 4] rfl)
                    · skip
                      refine lv_iconst (v := nI 0) hx hb dX11_inTurn_81 rfl ?_
                      refine lv_goto (tgt := 88) hx hb dX11_inTurn_82 (by decide) ?_
                      exact J88_26 (nI 0) (by rw [if_pos h78_29]) _ (lv_sub hl [0, 1, 2, 3, 4] rfl)
                  · skip
                    refine lv_iconst (v := (-1)) hx hb dX11_inTurn_71 rfl ?_
                    exact x_iret cx hr hlk dX11_inTurn_72 ((congrArg (fun z => some (Value.int z)) (show (-1) = m_turn S t a b c from by first | contradiction | (unfold m_turn; rw [if_neg (by rw [hti, ht3, nI_clamp (by omega), turn_m]; simp [*]; done)]))).trans hvv)
          · skip
            refine lv_iconst (v := (-1)) hx hb dX11_inTurn_41 rfl ?_
            exact x_iret cx hr hlk dX11_inTurn_42 ((congrArg (fun z => some (Value.int z)) (show (-1) = m_turn S t a b c from by first | contradiction | (unfold m_turn; rw [if_neg (by rw [hti, ht3, nI_clamp (by omega), turn_m]; simp [*]; done)]))).trans hvv)
    · skip
      refine lv_iload hx hb dX11_inTurn_14 (lv_at hl 4 rfl) ?_
      refine lv_iconst (v := (-1)) hx hb dX11_inTurn_16 rfl ?_
      refine lv_icmp_eq (tgt := 22) hx hb dX11_inTurn_17 (by decide) (fun h17_30 => ?_) (fun h17_30 => ?_)
      · skip
        refine lv_iload_n hx hb dX11_inTurn_22 rfl (lv_at hl 3 rfl) ?_
        refine lv_iconst (v := (-1)) hx hb dX11_inTurn_23 rfl ?_
        refine lv_icmp_eq (tgt := 43) hx hb dX11_inTurn_24 (by decide) (fun h24_31 => ?_) (fun h24_31 => ?_)
        · skip
          refine lv_iload hx hb dX11_inTurn_43 (lv_at hl 4 rfl) ?_
          refine lv_iconst (v := (-1)) hx hb dX11_inTurn_45 rfl ?_
          refine lv_icmp_eq (tgt := 73) hx hb dX11_inTurn_46 (by decide) (fun h46_32 => ?_) (fun h46_32 => ?_)
          · skip
            have hst : s_turn (sT S t1) a b c = true := by first | contradiction | (rw [turn_m]; simp [*]; done)
            obtain ⟨g1, g2, g3⟩ := turn_hon hst
            refine lv_iconst (v := nI 1) hx hb dX11_inTurn_73 rfl ?_
            refine lv_iload_n hx hb dX11_inTurn_74 rfl (lv_at hl 2 rfl) ?_
            refine lv_ishl hx hb dX11_inTurn_75 ?_
            refine lv_iload_n hx hb dX11_inTurn_76 rfl (lv_at hl 3 rfl) ?_
            refine lv_iconst (v := (-1)) hx hb dX11_inTurn_77 rfl ?_
            have J88_33 : ∀ (y33_s0 : Int32) (ey33_s0 : y33_s0 = if b = (-1) then (nI 0) else ((nI 1) <<< (b &&& 31))) (ls : Array Slot), lv_has ls 5 [(0, .ref (lo (0))), (1, .int (t)), (2, .int (a)), (3, .int (b)), (4, .int (c))] → x_w l 4 pp ee ss mm av bb mt cd vv 88 ls [.int (y33_s0), .int ((nI 1) <<< (a &&& 31))] := by
              intro y33_s0 ey33_s0 ls hl
              have dy33_s0 : (b = (-1) ∧ (y33_s0 = (nI 0))) ∨ (¬ (b = (-1)) ∧ (y33_s0 = ((nI 1) <<< (b &&& 31)))) := by rw [ey33_s0]; repeat' (first | (exact rfl) | (split <;> first | (refine Or.inl ⟨by assumption, ?_⟩) | (refine Or.inr ⟨by assumption, ?_⟩)))
              refine lv_ior hx hb dX11_inTurn_88 ?_
              refine lv_iload hx hb dX11_inTurn_89 (lv_at hl 4 rfl) ?_
              refine lv_iconst (v := (-1)) hx hb dX11_inTurn_91 rfl ?_
              have J103_34 : ∀ (y34_s0 : Int32) (ey34_s0 : y34_s0 = if c = (-1) then (nI 0) else ((nI 1) <<< (c &&& 31))) (ls : Array Slot), lv_has ls 5 [(0, .ref (lo (0))), (1, .int (t)), (2, .int (a)), (3, .int (b)), (4, .int (c))] → x_w l 4 pp ee ss mm av bb mt cd vv 103 ls [.int (y34_s0), .int (((nI 1) <<< (a &&& 31)) ||| y33_s0)] := by
                intro y34_s0 ey34_s0 ls hl
                have dy34_s0 : (c = (-1) ∧ (y34_s0 = (nI 0))) ∨ (¬ (c = (-1)) ∧ (y34_s0 = ((nI 1) <<< (c &&& 31)))) := by rw [ey34_s0]; repeat' (first | (exact rfl) | (split <;> first | (refine Or.inl ⟨by assumption, ?_⟩) | (refine Or.inr ⟨by assumption, ?_⟩)))
                refine lv_ior hx hb dX11_inTurn_103 ?_
                exact x_iret cx hr hlk dX11_inTurn_104 ((congrArg (fun z => some (Value.int z)) (show (((nI 1) <<< (a &&& 31)) ||| y33_s0) ||| y34_s0 = m_turn S t a b c from by first | contradiction | skip; unfold m_turn; rw [if_pos (by rw [hti, ht3, nI_clamp (by omega), hst]; rfl), s_own, ← nI_or, ← nI_or, ← (sh_a k2 g1).1, ← sh_b k2 g2, ← sh_b k2 g3]; simp [*])).trans hvv)
              refine lv_icmp_ne (tgt := 99) hx hb dX11_inTurn_92 (by decide) (fun h92_35 => ?_) (fun h92_35 => ?_)
              · skip
                refine lv_iconst (v := nI 1) hx hb dX11_inTurn_99 rfl ?_
                refine lv_iload hx hb dX11_inTurn_100 (lv_at hl 4 rfl) ?_
                refine lv_ishl hx hb dX11_inTurn_102 ?_
                exact J103_34 ((nI 1) <<< (c &&& 31)) (by rw [if_neg h92_35]) _ (lv_sub hl [0, 1, 2, 3, 4] rfl)
              · skip
                refine lv_iconst (v := nI 0) hx hb dX11_inTurn_95 rfl ?_
                refine lv_goto (tgt := 103) hx hb dX11_inTurn_96 (by decide) ?_
                exact J103_34 (nI 0) (by rw [if_pos h92_35]) _ (lv_sub hl [0, 1, 2, 3, 4] rfl)
            refine lv_icmp_ne (tgt := 85) hx hb dX11_inTurn_78 (by decide) (fun h78_36 => ?_) (fun h78_36 => ?_)
            · skip
              refine lv_iconst (v := nI 1) hx hb dX11_inTurn_85 rfl ?_
              refine lv_iload_n hx hb dX11_inTurn_86 rfl (lv_at hl 3 rfl) ?_
              refine lv_ishl hx hb dX11_inTurn_87 ?_
              exact J88_33 ((nI 1) <<< (b &&& 31)) (by rw [if_neg h78_36]) _ (lv_sub hl [0, 1, 2, 3, 4] rfl)
            · skip
              refine lv_iconst (v := nI 0) hx hb dX11_inTurn_81 rfl ?_
              refine lv_goto (tgt := 88) hx hb dX11_inTurn_82 (by decide) ?_
              exact J88_33 (nI 0) (by rw [if_pos h78_36]) _ (lv_sub hl [0, 1, 2, 3, 4] rfl)
          · skip
            refine lv_aload_n hx hb dX11_inTurn_49 rfl (lv_at hl 0 rfl) ?_
            refine lv_iload_n hx hb dX11_inTurn_50 rfl (lv_at hl 1 rfl) ?_
            refine lv_iload hx hb dX11_inTurn_51 (lv_at hl 4 rfl) ?_
            refine x_rdV (av := [.int (t), .int (c)]) (rest := []) cx hk hw (hm.1) cv_RX11_113_10 (m_isCol S m hm hS t c) hl.1 rfl rfl (Nat.le_of_ble_eq_true rfl) ⟨by decide, by decide⟩ ⟨Nat.zero_le _, Nat.zero_le _⟩ dX11_inTurn_53 ?_
            rw [show m_isC S t c = t_has (sT S t1) c from by rw [m_isC, hti, ht3, nI_clamp (by omega), Bool.true_and]]
            refine x_if_eq (tgt := 71) cx dX11_inTurn_56 (by decide) (fun h56_37 => ?_) (fun h56_37 => ?_)
            · skip
              refine lv_iconst (v := (-1)) hx hb dX11_inTurn_71 rfl ?_
              exact x_iret cx hr hlk dX11_inTurn_72 ((congrArg (fun z => some (Value.int z)) (show (-1) = m_turn S t a b c from by first | contradiction | (unfold m_turn; rw [if_neg (by rw [hti, ht3, nI_clamp (by omega), turn_m]; simp [*]; done)]))).trans hvv)
            · skip
              refine lv_iload hx hb dX11_inTurn_59 (lv_at hl 4 rfl) ?_
              refine lv_iload_n hx hb dX11_inTurn_61 rfl (lv_at hl 2 rfl) ?_
              refine lv_icmp_eq (tgt := 71) hx hb dX11_inTurn_62 (by decide) (fun h62_38 => ?_) (fun h62_38 => ?_)
              · skip
                refine lv_iconst (v := (-1)) hx hb dX11_inTurn_71 rfl ?_
                exact x_iret cx hr hlk dX11_inTurn_72 ((congrArg (fun z => some (Value.int z)) (show (-1) = m_turn S t a b c from by first | contradiction | (unfold m_turn; rw [if_neg (by rw [hti, ht3, nI_clamp (by omega), turn_m]; simp [*]; done)]))).trans hvv)
              · skip
                refine lv_iload hx hb dX11_inTurn_65 (lv_at hl 4 rfl) ?_
                refine lv_iload_n hx hb dX11_inTurn_67 rfl (lv_at hl 3 rfl) ?_
                refine lv_icmp_ne (tgt := 73) hx hb dX11_inTurn_68 (by decide) (fun h68_39 => ?_) (fun h68_39 => ?_)
                · skip
                  have hst : s_turn (sT S t1) a b c = true := by first | contradiction | (rw [turn_m]; simp [*]; done)
                  obtain ⟨g1, g2, g3⟩ := turn_hon hst
                  refine lv_iconst (v := nI 1) hx hb dX11_inTurn_73 rfl ?_
                  refine lv_iload_n hx hb dX11_inTurn_74 rfl (lv_at hl 2 rfl) ?_
                  refine lv_ishl hx hb dX11_inTurn_75 ?_
                  refine lv_iload_n hx hb dX11_inTurn_76 rfl (lv_at hl 3 rfl) ?_
                  refine lv_iconst (v := (-1)) hx hb dX11_inTurn_77 rfl ?_
                  have J88_40 : ∀ (y40_s0 : Int32) (ey40_s0 : y40_s0 = if b = (-1) then (nI 0) else ((nI 1) <<< (b &&& 31))) (ls : Array Slot), lv_has ls 5 [(0, .ref (lo (0))), (1, .int (t)), (2, .int (a)), (3, .int (b)), (4, .int (c))] → x_w l 4 pp ee ss mm av bb mt cd vv 88 ls [.int (y40_s0), .int ((nI 1) <<< (a &&& 31))] := by
                    intro y40_s0 ey40_s0 ls hl
                    have dy40_s0 : (b = (-1) ∧ (y40_s0 = (nI 0))) ∨ (¬ (b = (-1)) ∧ (y40_s0 = ((nI 1) <<< (b &&& 31)))) := by rw [ey40_s0]; repeat' (first | (exact rfl) | (split <;> first | (refine Or.inl ⟨by assumption, ?_⟩) | (refine Or.inr ⟨by assumption, ?_⟩)))
                    refine lv_ior hx hb dX11_inTurn_88 ?_
                    refine lv_iload hx hb dX11_inTurn_89 (lv_at hl 4 rfl) ?_
                    refine lv_iconst (v := (-1)) hx hb dX11_inTurn_91 rfl ?_
                    have J103_41 : ∀ (y41_s0 : Int32) (ey41_s0 : y41_s0 = if c = (-1) then (nI 0) else ((nI 1) <<< (c &&& 31))) (ls : Array Slot), lv_has ls 5 [(0, .ref (lo (0))), (1, .int (t)), (2, .int (a)), (3, .int (b)), (4, .int (c))] → x_w l 4 pp ee ss mm av bb mt cd vv 103 ls [.int (y41_s0), .int (((nI 1) <<< (a &&& 31)) ||| y40_s0)] := by
                      intro y41_s0 ey41_s0 ls hl
                      have dy41_s0 : (c = (-1) ∧ (y41_s0 = (nI 0))) ∨ (¬ (c = (-1)) ∧ (y41_s0 = ((nI 1) <<< (c &&& 31)))) := by rw [ey41_s0]; repeat' (first | (exact rfl) | (split <;> first | (refine Or.inl ⟨by assumption, ?_⟩) | (refine Or.inr ⟨by assumption, ?_⟩)))
                      refine lv_ior hx hb dX11_inTurn_103 ?_
                      exact x_iret cx hr hlk dX11_inTurn_104 ((congrArg (fun z => some (Value.int z)) (show (((nI 1) <<< (a &&& 31)) ||| y40_s0) ||| y41_s0 = m_turn S t a b c from by first | contradiction | skip; unfold m_turn; rw [if_pos (by rw [hti, ht3, nI_clamp (by omega), hst]; rfl), s_own, ← nI_or, ← nI_or, ← (sh_a k2 g1).1, ← sh_b k2 g2, ← sh_b k2 g3]; simp [*])).trans hvv)
                    refine lv_icmp_ne (tgt := 99) hx hb dX11_inTurn_92 (by decide) (fun h92_42 => ?_) (fun h92_42 => ?_)
                    · skip
                      refine lv_iconst (v := nI 1) hx hb dX11_inTurn_99 rfl ?_
                      refine lv_iload hx hb dX11_inTurn_100 (lv_at hl 4 rfl) ?_
                      refine lv_ishl hx hb dX11_inTurn_102 ?_
                      exact J103_41 ((nI 1) <<< (c &&& 31)) (by rw [if_neg h92_42]) _ (lv_sub hl [0, 1, 2, 3, 4] rfl)
                    · skip
                      refine lv_iconst (v := nI 0) hx hb dX11_inTurn_95 rfl ?_
                      refine lv_goto (tgt := 103) hx hb dX11_inTurn_96 (by decide) ?_
                      exact J103_41 (nI 0) (by rw [if_pos h92_42]) _ (lv_sub hl [0, 1, 2, 3, 4] rfl)
                  refine lv_icmp_ne (tgt := 85) hx hb dX11_inTurn_78 (by decide) (fun h78_43 => ?_) (fun h78_43 => ?_)
                  · skip
                    refine lv_iconst (v := nI 1) hx hb dX11_inTurn_85 rfl ?_
                    refine lv_iload_n hx hb dX11_inTurn_86 rfl (lv_at hl 3 rfl) ?_
                    refine lv_ishl hx hb dX11_inTurn_87 ?_
                    exact J88_40 ((nI 1) <<< (b &&& 31)) (by rw [if_neg h78_43]) _ (lv_sub hl [0, 1, 2, 3, 4] rfl)
                  · skip
                    refine lv_iconst (v := nI 0) hx hb dX11_inTurn_81 rfl ?_
                    refine lv_goto (tgt := 88) hx hb dX11_inTurn_82 (by decide) ?_
                    exact J88_40 (nI 0) (by rw [if_pos h78_43]) _ (lv_sub hl [0, 1, 2, 3, 4] rfl)
                · skip
                  refine lv_iconst (v := (-1)) hx hb dX11_inTurn_71 rfl ?_
                  exact x_iret cx hr hlk dX11_inTurn_72 ((congrArg (fun z => some (Value.int z)) (show (-1) = m_turn S t a b c from by first | contradiction | (unfold m_turn; rw [if_neg (by rw [hti, ht3, nI_clamp (by omega), turn_m]; simp [*]; done)]))).trans hvv)
        · skip
          refine lv_aload_n hx hb dX11_inTurn_27 rfl (lv_at hl 0 rfl) ?_
          refine lv_iload_n hx hb dX11_inTurn_28 rfl (lv_at hl 1 rfl) ?_
          refine lv_iload_n hx hb dX11_inTurn_29 rfl (lv_at hl 3 rfl) ?_
          refine x_rdV (av := [.int (t), .int (b)]) (rest := []) cx hk hw (hm.1) cv_RX11_113_10 (m_isCol S m hm hS t b) hl.1 rfl rfl (Nat.le_of_ble_eq_true rfl) ⟨by decide, by decide⟩ ⟨Nat.zero_le _, Nat.zero_le _⟩ dX11_inTurn_30 ?_
          rw [show m_isC S t b = t_has (sT S t1) b from by rw [m_isC, hti, ht3, nI_clamp (by omega), Bool.true_and]]
          refine x_if_eq (tgt := 41) cx dX11_inTurn_33 (by decide) (fun h33_44 => ?_) (fun h33_44 => ?_)
          · skip
            refine lv_iconst (v := (-1)) hx hb dX11_inTurn_41 rfl ?_
            exact x_iret cx hr hlk dX11_inTurn_42 ((congrArg (fun z => some (Value.int z)) (show (-1) = m_turn S t a b c from by first | contradiction | (unfold m_turn; rw [if_neg (by rw [hti, ht3, nI_clamp (by omega), turn_m]; simp [*]; done)]))).trans hvv)
          · skip
            refine lv_iload_n hx hb dX11_inTurn_36 rfl (lv_at hl 3 rfl) ?_
            refine lv_iload_n hx hb dX11_inTurn_37 rfl (lv_at hl 2 rfl) ?_
            refine lv_icmp_ne (tgt := 43) hx hb dX11_inTurn_38 (by decide) (fun h38_45 => ?_) (fun h38_45 => ?_)
            · skip
              refine lv_iload hx hb dX11_inTurn_43 (lv_at hl 4 rfl) ?_
              refine lv_iconst (v := (-1)) hx hb dX11_inTurn_45 rfl ?_
              refine lv_icmp_eq (tgt := 73) hx hb dX11_inTurn_46 (by decide) (fun h46_46 => ?_) (fun h46_46 => ?_)
              · skip
                have hst : s_turn (sT S t1) a b c = true := by first | contradiction | (rw [turn_m]; simp [*]; done)
                obtain ⟨g1, g2, g3⟩ := turn_hon hst
                refine lv_iconst (v := nI 1) hx hb dX11_inTurn_73 rfl ?_
                refine lv_iload_n hx hb dX11_inTurn_74 rfl (lv_at hl 2 rfl) ?_
                refine lv_ishl hx hb dX11_inTurn_75 ?_
                refine lv_iload_n hx hb dX11_inTurn_76 rfl (lv_at hl 3 rfl) ?_
                refine lv_iconst (v := (-1)) hx hb dX11_inTurn_77 rfl ?_
                have J88_47 : ∀ (y47_s0 : Int32) (ey47_s0 : y47_s0 = if b = (-1) then (nI 0) else ((nI 1) <<< (b &&& 31))) (ls : Array Slot), lv_has ls 5 [(0, .ref (lo (0))), (1, .int (t)), (2, .int (a)), (3, .int (b)), (4, .int (c))] → x_w l 4 pp ee ss mm av bb mt cd vv 88 ls [.int (y47_s0), .int ((nI 1) <<< (a &&& 31))] := by
                  intro y47_s0 ey47_s0 ls hl
                  have dy47_s0 : (b = (-1) ∧ (y47_s0 = (nI 0))) ∨ (¬ (b = (-1)) ∧ (y47_s0 = ((nI 1) <<< (b &&& 31)))) := by rw [ey47_s0]; repeat' (first | (exact rfl) | (split <;> first | (refine Or.inl ⟨by assumption, ?_⟩) | (refine Or.inr ⟨by assumption, ?_⟩)))
                  refine lv_ior hx hb dX11_inTurn_88 ?_
                  refine lv_iload hx hb dX11_inTurn_89 (lv_at hl 4 rfl) ?_
                  refine lv_iconst (v := (-1)) hx hb dX11_inTurn_91 rfl ?_
                  have J103_48 : ∀ (y48_s0 : Int32) (ey48_s0 : y48_s0 = if c = (-1) then (nI 0) else ((nI 1) <<< (c &&& 31))) (ls : Array Slot), lv_has ls 5 [(0, .ref (lo (0))), (1, .int (t)), (2, .int (a)), (3, .int (b)), (4, .int (c))] → x_w l 4 pp ee ss mm av bb mt cd vv 103 ls [.int (y48_s0), .int (((nI 1) <<< (a &&& 31)) ||| y47_s0)] := by
                    intro y48_s0 ey48_s0 ls hl
                    have dy48_s0 : (c = (-1) ∧ (y48_s0 = (nI 0))) ∨ (¬ (c = (-1)) ∧ (y48_s0 = ((nI 1) <<< (c &&& 31)))) := by rw [ey48_s0]; repeat' (first | (exact rfl) | (split <;> first | (refine Or.inl ⟨by assumption, ?_⟩) | (refine Or.inr ⟨by assumption, ?_⟩)))
                    refine lv_ior hx hb dX11_inTurn_103 ?_
                    exact x_iret cx hr hlk dX11_inTurn_104 ((congrArg (fun z => some (Value.int z)) (show (((nI 1) <<< (a &&& 31)) ||| y47_s0) ||| y48_s0 = m_turn S t a b c from by first | contradiction | skip; unfold m_turn; rw [if_pos (by rw [hti, ht3, nI_clamp (by omega), hst]; rfl), s_own, ← nI_or, ← nI_or, ← (sh_a k2 g1).1, ← sh_b k2 g2, ← sh_b k2 g3]; simp [*])).trans hvv)
                  refine lv_icmp_ne (tgt := 99) hx hb dX11_inTurn_92 (by decide) (fun h92_49 => ?_) (fun h92_49 => ?_)
                  · skip
                    refine lv_iconst (v := nI 1) hx hb dX11_inTurn_99 rfl ?_
                    refine lv_iload hx hb dX11_inTurn_100 (lv_at hl 4 rfl) ?_
                    refine lv_ishl hx hb dX11_inTurn_102 ?_
                    exact J103_48 ((nI 1) <<< (c &&& 31)) (by rw [if_neg h92_49]) _ (lv_sub hl [0, 1, 2, 3, 4] rfl)
                  · skip
                    refine lv_iconst (v := nI 0) hx hb dX11_inTurn_95 rfl ?_
                    refine lv_goto (tgt := 103) hx hb dX11_inTurn_96 (by decide) ?_
                    exact J103_48 (nI 0) (by rw [if_pos h92_49]) _ (lv_sub hl [0, 1, 2, 3, 4] rfl)
                refine lv_icmp_ne (tgt := 85) hx hb dX11_inTurn_78 (by decide) (fun h78_50 => ?_) (fun h78_50 => ?_)
                · skip
                  refine lv_iconst (v := nI 1) hx hb dX11_inTurn_85 rfl ?_
                  refine lv_iload_n hx hb dX11_inTurn_86 rfl (lv_at hl 3 rfl) ?_
                  refine lv_ishl hx hb dX11_inTurn_87 ?_
                  exact J88_47 ((nI 1) <<< (b &&& 31)) (by rw [if_neg h78_50]) _ (lv_sub hl [0, 1, 2, 3, 4] rfl)
                · skip
                  refine lv_iconst (v := nI 0) hx hb dX11_inTurn_81 rfl ?_
                  refine lv_goto (tgt := 88) hx hb dX11_inTurn_82 (by decide) ?_
                  exact J88_47 (nI 0) (by rw [if_pos h78_50]) _ (lv_sub hl [0, 1, 2, 3, 4] rfl)
              · skip
                refine lv_aload_n hx hb dX11_inTurn_49 rfl (lv_at hl 0 rfl) ?_
                refine lv_iload_n hx hb dX11_inTurn_50 rfl (lv_at hl 1 rfl) ?_
                refine lv_iload hx hb dX11_inTurn_51 (lv_at hl 4 rfl) ?_
                refine x_rdV (av := [.int (t), .int (c)]) (rest := []) cx hk hw (hm.1) cv_RX11_113_10 (m_isCol S m hm hS t c) hl.1 rfl rfl (Nat.le_of_ble_eq_true rfl) ⟨by decide, by decide⟩ ⟨Nat.zero_le _, Nat.zero_le _⟩ dX11_inTurn_53 ?_
                rw [show m_isC S t c = t_has (sT S t1) c from by rw [m_isC, hti, ht3, nI_clamp (by omega), Bool.true_and]]
                refine x_if_eq (tgt := 71) cx dX11_inTurn_56 (by decide) (fun h56_51 => ?_) (fun h56_51 => ?_)
                · skip
                  refine lv_iconst (v := (-1)) hx hb dX11_inTurn_71 rfl ?_
                  exact x_iret cx hr hlk dX11_inTurn_72 ((congrArg (fun z => some (Value.int z)) (show (-1) = m_turn S t a b c from by first | contradiction | (unfold m_turn; rw [if_neg (by rw [hti, ht3, nI_clamp (by omega), turn_m]; simp [*]; done)]))).trans hvv)
                · skip
                  refine lv_iload hx hb dX11_inTurn_59 (lv_at hl 4 rfl) ?_
                  refine lv_iload_n hx hb dX11_inTurn_61 rfl (lv_at hl 2 rfl) ?_
                  refine lv_icmp_eq (tgt := 71) hx hb dX11_inTurn_62 (by decide) (fun h62_52 => ?_) (fun h62_52 => ?_)
                  · skip
                    refine lv_iconst (v := (-1)) hx hb dX11_inTurn_71 rfl ?_
                    exact x_iret cx hr hlk dX11_inTurn_72 ((congrArg (fun z => some (Value.int z)) (show (-1) = m_turn S t a b c from by first | contradiction | (unfold m_turn; rw [if_neg (by rw [hti, ht3, nI_clamp (by omega), turn_m]; simp [*]; done)]))).trans hvv)
                  · skip
                    refine lv_iload hx hb dX11_inTurn_65 (lv_at hl 4 rfl) ?_
                    refine lv_iload_n hx hb dX11_inTurn_67 rfl (lv_at hl 3 rfl) ?_
                    refine lv_icmp_ne (tgt := 73) hx hb dX11_inTurn_68 (by decide) (fun h68_53 => ?_) (fun h68_53 => ?_)
                    · skip
                      have hst : s_turn (sT S t1) a b c = true := by first | contradiction | (rw [turn_m]; simp [*]; done)
                      obtain ⟨g1, g2, g3⟩ := turn_hon hst
                      refine lv_iconst (v := nI 1) hx hb dX11_inTurn_73 rfl ?_
                      refine lv_iload_n hx hb dX11_inTurn_74 rfl (lv_at hl 2 rfl) ?_
                      refine lv_ishl hx hb dX11_inTurn_75 ?_
                      refine lv_iload_n hx hb dX11_inTurn_76 rfl (lv_at hl 3 rfl) ?_
                      refine lv_iconst (v := (-1)) hx hb dX11_inTurn_77 rfl ?_
                      have J88_54 : ∀ (y54_s0 : Int32) (ey54_s0 : y54_s0 = if b = (-1) then (nI 0) else ((nI 1) <<< (b &&& 31))) (ls : Array Slot), lv_has ls 5 [(0, .ref (lo (0))), (1, .int (t)), (2, .int (a)), (3, .int (b)), (4, .int (c))] → x_w l 4 pp ee ss mm av bb mt cd vv 88 ls [.int (y54_s0), .int ((nI 1) <<< (a &&& 31))] := by
                        intro y54_s0 ey54_s0 ls hl
                        have dy54_s0 : (b = (-1) ∧ (y54_s0 = (nI 0))) ∨ (¬ (b = (-1)) ∧ (y54_s0 = ((nI 1) <<< (b &&& 31)))) := by rw [ey54_s0]; repeat' (first | (exact rfl) | (split <;> first | (refine Or.inl ⟨by assumption, ?_⟩) | (refine Or.inr ⟨by assumption, ?_⟩)))
                        refine lv_ior hx hb dX11_inTurn_88 ?_
                        refine lv_iload hx hb dX11_inTurn_89 (lv_at hl 4 rfl) ?_
                        refine lv_iconst (v := (-1)) hx hb dX11_inTurn_91 rfl ?_
                        have J103_55 : ∀ (y55_s0 : Int32) (ey55_s0 : y55_s0 = if c = (-1) then (nI 0) else ((nI 1) <<< (c &&& 31))) (ls : Array Slot), lv_has ls 5 [(0, .ref (lo (0))), (1, .int (t)), (2, .int (a)), (3, .int (b)), (4, .int (c))] → x_w l 4 pp ee ss mm av bb mt cd vv 103 ls [.int (y55_s0), .int (((nI 1) <<< (a &&& 31)) ||| y54_s0)] := by
                          intro y55_s0 ey55_s0 ls hl
                          have dy55_s0 : (c = (-1) ∧ (y55_s0 = (nI 0))) ∨ (¬ (c = (-1)) ∧ (y55_s0 = ((nI 1) <<< (c &&& 31)))) := by rw [ey55_s0]; repeat' (first | (exact rfl) | (split <;> first | (refine Or.inl ⟨by assumption, ?_⟩) | (refine Or.inr ⟨by assumption, ?_⟩)))
                          refine lv_ior hx hb dX11_inTurn_103 ?_
                          exact x_iret cx hr hlk dX11_inTurn_104 ((congrArg (fun z => some (Value.int z)) (show (((nI 1) <<< (a &&& 31)) ||| y54_s0) ||| y55_s0 = m_turn S t a b c from by first | contradiction | skip; unfold m_turn; rw [if_pos (by rw [hti, ht3, nI_clamp (by omega), hst]; rfl), s_own, ← nI_or, ← nI_or, ← (sh_a k2 g1).1, ← sh_b k2 g2, ← sh_b k2 g3]; simp [*])).trans hvv)
                        refine lv_icmp_ne (tgt := 99) hx hb dX11_inTurn_92 (by decide) (fun h92_56 => ?_) (fun h92_56 => ?_)
                        · skip
                          refine lv_iconst (v := nI 1) hx hb dX11_inTurn_99 rfl ?_
                          refine lv_iload hx hb dX11_inTurn_100 (lv_at hl 4 rfl) ?_
                          refine lv_ishl hx hb dX11_inTurn_102 ?_
                          exact J103_55 ((nI 1) <<< (c &&& 31)) (by rw [if_neg h92_56]) _ (lv_sub hl [0, 1, 2, 3, 4] rfl)
                        · skip
                          refine lv_iconst (v := nI 0) hx hb dX11_inTurn_95 rfl ?_
                          refine lv_goto (tgt := 103) hx hb dX11_inTurn_96 (by decide) ?_
                          exact J103_55 (nI 0) (by rw [if_pos h92_56]) _ (lv_sub hl [0, 1, 2, 3, 4] rfl)
                      refine lv_icmp_ne (tgt := 85) hx hb dX11_inTurn_78 (by decide) (fun h78_57 => ?_) (fun h78_57 => ?_)
                      · skip
                        refine lv_iconst (v := nI 1) hx hb dX11_inTurn_85 rfl ?_
                        refine lv_iload_n hx hb dX11_inTurn_86 rfl (lv_at hl 3 rfl) ?_
                        refine lv_ishl hx hb dX11_inTurn_87 ?_
                        exact J88_54 ((nI 1) <<< (b &&& 31)) (by rw [if_neg h78_57]) _ (lv_sub hl [0, 1, 2, 3, 4] rfl)
                      · skip
                        refine lv_iconst (v := nI 0) hx hb dX11_inTurn_81 rfl ?_
                        refine lv_goto (tgt := 88) hx hb dX11_inTurn_82 (by decide) ?_
                        exact J88_54 (nI 0) (by rw [if_pos h78_57]) _ (lv_sub hl [0, 1, 2, 3, 4] rfl)
                    · skip
                      refine lv_iconst (v := (-1)) hx hb dX11_inTurn_71 rfl ?_
                      exact x_iret cx hr hlk dX11_inTurn_72 ((congrArg (fun z => some (Value.int z)) (show (-1) = m_turn S t a b c from by first | contradiction | (unfold m_turn; rw [if_neg (by rw [hti, ht3, nI_clamp (by omega), turn_m]; simp [*]; done)]))).trans hvv)
            · skip
              refine lv_iconst (v := (-1)) hx hb dX11_inTurn_41 rfl ?_
              exact x_iret cx hr hlk dX11_inTurn_42 ((congrArg (fun z => some (Value.int z)) (show (-1) = m_turn S t a b c from by first | contradiction | (unfold m_turn; rw [if_neg (by rw [hti, ht3, nI_clamp (by omega), turn_m]; simp [*]; done)]))).trans hvv)
      · skip
        refine lv_iconst (v := (-1)) hx hb dX11_inTurn_20 rfl ?_
        exact x_iret cx hr hlk dX11_inTurn_21 ((congrArg (fun z => some (Value.int z)) (show (-1) = m_turn S t a b c from by first | (unfold m_turn; rw [mt_no (by assumption)]; rfl) | (unfold m_turn; rw [if_neg (by rw [hti, ht3, nI_clamp (by omega), turn_m]; simp [*]; done)]))).trans hvv)
set_option maxHeartbeats 4000000 in
set_option maxRecDepth 100000 in
theorem w_aid {l : Launch} {G : x_G} {lo : x_L} (S : St) (m : Nat → Nat → Int32) (hS : Sok S) (hM : Mok S m) (hZ : Szz S) (t k : Nat) (a b c : Int32) (hna : sn S 1 < 12) (ht_ : t < 4) : x_Wr l G lo (mco G lo (nS S) (mS S m)) yX11_aid cX11_aid 6 (some .int) 1 0 0 [.ref (lo (0)), .int (nI t), .int (nI k), .int (a), .int (b), .int (c)] (fun (v : Option Value) (lo_ : x_L) (co_ : x_C) => v = some (Value.int (nI (sn S 1))) ∧ lo_ = lo ∧ co_ = mco G lo (nS (addA S (t, A00 k (s_many b c)))) (mS (addA S (t, A00 k (s_many b c))) (mA m (sn S 1) a b c))) := by
  refine x_wenter RX11 rfl (by decide) (Nat.le_of_ble_eq_true rfl) ?_
  intro pp ee ss mm bb mt cd ls AA cx hk hW hA hr hlk hnm hl
  have hl : lv_has ls 6 [(0, .ref (lo (0))), (1, .int (nI t)), (2, .int (nI k)), (3, .int (a)), (4, .int (b)), (5, .int (c))] := hl
  generalize hav : ([.ref (lo (0)), .int (nI t), .int (nI k), .int (a), .int (b), .int (c)] : List Value).toArray = av at cx ⊢
  generalize hpo : (fun (v : Option Value) (lo_ : x_L) (co_ : x_C) => v = some (Value.int (nI (sn S 1))) ∧ lo_ = lo ∧ co_ = mco G lo (nS (addA S (t, A00 k (s_many b c)))) (mS (addA S (t, A00 k (s_many b c))) (mA m (sn S 1) a b c))) = po
  have hx := cx.1
  have hb := cx.2.1
  have hown := cx.2.2.2.1
  have hts := cx.2.2.2.2
  have hw := hW.1
  obtain ⟨s1, s2, s3, s4, s5, s6⟩ := id hS
  refine lv_aload_n hx hb dX11_aid_0 rfl (lv_at hl 0 rfl) ?_
  refine x_get cx hk hw (rfl) f_RX11_59_10 rfl dX11_aid_1 ?_
  refine lv_aload_n hx hb dX11_aid_4 rfl (lv_at hl 0 rfl) ?_
  refine x_get cx hk hw (rfl) f_RX11_123_10 rfl dX11_aid_5 ?_
  refine lv_iload_n hx hb dX11_aid_8 rfl (lv_at hl 2 rfl) ?_
  refine y_ist 20 12 (by decide) cx hk hW (by omega) dX11_aid_9 (fun H locs hW => ?_)
  have hw := hW.1
  refine lv_aload_n hx hb dX11_aid_10 rfl (lv_at hl 0 rfl) ?_
  refine x_get cx hk hw (rfl) f_RX11_62_10 rfl dX11_aid_11 ?_
  refine lv_aload_n hx hb dX11_aid_14 rfl (lv_at hl 0 rfl) ?_
  refine x_get cx hk hw (rfl) f_RX11_123_10 rfl dX11_aid_15 ?_
  refine lv_iload_n hx hb dX11_aid_18 rfl (lv_at hl 1 rfl) ?_
  refine y_ist 21 12 (by decide) cx hk hW (by omega) dX11_aid_19 (fun H locs hW => ?_)
  have hw := hW.1
  refine lv_aload_n hx hb dX11_aid_20 rfl (lv_at hl 0 rfl) ?_
  refine x_get cx hk hw (rfl) f_RX11_68_10 rfl dX11_aid_21 ?_
  refine lv_iconst (v := nI 3) hx hb dX11_aid_24 rfl ?_
  refine lv_aload_n hx hb dX11_aid_25 rfl (lv_at hl 0 rfl) ?_
  refine x_get cx hk hw (rfl) f_RX11_123_10 rfl dX11_aid_26 ?_
  refine x_imulN cx dX11_aid_29 ?_
  refine lv_iload_n hx hb dX11_aid_30 rfl (lv_at hl 3 rfl) ?_
  refine y_ist 23 36 (by decide) cx hk hW (by omega) dX11_aid_31 (fun H locs hW => ?_)
  have hw := hW.1
  refine lv_aload_n hx hb dX11_aid_32 rfl (lv_at hl 0 rfl) ?_
  refine x_get cx hk hw (rfl) f_RX11_68_10 rfl dX11_aid_33 ?_
  refine lv_iconst (v := nI 3) hx hb dX11_aid_36 rfl ?_
  refine lv_aload_n hx hb dX11_aid_37 rfl (lv_at hl 0 rfl) ?_
  refine x_get cx hk hw (rfl) f_RX11_123_10 rfl dX11_aid_38 ?_
  refine x_imulN cx dX11_aid_41 ?_
  refine lv_iconst (v := nI 1) hx hb dX11_aid_42 rfl ?_
  refine x_iaddN cx dX11_aid_43 ?_
  refine lv_iload hx hb dX11_aid_44 (lv_at hl 4 rfl) ?_
  refine y_ist 23 36 (by decide) cx hk hW (by omega) dX11_aid_46 (fun H locs hW => ?_)
  have hw := hW.1
  refine lv_aload_n hx hb dX11_aid_47 rfl (lv_at hl 0 rfl) ?_
  refine x_get cx hk hw (rfl) f_RX11_68_10 rfl dX11_aid_48 ?_
  refine lv_iconst (v := nI 3) hx hb dX11_aid_51 rfl ?_
  refine lv_aload_n hx hb dX11_aid_52 rfl (lv_at hl 0 rfl) ?_
  refine x_get cx hk hw (rfl) f_RX11_123_10 rfl dX11_aid_53 ?_
  refine x_imulN cx dX11_aid_56 ?_
  refine lv_iconst (v := nI 2) hx hb dX11_aid_57 rfl ?_
  refine x_iaddN cx dX11_aid_58 ?_
  refine lv_iload hx hb dX11_aid_59 (lv_at hl 5 rfl) ?_
  refine y_ist 23 36 (by decide) cx hk hW (by omega) dX11_aid_61 (fun H locs hW => ?_)
  have hw := hW.1
  refine lv_aload_n hx hb dX11_aid_62 rfl (lv_at hl 0 rfl) ?_
  refine x_get cx hk hw (rfl) f_RX11_65_10 rfl dX11_aid_63 ?_
  refine lv_aload_n hx hb dX11_aid_66 rfl (lv_at hl 0 rfl) ?_
  refine x_get cx hk hw (rfl) f_RX11_123_10 rfl dX11_aid_67 ?_
  refine lv_iload hx hb dX11_aid_70 (lv_at hl 4 rfl) ?_
  refine lv_iconst (v := (-1)) hx hb dX11_aid_72 rfl ?_
  have J91_1 : ∀ (y1_s0 : Nat) (ey1_s0 : y1_s0 = if b = (-1) then 1 else (if c = (-1) then 2 else 3)) (ls : Array Slot), lv_has ls 6 [(0, .ref (lo (0))), (1, .int (nI t)), (2, .int (nI k)), (3, .int (a)), (4, .int (b)), (5, .int (c))] → x_ww l 1 0 0 pp ee ss mm av bb mt cd G po AA H locs 0 0 91 ls [.int (nI y1_s0), .int (nI (sn S 1)), .ref (lo (22))] := by
    intro y1_s0 ey1_s0 ls hl
    have dy1_s0 : (b = (-1) ∧ (y1_s0 = 1)) ∨ (¬ (b = (-1)) ∧ ((c = (-1) ∧ (y1_s0 = 2)) ∨ (¬ (c = (-1)) ∧ (y1_s0 = 3)))) := by rw [ey1_s0]; repeat' (first | (exact rfl) | (split <;> first | (refine Or.inl ⟨by assumption, ?_⟩) | (refine Or.inr ⟨by assumption, ?_⟩)))
    refine y_ist 22 12 (by decide) cx hk hW (by omega) dX11_aid_91 (fun H locs hW => ?_)
    have hw := hW.1
    refine lv_aload_n hx hb dX11_aid_92 rfl (lv_at hl 0 rfl) ?_
    refine x_get cx hk hw (rfl) f_RX11_71_10 rfl dX11_aid_93 ?_
    refine lv_aload_n hx hb dX11_aid_96 rfl (lv_at hl 0 rfl) ?_
    refine x_get cx hk hw (rfl) f_RX11_123_10 rfl dX11_aid_97 ?_
    refine lv_iconst (v := nI 0) hx hb dX11_aid_100 rfl ?_
    refine y_ist 24 12 (by decide) cx hk hW (by omega) dX11_aid_101 (fun H locs hW => ?_)
    have hw := hW.1
    refine lv_aload_n hx hb dX11_aid_102 rfl (lv_at hl 0 rfl) ?_
    refine x_get cx hk hw (rfl) f_RX11_74_10 rfl dX11_aid_103 ?_
    refine lv_aload_n hx hb dX11_aid_106 rfl (lv_at hl 0 rfl) ?_
    refine x_get cx hk hw (rfl) f_RX11_123_10 rfl dX11_aid_107 ?_
    refine lv_iconst (v := (-1)) hx hb dX11_aid_110 rfl ?_
    refine y_ist 25 12 (by decide) cx hk hW (by omega) dX11_aid_111 (fun H locs hW => ?_)
    have hw := hW.1
    refine lv_aload_n hx hb dX11_aid_112 rfl (lv_at hl 0 rfl) ?_
    refine lv_dup hx hb dX11_aid_113 rfl ?_
    refine x_get cx hk hw (rfl) f_RX11_123_10 rfl dX11_aid_114 ?_
    refine lv_iconst (v := nI 1) hx hb dX11_aid_117 rfl ?_
    refine x_iaddN cx dX11_aid_118 ?_
    refine y_pt 1 rfl (by decide) cx hk hW p_RX11_123_10 dX11_aid_119 (fun H locs hW => ?_)
    have hw := hW.1
    refine lv_aload_n hx hb dX11_aid_122 rfl (lv_at hl 0 rfl) ?_
    refine x_get cx hk hw (rfl) f_RX11_123_10 rfl dX11_aid_123 ?_
    refine lv_iconst (v := nI 1) hx hb dX11_aid_126 rfl ?_
    refine x_isubN cx (by omega) dX11_aid_127 ?_
    exact y_iret cx hW hr hlk ⟨by decide, by decide⟩ dX11_aid_128 (by rw [← hpo]; refine ⟨rfl, rfl, ?_⟩; rw [← waid hZ]; exact mco_ext rfl (tags_all (by rfl) (by rfl) (by rfl) (by rfl) (by rfl) (by rfl) (by rfl) (by rfl) (by rfl) (by rfl) (by rfl) (by rfl) (by rfl) (by rfl) (by rfl) (by rfl) (by rfl) (by rfl) (by show upd _ _ _ = upd _ _ _; simp only [*]; rfl) (by rfl) (by rfl) (by rfl) (by rfl) (by rfl) (by rfl) (by rfl)))
  refine lv_icmp_ne (tgt := 80) hx hb dX11_aid_73 (by decide) (fun h73_2 => ?_) (fun h73_2 => ?_)
  · skip
    refine lv_iload hx hb dX11_aid_80 (lv_at hl 5 rfl) ?_
    refine lv_iconst (v := (-1)) hx hb dX11_aid_82 rfl ?_
    refine lv_icmp_ne (tgt := 90) hx hb dX11_aid_83 (by decide) (fun h83_3 => ?_) (fun h83_3 => ?_)
    · skip
      refine lv_iconst (v := nI 3) hx hb dX11_aid_90 rfl ?_
      exact J91_1 3 (by rw [if_neg h73_2, if_neg h83_3]) _ (lv_sub hl [0, 1, 2, 3, 4, 5] rfl)
    · skip
      refine lv_iconst (v := nI 2) hx hb dX11_aid_86 rfl ?_
      refine lv_goto (tgt := 91) hx hb dX11_aid_87 (by decide) ?_
      exact J91_1 2 (by rw [if_neg h73_2, if_pos h83_3]) _ (lv_sub hl [0, 1, 2, 3, 4, 5] rfl)
  · skip
    refine lv_iconst (v := nI 1) hx hb dX11_aid_76 rfl ?_
    refine lv_goto (tgt := 91) hx hb dX11_aid_77 (by decide) ?_
    exact J91_1 1 (by rw [if_pos h73_2]) _ (lv_sub hl [0, 1, 2, 3, 4, 5] rfl)
