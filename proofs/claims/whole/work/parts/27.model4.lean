set_option maxHeartbeats 4000000 in
set_option maxRecDepth 100000 in
theorem m_run_ {l : Launch} {G : x_G} {lo : x_L} {co : x_C} (S : St) (m : Nat → Nat → Int32) (hm : isM G lo co S m) (hS : Sok S) (hM : Mok S m) (q w : Int32) : x_Rd l G lo co yX11_run cX11_run 7 (some .int) 9 [.ref (lo (0)), .int (q), .int (w)] (some (.int (P_run S q w))) := by
  refine x_enter RX11 rfl (by decide) (Nat.le_of_ble_eq_true rfl) ?_
  intro pp ee ss mm bb mt cd ls cx hk hw hr hlk hl
  have hl : lv_has ls 7 [(0, .ref (lo (0))), (1, .int (q)), (2, .int (w))] := hl
  generalize hav : ([.ref (lo (0)), .int (q), .int (w)] : List Value).toArray = av at cx ⊢
  generalize hvv : (some (.int (P_run S q w)) : Option Value) = vv
  have hx := cx.1
  have hb := cx.2.1
  have hown := cx.2.2.2.1
  have hts := cx.2.2.2.2
  obtain ⟨s1, s2, s3, s4, s5, s6⟩ := id hS
  refine lv_aload_n hx hb dX11_run_0 rfl (lv_at hl 0 rfl) ?_
  refine lv_iload_n hx hb dX11_run_1 rfl (lv_at hl 1 rfl) ?_
  refine x_rdV (av := [.int (q)]) (rest := []) cx hk hw (hm.1) cv_RX11_120_10 (m_isQ S m hm hS q) hl.1 rfl rfl (Nat.le_of_ble_eq_true rfl) ⟨by decide, by decide⟩ ⟨Nat.zero_le _, Nat.zero_le _⟩ dX11_run_2 ?_
  refine x_if_ne (tgt := 10) cx dX11_run_5 (by decide) (fun h5_1 => ?_) (fun h5_1 => ?_)
  · skip
    obtain ⟨q1, hq1, hq3⟩ := x_in_ex (n := sn S 0) (q := q) (by omega) (by assumption)
    rw [hq3] at hl
    obtain ⟨v1, v2, hQ⟩ := s5 q1 hq1
    have hTq := (s1 _ v1).1 v2
    obtain ⟨k1, k2, k3, k4, k5, k6, k7, k8, k9, k0⟩ := id hTq
    obtain ⟨j1, j2, j3, j4, j5, j6⟩ := id hQ
    have hb12 := Sok.b12 hS
    have hwo := m_pl_ok (S := S) q1 (sn S 2)
    refine lv_aload_n hx hb dX11_run_10 rfl (lv_at hl 0 rfl) ?_
    refine x_get cx hk hw (hm.1) f_RX11_37_10 rfl dX11_run_11 ?_
    refine lv_iload_n hx hb dX11_run_14 rfl (lv_at hl 1 rfl) ?_
    refine x_ialdN cx hk hw (hm.2 11 _ rfl) (by omega) (by decide) dX11_run_15 ?_
    refine lv_istore_n (lv' := [(3, .int (nI (qt S q1))), (0, .ref (lo (0))), (1, .int (nI q1)), (2, .int (w))]) hx hb dX11_run_16 rfl hl (by decide) rfl (fun ls hl => ?_)
    refine lv_iconst (v := nI 0) hx hb dX11_run_17 rfl ?_
    refine lv_istore (lv' := [(4, .int (nI 0)), (3, .int (nI (qt S q1))), (0, .ref (lo (0))), (1, .int (nI q1)), (2, .int (w))]) hx hb dX11_run_18 hl (by decide) rfl (fun ls hl => ?_)
    refine lv_iconst (v := nI 0) hx hb dX11_run_20 rfl ?_
    refine lv_istore (lv' := [(5, .int (nI 0)), (4, .int (nI 0)), (3, .int (nI (qt S q1))), (0, .ref (lo (0))), (1, .int (nI q1)), (2, .int (w))]) hx hb dX11_run_21 hl (by decide) rfl (fun ls hl => ?_)
    refine lv_iconst (v := nI 0) hx hb dX11_run_23 rfl ?_
    refine lv_istore (lv' := [(6, .int (nI 0)), (5, .int (nI 0)), (4, .int (nI 0)), (3, .int (nI (qt S q1))), (0, .ref (lo (0))), (1, .int (nI q1)), (2, .int (w))]) hx hb dX11_run_24 hl (by decide) rfl (fun ls hl => ?_)
    have L26_2 : ∀ (n_ : Nat) (f : Nat) (g : Nat) (k : Nat), (k ≤ (sT S (qt S q1)).1 3) → (f = cntN k (fun r => q_passes (sT S (qt S q1)) (qQ S q1) r)) → (g = sumN k (fun r => if (qQ S q1).1 3 ≠ 0 ∧ q_passes (sT S (qt S q1)) (qQ S q1) r = true then t_v (sT S (qt S q1)) r ((qQ S q1).1 3 - 1) else 0)) → (sT S (qt S q1)).1 3 - k < n_ → ∀ (ls : Array Slot), lv_has ls 7 [(6, .int (nI k)), (5, .int (nI g)), (4, .int (nI f)), (3, .int (nI (qt S q1))), (0, .ref (lo (0))), (1, .int (nI q1)), (2, .int (w))] → x_w l 9 pp ee ss mm av bb mt cd vv 26 ls [] := by
      intro n_
      induction n_ with
      | zero => intro f g k hv hf hg hm_ ls hl; exact absurd hm_ (Nat.not_lt_zero _)
      | succ n_ ih26_2 =>
        intro f g k hv hf hg hm_ ls hl
        refine lv_iload hx hb dX11_run_26 (lv_at hl 0 rfl) ?_
        refine lv_aload_n hx hb dX11_run_28 rfl (lv_at hl 4 rfl) ?_
        refine x_get cx hk hw (hm.1) f_RX11_16_10 rfl dX11_run_29 ?_
        refine lv_iload_n hx hb dX11_run_32 rfl (lv_at hl 3 rfl) ?_
        refine x_ialdN cx hk hw (hm.2 3 _ rfl) (by omega) (by decide) dX11_run_33 ?_
        refine x_icmp_ge (tgt := 91) cx dX11_run_34 (by decide) (by omega) (fun h34_3 => ?_) (fun h34_3 => ?_)
        · skip
          refine lv_iload_n hx hb dX11_run_91 rfl (lv_at hl 6 rfl) ?_
          by_cases hs92_0 : w = 0
          · skip
            refine x_tin (v := 0) (tgt := 124) (off := 32) cx dX11_run_92 hs92_0 (by decide) (by decide) (by decide) (by decide) ?_
            refine lv_iload hx hb dX11_run_124 (lv_at hl 2 rfl) ?_
            exact x_iret cx hr hlk dX11_run_126 ((congrArg (fun z => some (Value.int z)) (show nI f = P_run S q w from by rw [P_run, if_pos (by assumption), hq3, nI_clamp (by omega)]; rw [if_pos (by assumption), hf, show k = (sT S (qt S q1)).1 3 by omega]; rfl)).trans hvv)
          by_cases hs92_1 : w = 1
          · skip
            refine x_tin (v := 1) (tgt := 127) (off := 35) cx dX11_run_92 hs92_1 (by decide) (by decide) (by decide) (by decide) ?_
            refine lv_iload hx hb dX11_run_127 (lv_at hl 1 rfl) ?_
            exact x_iret cx hr hlk dX11_run_129 ((congrArg (fun z => some (Value.int z)) (show nI g = P_run S q w from by rw [P_run, if_pos (by assumption), hq3, nI_clamp (by omega)]; rw [if_neg (by assumption), if_pos (by assumption), hg, show k = (sT S (qt S q1)).1 3 by omega]; rfl)).trans hvv)
          by_cases hs92_2 : w = 2
          · skip
            refine x_tin (v := 2) (tgt := 130) (off := 38) cx dX11_run_92 hs92_2 (by decide) (by decide) (by decide) (by decide) ?_
            refine lv_aload_n hx hb dX11_run_130 rfl (lv_at hl 4 rfl) ?_
            refine lv_iload_n hx hb dX11_run_131 rfl (lv_at hl 5 rfl) ?_
            refine x_rdV (av := [.int (nI q1)]) (rest := []) cx hk hw (hm.1) cv_RX11_193_10 (m_fetched S m hm hS hM q1 (by omega)) hl.1 rfl rfl (Nat.le_of_ble_eq_true rfl) ⟨by decide, by decide⟩ ⟨Nat.zero_le _, Nat.zero_le _⟩ dX11_run_132 ?_
            exact x_iret cx hr hlk dX11_run_135 ((congrArg (fun z => some (Value.int z)) (show nI (m_fetch S q1 (m_plan S q1)) = P_run S q w from by rw [P_run, if_pos (by assumption), hq3, nI_clamp (by omega)]; rw [if_neg (by assumption), if_neg (by assumption), if_pos (by assumption)])).trans hvv)
          by_cases hs92_3 : w = 3
          · skip
            refine x_tin (v := 3) (tgt := 136) (off := 44) cx dX11_run_92 hs92_3 (by decide) (by decide) (by decide) (by decide) ?_
            refine lv_aload_n hx hb dX11_run_136 rfl (lv_at hl 4 rfl) ?_
            refine lv_iload_n hx hb dX11_run_137 rfl (lv_at hl 5 rfl) ?_
            refine lv_aload_n hx hb dX11_run_138 rfl (lv_at hl 4 rfl) ?_
            refine lv_iload_n hx hb dX11_run_139 rfl (lv_at hl 5 rfl) ?_
            refine lv_aload_n hx hb dX11_run_140 rfl (lv_at hl 4 rfl) ?_
            refine x_get cx hk hw (hm.1) f_RX11_140_10 rfl dX11_run_141 ?_
            refine x_rdV (av := [.int (nI q1), .int (nI (sn S 2))]) (rest := [.int (nI q1), .ref (lo (0))]) cx hk hw (hm.1) cv_RX11_176_10 (m_planOf S m hm hS hM q1 (sn S 2) (by omega) (by omega)) hl.1 rfl rfl (Nat.le_of_ble_eq_true rfl) ⟨by decide, by decide⟩ ⟨Nat.zero_le _, Nat.zero_le _⟩ dX11_run_144 ?_
            refine x_rdV (av := [.int (nI q1), .int (nO (m_pl S q1 (sn S 2) (sn S 1)))]) (rest := []) cx hk hw (hm.1) cv_RX11_173_10 (m_costP S m hm hS hM q1 (m_pl S q1 (sn S 2) (sn S 1)) (by omega) (by assumption)) hl.1 rfl rfl (Nat.le_of_ble_eq_true rfl) ⟨by decide, by decide⟩ ⟨Nat.zero_le _, Nat.zero_le _⟩ dX11_run_147 ?_
            exact x_iret cx hr hlk dX11_run_150 ((congrArg (fun z => some (Value.int z)) (show nI (m_pc S q1 (m_pl S q1 (sn S 2) (sn S 1))) = P_run S q w from by rw [P_run, if_pos (by assumption), hq3, nI_clamp (by omega)]; rw [if_neg (by assumption), if_neg (by assumption), if_neg (by assumption), if_pos (by assumption)]; rfl)).trans hvv)
          refine x_tout (tgt := 151) (lo := 0) (hi := 3) cx dX11_run_92 (by decide) (fun z h1 h2 => by rcases (show z = 0 ∨ z = 1 ∨ z = 2 ∨ z = 3 by omega) with rfl | rfl | rfl | rfl <;> (first | exact hs92_0 | exact hs92_1 | exact hs92_2 | exact hs92_3)) ?_
          refine lv_iconst (v := (-1)) hx hb dX11_run_151 rfl ?_
          exact x_iret cx hr hlk dX11_run_152 ((congrArg (fun z => some (Value.int z)) (show (-1) = P_run S q w from by rw [P_run, if_pos (by assumption), hq3, nI_clamp (by omega)]; rw [if_neg (by assumption), if_neg (by assumption), if_neg (by assumption), if_neg (by assumption)])).trans hvv)
        · skip
          refine lv_aload_n hx hb dX11_run_37 rfl (lv_at hl 4 rfl) ?_
          refine lv_iload_n hx hb dX11_run_38 rfl (lv_at hl 5 rfl) ?_
          refine lv_iload hx hb dX11_run_39 (lv_at hl 0 rfl) ?_
          refine x_rdV (av := [.int (nI q1), .int (nI k)]) (rest := []) cx hk hw (hm.1) cv_RX11_190_10 (m_answers S m hm hS q1 k (by omega) (by omega)) hl.1 rfl rfl (Nat.le_of_ble_eq_true rfl) ⟨by decide, by decide⟩ ⟨Nat.zero_le _, Nat.zero_le _⟩ dX11_run_41 ?_
          refine x_if_ne (tgt := 50) cx dX11_run_44 (by decide) (fun h44_4 => ?_) (fun h44_4 => ?_)
          · skip
            refine lv_iinc (v := nI (f + 1)) (lv' := [(4, .int (nI (f + 1))), (6, .int (nI k)), (5, .int (nI g)), (3, .int (nI (qt S q1))), (0, .ref (lo (0))), (1, .int (nI q1)), (2, .int (w))]) hx hb dX11_run_50 hl (k := 2) rfl (nI_add _ 1) (by decide) rfl (fun ls hl => ?_)
            refine lv_iload hx hb dX11_run_53 (lv_at hl 2 rfl) ?_
            refine lv_aload_n hx hb dX11_run_55 rfl (lv_at hl 4 rfl) ?_
            refine x_get cx hk hw (hm.1) f_RX11_43_10 rfl dX11_run_56 ?_
            refine lv_iload_n hx hb dX11_run_59 rfl (lv_at hl 5 rfl) ?_
            refine x_ialdN cx hk hw (hm.2 13 _ rfl) (by omega) (by decide) dX11_run_60 ?_
            refine lv_iconst (v := (-1)) hx hb dX11_run_61 rfl ?_
            refine x_icmpO1_ne (tgt := 69) cx dX11_run_62 (by decide) (by omega) (fun h62_5 => ?_) (fun h62_5 => ?_)
            · skip
              refine lv_aload_n hx hb dX11_run_69 rfl (lv_at hl 4 rfl) ?_
              refine lv_iload_n hx hb dX11_run_70 rfl (lv_at hl 3 rfl) ?_
              refine lv_iload hx hb dX11_run_71 (lv_at hl 1 rfl) ?_
              refine lv_aload_n hx hb dX11_run_73 rfl (lv_at hl 4 rfl) ?_
              refine x_get cx hk hw (hm.1) f_RX11_43_10 rfl dX11_run_74 ?_
              refine lv_iload_n hx hb dX11_run_77 rfl (lv_at hl 5 rfl) ?_
              refine x_ialdN cx hk hw (hm.2 13 _ rfl) (by omega) (by decide) dX11_run_78 ?_
              rw [nO_s (k := (qQ S q1).1 3) (by assumption)]
              refine x_rdV (av := [.int (nI (qt S q1)), .int (nI k), .int (nI ((qQ S q1).1 3 - 1))]) (rest := [.int (nI g)]) cx hk hw (hm.1) cv_RX11_101_10 (m_at S m hm hS (qt S q1) k ((qQ S q1).1 3 - 1) (by omega) (by first | assumption | omega) (by omega) (by first | assumption | omega)) hl.1 rfl rfl (Nat.le_of_ble_eq_true rfl) ⟨by decide, by decide⟩ ⟨Nat.zero_le _, Nat.zero_le _⟩ dX11_run_79 ?_
              refine x_iaddN cx dX11_run_82 ?_
              refine lv_istore (lv' := [(5, .int (nI (g + (t_v (sT S (qt S q1)) k ((qQ S q1).1 3 - 1))))), (4, .int (nI (f + 1))), (6, .int (nI k)), (3, .int (nI (qt S q1))), (0, .ref (lo (0))), (1, .int (nI q1)), (2, .int (w))]) hx hb dX11_run_83 hl (by decide) rfl (fun ls hl => ?_)
              refine lv_iinc (v := nI (k + 1)) (lv' := [(6, .int (nI (k + 1))), (5, .int (nI (g + (t_v (sT S (qt S q1)) k ((qQ S q1).1 3 - 1))))), (4, .int (nI (f + 1))), (3, .int (nI (qt S q1))), (0, .ref (lo (0))), (1, .int (nI q1)), (2, .int (w))]) hx hb dX11_run_85 hl (k := 2) rfl (nI_add _ 1) (by decide) rfl (fun ls hl => ?_)
              refine lv_goto (tgt := 26) hx hb dX11_run_88 (by decide) ?_
              exact ih26_2 (f + 1) (g + (t_v (sT S (qt S q1)) k ((qQ S q1).1 3 - 1))) (k + 1) (by omega) (by rw [cntN, ← hf]; simp_all) (by rw [sumN, ← hg]; simp_all) (by omega) _ (lv_sub hl [0, 1, 2, 3, 4, 5, 6] rfl)
            · skip
              refine lv_iconst (v := nI 0) hx hb dX11_run_65 rfl ?_
              refine lv_goto (tgt := 82) hx hb dX11_run_66 (by decide) ?_
              refine x_iaddN cx dX11_run_82 ?_
              refine lv_istore (lv' := [(5, .int (nI (g + 0))), (4, .int (nI (f + 1))), (6, .int (nI k)), (3, .int (nI (qt S q1))), (0, .ref (lo (0))), (1, .int (nI q1)), (2, .int (w))]) hx hb dX11_run_83 hl (by decide) rfl (fun ls hl => ?_)
              refine lv_iinc (v := nI (k + 1)) (lv' := [(6, .int (nI (k + 1))), (5, .int (nI (g + 0))), (4, .int (nI (f + 1))), (3, .int (nI (qt S q1))), (0, .ref (lo (0))), (1, .int (nI q1)), (2, .int (w))]) hx hb dX11_run_85 hl (k := 2) rfl (nI_add _ 1) (by decide) rfl (fun ls hl => ?_)
              refine lv_goto (tgt := 26) hx hb dX11_run_88 (by decide) ?_
              exact ih26_2 (f + 1) (g + 0) (k + 1) (by omega) (by rw [cntN, ← hf]; simp_all) (by rw [sumN, ← hg]; simp_all) (by omega) _ (lv_sub hl [0, 1, 2, 3, 4, 5, 6] rfl)
          · skip
            refine lv_goto (tgt := 85) hx hb dX11_run_47 (by decide) ?_
            refine lv_iinc (v := nI (k + 1)) (lv' := [(6, .int (nI (k + 1))), (5, .int (nI g)), (4, .int (nI f)), (3, .int (nI (qt S q1))), (0, .ref (lo (0))), (1, .int (nI q1)), (2, .int (w))]) hx hb dX11_run_85 hl (k := 0) rfl (nI_add _ 1) (by decide) rfl (fun ls hl => ?_)
            refine lv_goto (tgt := 26) hx hb dX11_run_88 (by decide) ?_
            exact ih26_2 f g (k + 1) (by omega) (by rw [cntN, ← hf]; simp_all) (by rw [sumN, ← hg]; simp_all) (by omega) _ (lv_sub hl [0, 1, 2, 3, 4, 5, 6] rfl)
    exact L26_2 (_ + 1) 0 0 0 (by omega) (by rfl) (by rfl) (Nat.lt_succ_self _) _ (lv_sub hl [0, 1, 2, 3, 4, 5, 6] rfl)
  · skip
    refine lv_iconst (v := (-1)) hx hb dX11_run_8 rfl ?_
    exact x_iret cx hr hlk dX11_run_9 ((congrArg (fun z => some (Value.int z)) (show (-1) = P_run S q w from by simp [P_run, *])).trans hvv)
set_option maxHeartbeats 4000000 in
set_option maxRecDepth 100000 in
theorem m_total {l : Launch} {G : x_G} {lo : x_L} {co : x_C} (S : St) (m : Nat → Nat → Int32) (hm : isM G lo co S m) (hS : Sok S) (hM : Mok S m) (s : Nat) (hs_ : s < 2 ^ 31) : x_Rd l G lo co yX11_totalOf cX11_totalOf 5 (some .long) 8 [.ref (lo (0)), .int (nI s)] (some (.long (lN (m_tot S s)))) := by
  refine x_enter RX11 rfl (by decide) (Nat.le_of_ble_eq_true rfl) ?_
  intro pp ee ss mm bb mt cd ls cx hk hw hr hlk hl
  have hl : lv_has ls 5 [(0, .ref (lo (0))), (1, .int (nI s))] := hl
  generalize hav : ([.ref (lo (0)), .int (nI s)] : List Value).toArray = av at cx ⊢
  generalize hvv : (some (.long (lN (m_tot S s))) : Option Value) = vv
  have hx := cx.1
  have hb := cx.2.1
  have hown := cx.2.2.2.1
  have hts := cx.2.2.2.2
  obtain ⟨s1, s2, s3, s4, s5, s6⟩ := id hS
  refine lv_lconst (v := lN 0) hx hb dX11_totalOf_0 rfl ?_
  refine lv_lstore_n (lv' := [(2, .long (lN 0)), (0, .ref (lo (0))), (1, .int (nI s))]) hx hb dX11_totalOf_1 rfl hl (by decide) rfl (fun ls hl => ?_)
  refine lv_iconst (v := nI 0) hx hb dX11_totalOf_2 rfl ?_
  refine lv_istore (lv' := [(4, .int (nI 0)), (2, .long (lN 0)), (0, .ref (lo (0))), (1, .int (nI s))]) hx hb dX11_totalOf_3 hl (by decide) rfl (fun ls hl => ?_)
  have L5_1 : ∀ (n_ : Nat) (f : Nat) (k : Nat), (k ≤ sn S 0) → (f = m_tq S s k) → sn S 0 - k < n_ → ∀ (ls : Array Slot), lv_has ls 5 [(4, .int (nI k)), (2, .long (lN f)), (0, .ref (lo (0))), (1, .int (nI s))] → x_w l 8 pp ee ss mm av bb mt cd vv 5 ls [] := by
    intro n_
    induction n_ with
    | zero => intro f k hv hf hm_ ls hl; exact absurd hm_ (Nat.not_lt_zero _)
    | succ n_ ih5_1 =>
      intro f k hv hf hm_ ls hl
      refine lv_iload hx hb dX11_totalOf_5 (lv_at hl 0 rfl) ?_
      refine lv_aload_n hx hb dX11_totalOf_7 rfl (lv_at hl 2 rfl) ?_
      refine x_get cx hk hw (hm.1) f_RX11_116_10 rfl dX11_totalOf_8 ?_
      refine x_icmp_ge (tgt := 46) cx dX11_totalOf_11 (by decide) (by omega) (fun h11_2 => ?_) (fun h11_2 => ?_)
      · skip
        refine lv_iconst (v := nI 0) hx hb dX11_totalOf_46 rfl ?_
        refine lv_istore (lv' := [(4, .int (nI 0)), (2, .long (lN f)), (0, .ref (lo (0))), (1, .int (nI s))]) hx hb dX11_totalOf_47 hl (by decide) rfl (fun ls hl => ?_)
        have L49_3 : ∀ (n_ : Nat) (g : Nat) (k : Nat), (k ≤ sn S 1) → (g = m_tq S s (sn S 0) + m_tk S s k) → sn S 1 - k < n_ → ∀ (ls : Array Slot), lv_has ls 5 [(4, .int (nI k)), (2, .long (lN g)), (0, .ref (lo (0))), (1, .int (nI s))] → x_w l 8 pp ee ss mm av bb mt cd vv 49 ls [] := by
          intro n_
          induction n_ with
          | zero => intro g k hv hg hm_ ls hl; exact absurd hm_ (Nat.not_lt_zero _)
          | succ n_ ih49_3 =>
            intro g k hv hg hm_ ls hl
            refine lv_iload hx hb dX11_totalOf_49 (lv_at hl 0 rfl) ?_
            refine lv_aload_n hx hb dX11_totalOf_51 rfl (lv_at hl 2 rfl) ?_
            refine x_get cx hk hw (hm.1) f_RX11_123_10 rfl dX11_totalOf_52 ?_
            refine x_icmp_ge (tgt := 101) cx dX11_totalOf_55 (by decide) (by omega) (fun h55_4 => ?_) (fun h55_4 => ?_)
            · skip
              refine lv_lload_n hx hb dX11_totalOf_101 rfl (lv_at hl 1 rfl) ?_
              exact x_lret cx hr hlk dX11_totalOf_102 ((congrArg (fun z => some (Value.long (lN z))) (show g = m_tot S s from by rw [hg, show k = sn S 1 by omega]; rfl)).trans hvv)
            · skip
              refine lv_lload_n hx hb dX11_totalOf_58 rfl (lv_at hl 1 rfl) ?_
              refine lv_iload_n hx hb dX11_totalOf_59 rfl (lv_at hl 3 rfl) ?_
              refine lv_iload hx hb dX11_totalOf_60 (lv_at hl 0 rfl) ?_
              refine x_rdS (av := [.int (nI s), .int (nI k)]) (rest := [.long (lN g)]) cx hk hw cs_RX11_97 (m_isIn s k (by omega) (by omega)) hl.1 rfl rfl (Nat.le_of_ble_eq_true rfl) ⟨by decide, by decide⟩ ⟨Nat.zero_le _, Nat.zero_le _⟩ dX11_totalOf_62 ?_
              have J93_5 : ∀ (y5_s0 : Nat) (ey5_s0 : y5_s0 = if (s.testBit k) = true then ((a_keep (aA S k)) * ((sT S (ao S k)).1 4)) else 0) (ls : Array Slot), lv_has ls 5 [(4, .int (nI k)), (2, .long (lN g)), (0, .ref (lo (0))), (1, .int (nI s))] → x_w l 8 pp ee ss mm av bb mt cd vv 93 ls [.long (lN y5_s0), .long (lN g)] := by
                intro y5_s0 ey5_s0 ls hl
                have dy5_s0 : ((s.testBit k) = true ∧ (y5_s0 = ((a_keep (aA S k)) * ((sT S (ao S k)).1 4)))) ∨ (¬ ((s.testBit k) = true) ∧ (y5_s0 = 0)) := by rw [ey5_s0]; repeat' (first | (exact rfl) | (split <;> first | (refine Or.inl ⟨by assumption, ?_⟩) | (refine Or.inr ⟨by assumption, ?_⟩)))
                refine x_laddN cx dX11_totalOf_93 ?_
                refine lv_lstore_n (lv' := [(2, .long (lN (g + y5_s0))), (4, .int (nI k)), (0, .ref (lo (0))), (1, .int (nI s))]) hx hb dX11_totalOf_94 rfl hl (by decide) rfl (fun ls hl => ?_)
                refine lv_iinc (v := nI (k + 1)) (lv' := [(4, .int (nI (k + 1))), (2, .long (lN (g + y5_s0))), (0, .ref (lo (0))), (1, .int (nI s))]) hx hb dX11_totalOf_95 hl (k := 1) rfl (nI_add _ 1) (by decide) rfl (fun ls hl => ?_)
                refine lv_goto (tgt := 49) hx hb dX11_totalOf_98 (by decide) ?_
                exact ih49_3 (g + y5_s0) (k + 1) (by omega) (by rw [hg, Nat.add_assoc]; congr 1; unfold m_tk; rw [sumN]; congr 1) (by omega) _ (lv_sub hl [0, 1, 2, 3] rfl)
              refine x_if_eq (tgt := 92) cx dX11_totalOf_65 (by decide) (fun h65_6 => ?_) (fun h65_6 => ?_)
              · skip
                refine lv_lconst (v := lN 0) hx hb dX11_totalOf_92 rfl ?_
                exact J93_5 0 (by rw [if_neg (fun q => Bool.noConfusion (h65_6.symm.trans q))]) _ (lv_sub hl [0, 1, 2, 3] rfl)
              · skip
                obtain ⟨u1, u2, hA⟩ := s6 k (by omega)
                have hT := (s1 _ u1).1 u2
                obtain ⟨k1, k2, k3, k4, k5, k6, k7, k8, k9, k0⟩ := id hT
                have hkp : a_keep (aA S k) ≤ 4 := by unfold a_keep; split <;> (try split) <;> (try split) <;> omega
                refine lv_aload_n hx hb dX11_totalOf_68 rfl (lv_at hl 2 rfl) ?_
                refine lv_iload hx hb dX11_totalOf_69 (lv_at hl 0 rfl) ?_
                refine x_rdV (av := [.int (nI k)]) (rest := [.long (lN g)]) cx hk hw (hm.1) cv_RX11_196_10 (m_keep S m hm hS k (by omega)) hl.1 rfl rfl (Nat.le_of_ble_eq_true rfl) ⟨by decide, by decide⟩ ⟨Nat.zero_le _, Nat.zero_le _⟩ dX11_totalOf_71 ?_
                refine x_i2lN cx dX11_totalOf_74 (by omega) ?_
                refine lv_aload_n hx hb dX11_totalOf_75 rfl (lv_at hl 2 rfl) ?_
                refine x_get cx hk hw (hm.1) f_RX11_34_10 rfl dX11_totalOf_76 ?_
                refine lv_aload_n hx hb dX11_totalOf_79 rfl (lv_at hl 2 rfl) ?_
                refine x_get cx hk hw (hm.1) f_RX11_62_10 rfl dX11_totalOf_80 ?_
                refine lv_iload hx hb dX11_totalOf_83 (lv_at hl 0 rfl) ?_
                refine x_ialdN cx hk hw (hm.2 21 _ rfl) (by omega) (by decide) dX11_totalOf_85 ?_
                refine x_ialdN cx hk hw (hm.2 9 _ rfl) (by omega) (by decide) dX11_totalOf_86 ?_
                refine x_i2lN cx dX11_totalOf_87 (by omega) ?_
                refine x_lmulN cx dX11_totalOf_88 ?_
                refine lv_goto (tgt := 93) hx hb dX11_totalOf_89 (by decide) ?_
                exact J93_5 ((a_keep (aA S k)) * ((sT S (ao S k)).1 4)) (by rw [if_pos h65_6]) _ (lv_sub hl [0, 1, 2, 3] rfl)
        exact L49_3 (_ + 1) f 0 (by omega) (by rw [hf, show k = sn S 0 by omega]; rfl) (Nat.lt_succ_self _) _ (lv_sub hl [0, 1, 2, 3] rfl)
      · skip
        have hwt0 := (s5 k (by omega)).2.2.2.2.1
        refine lv_lload_n hx hb dX11_totalOf_14 rfl (lv_at hl 1 rfl) ?_
        refine lv_aload_n hx hb dX11_totalOf_15 rfl (lv_at hl 2 rfl) ?_
        refine x_get cx hk hw (hm.1) f_RX11_46_10 rfl dX11_totalOf_16 ?_
        refine lv_iload hx hb dX11_totalOf_19 (lv_at hl 0 rfl) ?_
        refine x_ialdN cx hk hw (hm.2 14 _ rfl) (by omega) (by decide) dX11_totalOf_21 ?_
        refine x_i2lN cx dX11_totalOf_22 (by omega) ?_
        refine lv_aload_n hx hb dX11_totalOf_23 rfl (lv_at hl 2 rfl) ?_
        refine lv_iload hx hb dX11_totalOf_24 (lv_at hl 0 rfl) ?_
        refine lv_aload_n hx hb dX11_totalOf_26 rfl (lv_at hl 2 rfl) ?_
        refine lv_iload hx hb dX11_totalOf_27 (lv_at hl 0 rfl) ?_
        refine lv_iload_n hx hb dX11_totalOf_29 rfl (lv_at hl 3 rfl) ?_
        refine x_rdV (av := [.int (nI k), .int (nI s)]) (rest := [.int (nI k), .ref (lo (0)), .long (lN ((qQ S k).1 1)), .long (lN f)]) cx hk hw (hm.1) cv_RX11_176_10 (m_planOf S m hm hS hM k s (by omega) (by omega)) hl.1 rfl rfl (Nat.le_of_ble_eq_true rfl) ⟨by decide, by decide⟩ ⟨Nat.zero_le _, Nat.zero_le _⟩ dX11_totalOf_30 ?_
        have hwo := m_pl_ok (S := S) k s
        refine x_rdV (av := [.int (nI k), .int (nO (m_pl S k s (sn S 1)))]) (rest := [.long (lN ((qQ S k).1 1)), .long (lN f)]) cx hk hw (hm.1) cv_RX11_173_10 (m_costP S m hm hS hM k (m_pl S k s (sn S 1)) (by omega) (by assumption)) hl.1 rfl rfl (Nat.le_of_ble_eq_true rfl) ⟨by decide, by decide⟩ ⟨Nat.zero_le _, Nat.zero_le _⟩ dX11_totalOf_33 ?_
        have hlc := m_lc_le (s := s) hS (q := k) (by omega) (sn S 1)
        have hpl := m_pc_lc S k s (sn S 1)
        have hwt := (s5 k (by omega)).2.2.2.2.1
        refine x_i2lN cx dX11_totalOf_36 (by omega) ?_
        refine x_lmulN cx dX11_totalOf_37 ?_
        refine x_laddN cx dX11_totalOf_38 ?_
        refine lv_lstore_n (lv' := [(2, .long (lN (f + (((qQ S k).1 1) * (m_pc S k (m_pl S k s (sn S 1))))))), (4, .int (nI k)), (0, .ref (lo (0))), (1, .int (nI s))]) hx hb dX11_totalOf_39 rfl hl (by decide) rfl (fun ls hl => ?_)
        refine lv_iinc (v := nI (k + 1)) (lv' := [(4, .int (nI (k + 1))), (2, .long (lN (f + (((qQ S k).1 1) * (m_pc S k (m_pl S k s (sn S 1))))))), (0, .ref (lo (0))), (1, .int (nI s))]) hx hb dX11_totalOf_40 hl (k := 1) rfl (nI_add _ 1) (by decide) rfl (fun ls hl => ?_)
        refine lv_goto (tgt := 5) hx hb dX11_totalOf_43 (by decide) ?_
        exact ih5_1 (f + (((qQ S k).1 1) * (m_pc S k (m_pl S k s (sn S 1))))) (k + 1) (by omega) (by rw [hf, hpl]; rfl) (by omega) _ (lv_sub hl [0, 1, 2, 3] rfl)
  exact L5_1 (_ + 1) 0 0 (by omega) (by rfl) (Nat.lt_succ_self _) _ (lv_sub hl [0, 1, 2, 3] rfl)
set_option maxHeartbeats 4000000 in
set_option maxRecDepth 100000 in
theorem m_rset {l : Launch} {G : x_G} {lo : x_L} {co : x_C} (S : St) (m : Nat → Nat → Int32) (hm : isM G lo co S m) (hS : Sok S) (hM : Mok S m) (s : Nat) (hs_ : s < 2 ^ 31) : x_Rd l G lo co yX11_roomOfSet cX11_roomOfSet 4 (some .int) 5 [.ref (lo (0)), .int (nI s)] (some (.int (nI (m_rs S s (sn S 1))))) := by
  refine x_enter RX11 rfl (by decide) (Nat.le_of_ble_eq_true rfl) ?_
  intro pp ee ss mm bb mt cd ls cx hk hw hr hlk hl
  have hl : lv_has ls 4 [(0, .ref (lo (0))), (1, .int (nI s))] := hl
  generalize hav : ([.ref (lo (0)), .int (nI s)] : List Value).toArray = av at cx ⊢
  generalize hvv : (some (.int (nI (m_rs S s (sn S 1)))) : Option Value) = vv
  have hx := cx.1
  have hb := cx.2.1
  have hown := cx.2.2.2.1
  have hts := cx.2.2.2.2
  obtain ⟨s1, s2, s3, s4, s5, s6⟩ := id hS
  refine lv_iconst (v := nI 0) hx hb dX11_roomOfSet_0 rfl ?_
  refine lv_istore_n (lv' := [(2, .int (nI 0)), (0, .ref (lo (0))), (1, .int (nI s))]) hx hb dX11_roomOfSet_1 rfl hl (by decide) rfl (fun ls hl => ?_)
  refine lv_iconst (v := nI 0) hx hb dX11_roomOfSet_2 rfl ?_
  refine lv_istore_n (lv' := [(3, .int (nI 0)), (2, .int (nI 0)), (0, .ref (lo (0))), (1, .int (nI s))]) hx hb dX11_roomOfSet_3 rfl hl (by decide) rfl (fun ls hl => ?_)
  have L4_1 : ∀ (n_ : Nat) (f : Nat) (k : Nat), (k ≤ sn S 1) → (f = m_rs S s k) → sn S 1 - k < n_ → ∀ (ls : Array Slot), lv_has ls 4 [(3, .int (nI k)), (2, .int (nI f)), (0, .ref (lo (0))), (1, .int (nI s))] → x_w l 5 pp ee ss mm av bb mt cd vv 4 ls [] := by
    intro n_
    induction n_ with
    | zero => intro f k hv hf hm_ ls hl; exact absurd hm_ (Nat.not_lt_zero _)
    | succ n_ ih4_1 =>
      intro f k hv hf hm_ ls hl
      refine lv_iload_n hx hb dX11_roomOfSet_4 rfl (lv_at hl 0 rfl) ?_
      refine lv_aload_n hx hb dX11_roomOfSet_5 rfl (lv_at hl 2 rfl) ?_
      refine x_get cx hk hw (hm.1) f_RX11_123_10 rfl dX11_roomOfSet_6 ?_
      refine x_icmp_ge (tgt := 38) cx dX11_roomOfSet_9 (by decide) (by omega) (fun h9_2 => ?_) (fun h9_2 => ?_)
      · skip
        refine lv_iload_n hx hb dX11_roomOfSet_38 rfl (lv_at hl 1 rfl) ?_
        exact x_iret cx hr hlk dX11_roomOfSet_39 ((congrArg (fun z => some (Value.int (nI z))) (show f = m_rs S s (sn S 1) from by rw [hf, show k = sn S 1 by omega])).trans hvv)
      · skip
        refine lv_iload_n hx hb dX11_roomOfSet_12 rfl (lv_at hl 1 rfl) ?_
        refine lv_iload_n hx hb dX11_roomOfSet_13 rfl (lv_at hl 3 rfl) ?_
        refine lv_iload_n hx hb dX11_roomOfSet_14 rfl (lv_at hl 0 rfl) ?_
        refine x_rdS (av := [.int (nI s), .int (nI k)]) (rest := [.int (nI f)]) cx hk hw cs_RX11_97 (m_isIn s k (by omega) (by omega)) hl.1 rfl rfl (Nat.le_of_ble_eq_true rfl) ⟨by decide, by decide⟩ ⟨Nat.zero_le _, Nat.zero_le _⟩ dX11_roomOfSet_15 ?_
        have J30_3 : ∀ (y3_s0 : Nat) (ey3_s0 : y3_s0 = if (s.testBit k) = true then (m_sp S k) else 0) (ls : Array Slot), lv_has ls 4 [(3, .int (nI k)), (2, .int (nI f)), (0, .ref (lo (0))), (1, .int (nI s))] → x_w l 5 pp ee ss mm av bb mt cd vv 30 ls [.int (nI y3_s0), .int (nI f)] := by
          intro y3_s0 ey3_s0 ls hl
          have dy3_s0 : ((s.testBit k) = true ∧ (y3_s0 = (m_sp S k))) ∨ (¬ ((s.testBit k) = true) ∧ (y3_s0 = 0)) := by rw [ey3_s0]; repeat' (first | (exact rfl) | (split <;> first | (refine Or.inl ⟨by assumption, ?_⟩) | (refine Or.inr ⟨by assumption, ?_⟩)))
          refine x_iaddN cx dX11_roomOfSet_30 ?_
          refine lv_istore_n (lv' := [(2, .int (nI (f + y3_s0))), (3, .int (nI k)), (0, .ref (lo (0))), (1, .int (nI s))]) hx hb dX11_roomOfSet_31 rfl hl (by decide) rfl (fun ls hl => ?_)
          refine lv_iinc (v := nI (k + 1)) (lv' := [(3, .int (nI (k + 1))), (2, .int (nI (f + y3_s0))), (0, .ref (lo (0))), (1, .int (nI s))]) hx hb dX11_roomOfSet_32 hl (k := 1) rfl (nI_add _ 1) (by decide) rfl (fun ls hl => ?_)
          refine lv_goto (tgt := 4) hx hb dX11_roomOfSet_35 (by decide) ?_
          exact ih4_1 (f + y3_s0) (k + 1) (by omega) (by rw [hf]; unfold m_rs; rw [sumN]; congr 1) (by omega) _ (lv_sub hl [0, 1, 2, 3] rfl)
        refine x_if_eq (tgt := 29) cx dX11_roomOfSet_18 (by decide) (fun h18_4 => ?_) (fun h18_4 => ?_)
        · skip
          refine lv_iconst (v := nI 0) hx hb dX11_roomOfSet_29 rfl ?_
          exact J30_3 0 (by rw [if_neg (fun q => Bool.noConfusion (h18_4.symm.trans q))]) _ (lv_sub hl [0, 1, 2, 3] rfl)
        · skip
          refine lv_aload_n hx hb dX11_roomOfSet_21 rfl (lv_at hl 2 rfl) ?_
          refine lv_iload_n hx hb dX11_roomOfSet_22 rfl (lv_at hl 0 rfl) ?_
          refine x_rdV (av := [.int (nI k)]) (rest := [.int (nI f)]) cx hk hw (hm.1) cv_RX11_199_10 (m_roomOf S m hm hS hM k (by omega)) hl.1 rfl rfl (Nat.le_of_ble_eq_true rfl) ⟨by decide, by decide⟩ ⟨Nat.zero_le _, Nat.zero_le _⟩ dX11_roomOfSet_23 ?_
          refine lv_goto (tgt := 30) hx hb dX11_roomOfSet_26 (by decide) ?_
          exact J30_3 (m_sp S k) (by rw [if_pos h18_4]) _ (lv_sub hl [0, 1, 2, 3] rfl)
  exact L4_1 (_ + 1) 0 0 (by omega) (by rfl) (Nat.lt_succ_self _) _ (lv_sub hl [0, 1, 2, 3] rfl)
set_option maxHeartbeats 4000000 in
set_option maxRecDepth 100000 in
theorem m_isSet {l : Launch} {G : x_G} {lo : x_L} {co : x_C} (S : St) (m : Nat → Nat → Int32) (hm : isM G lo co S m) (hS : Sok S) (s : Int32) : x_Rd l G lo co yX11_isSet cX11_isSet 4 (some .boolean) 2 [.ref (lo (0)), .int (s)] (some (.int (bI (m_isS S s)))) := by
  refine x_enter RX11 rfl (by decide) (Nat.le_of_ble_eq_true rfl) ?_
  intro pp ee ss mm bb mt cd ls cx hk hw hr hlk hl
  have hl : lv_has ls 4 [(0, .ref (lo (0))), (1, .int (s))] := hl
  generalize hav : ([.ref (lo (0)), .int (s)] : List Value).toArray = av at cx ⊢
  generalize hvv : (some (.int (bI (m_isS S s))) : Option Value) = vv
  have hx := cx.1
  have hb := cx.2.1
  have hown := cx.2.2.2.1
  have hts := cx.2.2.2.2
  obtain ⟨s1, s2, s3, s4, s5, s6⟩ := id hS
  have hb12 := Sok.b12 hS
  refine lv_iload_n hx hb dX11_isSet_0 rfl (lv_at hl 1 rfl) ?_
  refine lv_if_lt (tgt := 13) hx hb dX11_isSet_1 (by decide) (fun h1_1 => ?_) (fun h1_1 => ?_)
  · skip
    refine lv_iconst (v := nI 0) hx hb dX11_isSet_13 rfl ?_
    exact x_zretF (b := m_isS S s) cx hr hlk dX11_isSet_14 (by first | (rw [m_isS, x_in, decide_eq_true (by assumption : s < 0)]; rfl) | (rw [hn, m_isS_nI hS hn31, decide_eq_false (fun w => by have h0 : ¬ n / 2 ^ sn S 1 = 0 := (by assumption); exact h0 (Nat.div_eq_of_lt w))]; rfl)) hvv
  · skip
    obtain ⟨n, hn31, hn⟩ := nI_of (by assumption)
    rw [hn] at hl
    refine lv_iload_n hx hb dX11_isSet_4 rfl (lv_at hl 1 rfl) ?_
    refine lv_aload_n hx hb dX11_isSet_5 rfl (lv_at hl 0 rfl) ?_
    refine x_get cx hk hw (hm.1) f_RX11_123_10 rfl dX11_isSet_6 ?_
    refine x_ishrB cx (by omega) dX11_isSet_9 ?_
    have hdn : n / 2 ^ sn S 1 ≤ n := Nat.div_le_self _ _
    refine x_ifN_eq (tgt := 15) cx dX11_isSet_10 (by decide) (by omega) (fun h10_2 => ?_) (fun h10_2 => ?_)
    · skip
      have hlt0 : n / 2 ^ sn S 1 = 0 := by assumption
      have hlt : n < 2 ^ sn S 1 := by rw [Nat.div_eq_zero_iff] at hlt0; have := Nat.two_pow_pos (sn S 1); omega
      refine lv_iconst (v := nI 0) hx hb dX11_isSet_15 rfl ?_
      refine lv_istore_n (lv' := [(2, .int (nI 0)), (0, .ref (lo (0))), (1, .int (nI n))]) hx hb dX11_isSet_16 rfl hl (by decide) rfl (fun ls hl => ?_)
      have L17_3 : ∀ (n_ : Nat) (k : Nat), (k ≤ sn S 1) → (allN k (fun a => allN a (fun b => !m_bad S n a b)) = true) → sn S 1 - k < n_ → ∀ (ls : Array Slot), lv_has ls 4 [(2, .int (nI k)), (0, .ref (lo (0))), (1, .int (nI n))] → x_w l 2 pp ee ss mm av bb mt cd vv 17 ls [] := by
        intro n_
        induction n_ with
        | zero => intro k hv hall hm_ ls hl; exact absurd hm_ (Nat.not_lt_zero _)
        | succ n_ ih17_3 =>
          intro k hv hall hm_ ls hl
          refine lv_iload_n hx hb dX11_isSet_17 rfl (lv_at hl 0 rfl) ?_
          refine lv_aload_n hx hb dX11_isSet_18 rfl (lv_at hl 1 rfl) ?_
          refine x_get cx hk hw (hm.1) f_RX11_123_10 rfl dX11_isSet_19 ?_
          refine x_icmp_ge (tgt := 97) cx dX11_isSet_22 (by decide) (by omega) (fun h22_4 => ?_) (fun h22_4 => ?_)
          · skip
            refine lv_iconst (v := nI 1) hx hb dX11_isSet_97 rfl ?_
            exact x_zretT (b := m_isS S s) cx hr hlk dX11_isSet_98 (by rw [hn, m_isS_nI hS hn31, decide_eq_true hlt, Bool.true_and, m_set, show sn S 1 = k by omega]; exact hall) hvv
          · skip
            refine lv_iconst (v := nI 0) hx hb dX11_isSet_25 rfl ?_
            refine lv_istore_n (lv' := [(3, .int (nI 0)), (2, .int (nI k)), (0, .ref (lo (0))), (1, .int (nI n))]) hx hb dX11_isSet_26 rfl hl (by decide) rfl (fun ls hl => ?_)
            have L27_5 : ∀ (n_ : Nat) (j : Nat), (j ≤ k) → (allN j (fun b => !m_bad S n k b) = true) → k - j < n_ → ∀ (ls : Array Slot), lv_has ls 4 [(3, .int (nI j)), (2, .int (nI k)), (0, .ref (lo (0))), (1, .int (nI n))] → x_w l 2 pp ee ss mm av bb mt cd vv 27 ls [] := by
              intro n_
              induction n_ with
              | zero => intro j hj hal2 hm_ ls hl; exact absurd hm_ (Nat.not_lt_zero _)
              | succ n_ ih27_5 =>
                intro j hj hal2 hm_ ls hl
                refine lv_iload_n hx hb dX11_isSet_27 rfl (lv_at hl 0 rfl) ?_
                refine lv_iload_n hx hb dX11_isSet_28 rfl (lv_at hl 1 rfl) ?_
                refine x_icmp_ge (tgt := 91) cx dX11_isSet_29 (by decide) (by omega) (fun h29_6 => ?_) (fun h29_6 => ?_)
                · skip
                  refine lv_iinc (v := nI (k + 1)) (lv' := [(2, .int (nI (k + 1))), (3, .int (nI j)), (0, .ref (lo (0))), (1, .int (nI n))]) hx hb dX11_isSet_91 hl (k := 1) rfl (nI_add _ 1) (by decide) rfl (fun ls hl => ?_)
                  refine lv_goto (tgt := 17) hx hb dX11_isSet_94 (by decide) ?_
                  exact ih17_3 (k + 1) (by omega) (by have e_ : j = k := (by omega); rw [e_] at hal2; exact allN_step hall hal2) (by omega) _ (lv_sub hl [0, 2, 3] rfl)
                · skip
                  refine lv_iload_n hx hb dX11_isSet_32 rfl (lv_at hl 3 rfl) ?_
                  refine lv_iload_n hx hb dX11_isSet_33 rfl (lv_at hl 1 rfl) ?_
                  refine x_rdS (av := [.int (nI n), .int (nI k)]) (rest := []) cx hk hw cs_RX11_97 (m_isIn n k (by omega) (by omega)) hl.1 rfl rfl (Nat.le_of_ble_eq_true rfl) ⟨by decide, by decide⟩ ⟨Nat.zero_le _, Nat.zero_le _⟩ dX11_isSet_34 ?_
                  refine x_if_eq (tgt := 85) cx dX11_isSet_37 (by decide) (fun h37_7 => ?_) (fun h37_7 => ?_)
                  · skip
                    refine lv_iinc (v := nI (j + 1)) (lv' := [(3, .int (nI (j + 1))), (2, .int (nI k)), (0, .ref (lo (0))), (1, .int (nI n))]) hx hb dX11_isSet_85 hl (k := 0) rfl (nI_add _ 1) (by decide) rfl (fun ls hl => ?_)
                    refine lv_goto (tgt := 27) hx hb dX11_isSet_88 (by decide) ?_
                    exact ih27_5 (j + 1) (by omega) (by exact allN_step hal2 (by simp [m_bad, *])) (by omega) _ (lv_sub hl [0, 1, 2, 3] rfl)
                  · skip
                    refine lv_iload_n hx hb dX11_isSet_40 rfl (lv_at hl 3 rfl) ?_
                    refine lv_iload_n hx hb dX11_isSet_41 rfl (lv_at hl 0 rfl) ?_
                    refine x_rdS (av := [.int (nI n), .int (nI j)]) (rest := []) cx hk hw cs_RX11_97 (m_isIn n j (by omega) (by omega)) hl.1 rfl rfl (Nat.le_of_ble_eq_true rfl) ⟨by decide, by decide⟩ ⟨Nat.zero_le _, Nat.zero_le _⟩ dX11_isSet_42 ?_
                    refine x_if_eq (tgt := 85) cx dX11_isSet_45 (by decide) (fun h45_8 => ?_) (fun h45_8 => ?_)
                    · skip
                      refine lv_iinc (v := nI (j + 1)) (lv' := [(3, .int (nI (j + 1))), (2, .int (nI k)), (0, .ref (lo (0))), (1, .int (nI n))]) hx hb dX11_isSet_85 hl (k := 0) rfl (nI_add _ 1) (by decide) rfl (fun ls hl => ?_)
                      refine lv_goto (tgt := 27) hx hb dX11_isSet_88 (by decide) ?_
                      exact ih27_5 (j + 1) (by omega) (by exact allN_step hal2 (by simp [m_bad, *])) (by omega) _ (lv_sub hl [0, 1, 2, 3] rfl)
                    · skip
                      obtain ⟨u1, u2, hA⟩ := s6 k (by omega)
                      obtain ⟨u3, u4, hB⟩ := s6 j (by omega)
                      have hA0 := hA.1
                      have hB0 := hB.1
                      refine lv_aload_n hx hb dX11_isSet_48 rfl (lv_at hl 2 rfl) ?_
                      refine x_get cx hk hw (hm.1) f_RX11_59_10 rfl dX11_isSet_49 ?_
                      refine lv_iload_n hx hb dX11_isSet_52 rfl (lv_at hl 1 rfl) ?_
                      refine x_ialdN cx hk hw (hm.2 20 _ rfl) (by omega) (by decide) dX11_isSet_53 ?_
                      refine lv_iconst (v := nI 4) hx hb dX11_isSet_54 rfl ?_
                      refine x_icmp_ne (tgt := 85) cx dX11_isSet_55 (by decide) (by omega) (fun h55_9 => ?_) (fun h55_9 => ?_)
                      · skip
                        refine lv_iinc (v := nI (j + 1)) (lv' := [(3, .int (nI (j + 1))), (2, .int (nI k)), (0, .ref (lo (0))), (1, .int (nI n))]) hx hb dX11_isSet_85 hl (k := 0) rfl (nI_add _ 1) (by decide) rfl (fun ls hl => ?_)
                        refine lv_goto (tgt := 27) hx hb dX11_isSet_88 (by decide) ?_
                        exact ih27_5 (j + 1) (by omega) (by exact allN_step hal2 (by simp [m_bad, *])) (by omega) _ (lv_sub hl [0, 1, 2, 3] rfl)
                      · skip
                        refine lv_aload_n hx hb dX11_isSet_58 rfl (lv_at hl 2 rfl) ?_
                        refine x_get cx hk hw (hm.1) f_RX11_59_10 rfl dX11_isSet_59 ?_
                        refine lv_iload_n hx hb dX11_isSet_62 rfl (lv_at hl 0 rfl) ?_
                        refine x_ialdN cx hk hw (hm.2 20 _ rfl) (by omega) (by decide) dX11_isSet_63 ?_
                        refine lv_iconst (v := nI 4) hx hb dX11_isSet_64 rfl ?_
                        refine x_icmp_ne (tgt := 85) cx dX11_isSet_65 (by decide) (by omega) (fun h65_10 => ?_) (fun h65_10 => ?_)
                        · skip
                          refine lv_iinc (v := nI (j + 1)) (lv' := [(3, .int (nI (j + 1))), (2, .int (nI k)), (0, .ref (lo (0))), (1, .int (nI n))]) hx hb dX11_isSet_85 hl (k := 0) rfl (nI_add _ 1) (by decide) rfl (fun ls hl => ?_)
                          refine lv_goto (tgt := 27) hx hb dX11_isSet_88 (by decide) ?_
                          exact ih27_5 (j + 1) (by omega) (by exact allN_step hal2 (by simp [m_bad, *])) (by omega) _ (lv_sub hl [0, 1, 2, 3] rfl)
                        · skip
                          refine lv_aload_n hx hb dX11_isSet_68 rfl (lv_at hl 2 rfl) ?_
                          refine x_get cx hk hw (hm.1) f_RX11_62_10 rfl dX11_isSet_69 ?_
                          refine lv_iload_n hx hb dX11_isSet_72 rfl (lv_at hl 1 rfl) ?_
                          refine x_ialdN cx hk hw (hm.2 21 _ rfl) (by omega) (by decide) dX11_isSet_73 ?_
                          refine lv_aload_n hx hb dX11_isSet_74 rfl (lv_at hl 2 rfl) ?_
                          refine x_get cx hk hw (hm.1) f_RX11_62_10 rfl dX11_isSet_75 ?_
                          refine lv_iload_n hx hb dX11_isSet_78 rfl (lv_at hl 0 rfl) ?_
                          refine x_ialdN cx hk hw (hm.2 21 _ rfl) (by omega) (by decide) dX11_isSet_79 ?_
                          refine x_icmp_ne (tgt := 85) cx dX11_isSet_80 (by decide) (by omega) (fun h80_11 => ?_) (fun h80_11 => ?_)
                          · skip
                            refine lv_iinc (v := nI (j + 1)) (lv' := [(3, .int (nI (j + 1))), (2, .int (nI k)), (0, .ref (lo (0))), (1, .int (nI n))]) hx hb dX11_isSet_85 hl (k := 0) rfl (nI_add _ 1) (by decide) rfl (fun ls hl => ?_)
                            refine lv_goto (tgt := 27) hx hb dX11_isSet_88 (by decide) ?_
                            exact ih27_5 (j + 1) (by omega) (by exact allN_step hal2 (by simp [m_bad, *])) (by omega) _ (lv_sub hl [0, 1, 2, 3] rfl)
                          · skip
                            refine lv_iconst (v := nI 0) hx hb dX11_isSet_83 rfl ?_
                            exact x_zretF (b := m_isS S s) cx hr hlk dX11_isSet_84 (by rw [hn, m_isS_nI hS hn31, bad_set (a := k) (b := j) (by omega) (by omega) (by simp [m_bad, *])]; simp) hvv
            exact L27_5 (_ + 1) 0 (by omega) (by rfl) (Nat.lt_succ_self _) _ (lv_sub hl [0, 1, 2, 3] rfl)
      exact L17_3 (_ + 1) 0 (by omega) (by rfl) (Nat.lt_succ_self _) _ (lv_sub hl [0, 1, 2] rfl)
    · skip
      refine lv_iconst (v := nI 0) hx hb dX11_isSet_13 rfl ?_
      exact x_zretF (b := m_isS S s) cx hr hlk dX11_isSet_14 (by first | (rw [m_isS, x_in, decide_eq_true (by assumption : s < 0)]; rfl) | (rw [hn, m_isS_nI hS hn31, decide_eq_false (fun w => by have h0 : ¬ n / 2 ^ sn S 1 = 0 := (by assumption); exact h0 (Nat.div_eq_of_lt w))]; rfl)) hvv
set_option maxHeartbeats 4000000 in
set_option maxRecDepth 100000 in
theorem m_total_ {l : Launch} {G : x_G} {lo : x_L} {co : x_C} (S : St) (m : Nat → Nat → Int32) (hm : isM G lo co S m) (hS : Sok S) (hM : Mok S m) (s : Int32) : x_Rd l G lo co yX11_total cX11_total 2 (some .long) 9 [.ref (lo (0)), .int (s)] (some (.long (P_total S s))) := by
  refine x_enter RX11 rfl (by decide) (Nat.le_of_ble_eq_true rfl) ?_
  intro pp ee ss mm bb mt cd ls cx hk hw hr hlk hl
  have hl : lv_has ls 2 [(0, .ref (lo (0))), (1, .int (s))] := hl
  generalize hav : ([.ref (lo (0)), .int (s)] : List Value).toArray = av at cx ⊢
  generalize hvv : (some (.long (P_total S s)) : Option Value) = vv
  have hx := cx.1
  have hb := cx.2.1
  have hown := cx.2.2.2.1
  have hts := cx.2.2.2.2
  obtain ⟨s1, s2, s3, s4, s5, s6⟩ := id hS
  have hb12 := Sok.b12 hS
  refine lv_aload_n hx hb dX11_total_0 rfl (lv_at hl 0 rfl) ?_
  refine lv_iload_n hx hb dX11_total_1 rfl (lv_at hl 1 rfl) ?_
  refine x_rdV (av := [.int (s)]) (rest := []) cx hk hw (hm.1) cv_RX11_143_10 (m_isSet S m hm hS s) hl.1 rfl rfl (Nat.le_of_ble_eq_true rfl) ⟨by decide, by decide⟩ ⟨Nat.zero_le _, Nat.zero_le _⟩ dX11_total_2 ?_
  refine x_if_eq (tgt := 16) cx dX11_total_5 (by decide) (fun h5_1 => ?_) (fun h5_1 => ?_)
  · skip
    refine lv_ldc2 (v := (-1)) hx hb hown (hts _ w_1142) dX11_total_16 ?_
    exact x_lret cx hr hlk dX11_total_19 ((congrArg (fun z => some (Value.long z)) (show (-1) = P_total S s from by first | (rw [P_total, if_pos (by assumption), hn, nI_clamp (by omega)]) | (simp [P_total, *]))).trans hvv)
  · skip
    obtain ⟨n, hn1, hn2, hn⟩ := m_isS_ex hS (by assumption)
    rw [hn] at hl
    refine lv_aload_n hx hb dX11_total_8 rfl (lv_at hl 0 rfl) ?_
    refine lv_iload_n hx hb dX11_total_9 rfl (lv_at hl 1 rfl) ?_
    refine x_rdV (av := [.int (nI n)]) (rest := []) cx hk hw (hm.1) cv_RX11_202_10 (m_total S m hm hS hM n (by omega)) hl.1 rfl rfl (Nat.le_of_ble_eq_true rfl) ⟨by decide, by decide⟩ ⟨Nat.zero_le _, Nat.zero_le _⟩ dX11_total_10 ?_
    refine lv_goto (tgt := 19) hx hb dX11_total_13 (by decide) ?_
    exact x_lret cx hr hlk dX11_total_19 ((congrArg (fun z => some (Value.long z)) (show lN (m_tot S n) = P_total S s from by first | (rw [P_total, if_pos (by assumption), hn, nI_clamp (by omega)]) | (simp [P_total, *]))).trans hvv)
set_option maxHeartbeats 4000000 in
set_option maxRecDepth 100000 in
theorem m_room_ {l : Launch} {G : x_G} {lo : x_L} {co : x_C} (S : St) (m : Nat → Nat → Int32) (hm : isM G lo co S m) (hS : Sok S) (hM : Mok S m) (s : Int32) : x_Rd l G lo co yX11_room cX11_room 2 (some .int) 6 [.ref (lo (0)), .int (s)] (some (.int (P_room S s))) := by
  refine x_enter RX11 rfl (by decide) (Nat.le_of_ble_eq_true rfl) ?_
  intro pp ee ss mm bb mt cd ls cx hk hw hr hlk hl
  have hl : lv_has ls 2 [(0, .ref (lo (0))), (1, .int (s))] := hl
  generalize hav : ([.ref (lo (0)), .int (s)] : List Value).toArray = av at cx ⊢
  generalize hvv : (some (.int (P_room S s)) : Option Value) = vv
  have hx := cx.1
  have hb := cx.2.1
  have hown := cx.2.2.2.1
  have hts := cx.2.2.2.2
  obtain ⟨s1, s2, s3, s4, s5, s6⟩ := id hS
  have hb12 := Sok.b12 hS
  refine lv_aload_n hx hb dX11_room_0 rfl (lv_at hl 0 rfl) ?_
  refine lv_iload_n hx hb dX11_room_1 rfl (lv_at hl 1 rfl) ?_
  refine x_rdV (av := [.int (s)]) (rest := []) cx hk hw (hm.1) cv_RX11_143_10 (m_isSet S m hm hS s) hl.1 rfl rfl (Nat.le_of_ble_eq_true rfl) ⟨by decide, by decide⟩ ⟨Nat.zero_le _, Nat.zero_le _⟩ dX11_room_2 ?_
  refine x_if_eq (tgt := 16) cx dX11_room_5 (by decide) (fun h5_1 => ?_) (fun h5_1 => ?_)
  · skip
    refine lv_iconst (v := (-1)) hx hb dX11_room_16 rfl ?_
    exact x_iret cx hr hlk dX11_room_17 ((congrArg (fun z => some (Value.int z)) (show (-1) = P_room S s from by first | (rw [P_room, if_pos (by assumption), hn, nI_clamp (by omega)]) | (simp [P_room, *]))).trans hvv)
  · skip
    obtain ⟨n, hn1, hn2, hn⟩ := m_isS_ex hS (by assumption)
    rw [hn] at hl
    refine lv_aload_n hx hb dX11_room_8 rfl (lv_at hl 0 rfl) ?_
    refine lv_iload_n hx hb dX11_room_9 rfl (lv_at hl 1 rfl) ?_
    refine x_rdV (av := [.int (nI n)]) (rest := []) cx hk hw (hm.1) cv_RX11_208_10 (m_rset S m hm hS hM n (by omega)) hl.1 rfl rfl (Nat.le_of_ble_eq_true rfl) ⟨by decide, by decide⟩ ⟨Nat.zero_le _, Nat.zero_le _⟩ dX11_room_10 ?_
    refine lv_goto (tgt := 17) hx hb dX11_room_13 (by decide) ?_
    exact x_iret cx hr hlk dX11_room_17 ((congrArg (fun z => some (Value.int z)) (show nI (m_rs S n (sn S 1)) = P_room S s from by first | (rw [P_room, if_pos (by assumption), hn, nI_clamp (by omega)]) | (simp [P_room, *]))).trans hvv)
set_option maxHeartbeats 4000000 in
set_option maxRecDepth 100000 in
theorem m_built_ {l : Launch} {G : x_G} {lo : x_L} {co : x_C} (S : St) (m : Nat → Nat → Int32) (hm : isM G lo co S m) (hS : Sok S) : x_Rd l G lo co yX11_built cX11_built 1 (some .int) 1 [.ref (lo (0))] (some (.int (nI (sn S 2)))) := by
  refine x_enter RX11 rfl (by decide) (Nat.le_of_ble_eq_true rfl) ?_
  intro pp ee ss mm bb mt cd ls cx hk hw hr hlk hl
  have hl : lv_has ls 1 [(0, .ref (lo (0)))] := hl
  generalize hav : ([.ref (lo (0))] : List Value).toArray = av at cx ⊢
  generalize hvv : (some (.int (nI (sn S 2))) : Option Value) = vv
  have hx := cx.1
  have hb := cx.2.1
  have hown := cx.2.2.2.1
  have hts := cx.2.2.2.2
  refine lv_aload_n hx hb dX11_built_0 rfl (lv_at hl 0 rfl) ?_
  refine x_get cx hk hw (hm.1) f_RX11_140_10 rfl dX11_built_1 ?_
  exact x_iret cx hr hlk dX11_built_4 ((congrArg (fun z => some (Value.int (nI z))) (show sn S 2 = sn S 2 from by rfl)).trans hvv)
set_option maxHeartbeats 4000000 in
set_option maxRecDepth 100000 in
theorem m_look_ {l : Launch} {G : x_G} {lo : x_L} {co : x_C} (S : St) (m : Nat → Nat → Int32) (hm : isM G lo co S m) (hS : Sok S) (hM : Mok S m) (a w : Int32) : x_Rd l G lo co yX11_look cX11_look 3 (some .long) 9 [.ref (lo (0)), .int (a), .int (w)] (some (.long (P_look S a w))) := by
  refine x_enter RX11 rfl (by decide) (Nat.le_of_ble_eq_true rfl) ?_
  intro pp ee ss mm bb mt cd ls cx hk hw hr hlk hl
  have hl : lv_has ls 3 [(0, .ref (lo (0))), (1, .int (a)), (2, .int (w))] := hl
  generalize hav : ([.ref (lo (0)), .int (a), .int (w)] : List Value).toArray = av at cx ⊢
  generalize hvv : (some (.long (P_look S a w)) : Option Value) = vv
  have hx := cx.1
  have hb := cx.2.1
  have hown := cx.2.2.2.1
  have hts := cx.2.2.2.2
  obtain ⟨s1, s2, s3, s4, s5, s6⟩ := id hS
  have hb12 := Sok.b12 hS
  refine lv_aload_n hx hb dX11_look_0 rfl (lv_at hl 0 rfl) ?_
  refine lv_iload_n hx hb dX11_look_1 rfl (lv_at hl 1 rfl) ?_
  refine x_rdV (av := [.int (a)]) (rest := []) cx hk hw (hm.1) cv_RX11_137_10 (m_isA S m hm hS a) hl.1 rfl rfl (Nat.le_of_ble_eq_true rfl) ⟨by decide, by decide⟩ ⟨Nat.zero_le _, Nat.zero_le _⟩ dX11_look_2 ?_
  refine x_if_ne (tgt := 12) cx dX11_look_5 (by decide) (fun h5_1 => ?_) (fun h5_1 => ?_)
  · skip
    obtain ⟨a1, ha1, ha3⟩ := x_in_ex (n := sn S 1) (q := a) (by omega) (by assumption)
    rw [ha3] at hl
    obtain ⟨u1, u2, hA⟩ := s6 a1 ha1
    have hk4 := hA.1
    have hsp := m_sp_le hS ha1
    have hx12 := xor_lt s4 ha1
    have hpw : 2 ^ a1 < 2 ^ sn S 1 := Nat.pow_lt_pow_right (by decide) ha1
    refine lv_iload_n hx hb dX11_look_12 rfl (lv_at hl 2 rfl) ?_
    by_cases hs13_0 : w = 0
    · skip
      refine x_tin (v := 0) (tgt := 52) (off := 39) cx dX11_look_13 hs13_0 (by decide) (by decide) (by decide) (by decide) ?_
      refine lv_aload_n hx hb dX11_look_52 rfl (lv_at hl 0 rfl) ?_
      refine x_get cx hk hw (hm.1) f_RX11_59_10 rfl dX11_look_53 ?_
      refine lv_iload_n hx hb dX11_look_56 rfl (lv_at hl 1 rfl) ?_
      refine x_ialdN cx hk hw (hm.2 20 _ rfl) (by omega) (by decide) dX11_look_57 ?_
      refine x_i2lN cx dX11_look_58 (by omega) ?_
      exact x_lret cx hr hlk dX11_look_59 ((congrArg (fun z => some (Value.long z)) (show lN ((aA S a1).1 0) = P_look S a w from by rw [P_look, if_pos (by assumption), ha3, nI_clamp (by omega)]; rw [if_pos (by assumption)])).trans hvv)
    by_cases hs13_1 : w = 1
    · skip
      refine x_tin (v := 1) (tgt := 60) (off := 47) cx dX11_look_13 hs13_1 (by decide) (by decide) (by decide) (by decide) ?_
      refine lv_aload_n hx hb dX11_look_60 rfl (lv_at hl 0 rfl) ?_
      refine x_get cx hk hw (hm.1) f_RX11_62_10 rfl dX11_look_61 ?_
      refine lv_iload_n hx hb dX11_look_64 rfl (lv_at hl 1 rfl) ?_
      refine x_ialdN cx hk hw (hm.2 21 _ rfl) (by omega) (by decide) dX11_look_65 ?_
      refine x_i2lN cx dX11_look_66 (by omega) ?_
      exact x_lret cx hr hlk dX11_look_67 ((congrArg (fun z => some (Value.long z)) (show lN (ao S a1) = P_look S a w from by rw [P_look, if_pos (by assumption), ha3, nI_clamp (by omega)]; rw [if_neg (by assumption), if_pos (by assumption)])).trans hvv)
    by_cases hs13_2 : w = 2
    · skip
      refine x_tin (v := 2) (tgt := 68) (off := 55) cx dX11_look_13 hs13_2 (by decide) (by decide) (by decide) (by decide) ?_
      refine lv_aload_n hx hb dX11_look_68 rfl (lv_at hl 0 rfl) ?_
      refine lv_iload_n hx hb dX11_look_69 rfl (lv_at hl 1 rfl) ?_
      refine x_rdV (av := [.int (nI a1)]) (rest := []) cx hk hw (hm.1) cv_RX11_199_10 (m_roomOf S m hm hS hM a1 (by omega)) hl.1 rfl rfl (Nat.le_of_ble_eq_true rfl) ⟨by decide, by decide⟩ ⟨Nat.zero_le _, Nat.zero_le _⟩ dX11_look_70 ?_
      refine x_i2lN cx dX11_look_73 (by omega) ?_
      exact x_lret cx hr hlk dX11_look_74 ((congrArg (fun z => some (Value.long z)) (show lN (m_sp S a1) = P_look S a w from by rw [P_look, if_pos (by assumption), ha3, nI_clamp (by omega)]; rw [if_neg (by assumption), if_neg (by assumption), if_pos (by assumption)])).trans hvv)
    by_cases hs13_3 : w = 3
    · skip
      refine x_tin (v := 3) (tgt := 75) (off := 62) cx dX11_look_13 hs13_3 (by decide) (by decide) (by decide) (by decide) ?_
      refine lv_aload_n hx hb dX11_look_75 rfl (lv_at hl 0 rfl) ?_
      refine x_get cx hk hw (hm.1) f_RX11_140_10 rfl dX11_look_76 ?_
      refine lv_iload_n hx hb dX11_look_79 rfl (lv_at hl 1 rfl) ?_
      refine x_rdS (av := [.int (nI (sn S 2)), .int (nI a1)]) (rest := []) cx hk hw cs_RX11_97 (m_isIn (sn S 2) a1 (by omega) (by omega)) hl.1 rfl rfl (Nat.le_of_ble_eq_true rfl) ⟨by decide, by decide⟩ ⟨Nat.zero_le _, Nat.zero_le _⟩ dX11_look_80 ?_
      refine x_if_eq (tgt := 90) cx dX11_look_83 (by decide) (fun h83_2 => ?_) (fun h83_2 => ?_)
      · skip
        refine lv_lconst (v := lN 0) hx hb dX11_look_90 rfl ?_
        exact x_lret cx hr hlk dX11_look_91 ((congrArg (fun z => some (Value.long z)) (show lN 0 = P_look S a w from by rw [P_look, if_pos (by assumption), ha3, nI_clamp (by omega)]; rw [if_neg (by assumption), if_neg (by assumption), if_neg (by assumption), if_pos (by assumption)]; simp [*]; rfl)).trans hvv)
      · skip
        refine lv_lconst (v := lN 1) hx hb dX11_look_86 rfl ?_
        refine lv_goto (tgt := 91) hx hb dX11_look_87 (by decide) ?_
        exact x_lret cx hr hlk dX11_look_91 ((congrArg (fun z => some (Value.long z)) (show lN 1 = P_look S a w from by rw [P_look, if_pos (by assumption), ha3, nI_clamp (by omega)]; rw [if_neg (by assumption), if_neg (by assumption), if_neg (by assumption), if_pos (by assumption)]; simp [*]; rfl)).trans hvv)
    by_cases hs13_4 : w = 4
    · skip
      refine x_tin (v := 4) (tgt := 92) (off := 79) cx dX11_look_13 hs13_4 (by decide) (by decide) (by decide) (by decide) ?_
      refine lv_aload_n hx hb dX11_look_92 rfl (lv_at hl 0 rfl) ?_
      refine lv_iconst (v := nI 0) hx hb dX11_look_93 rfl ?_
      refine x_rdV (av := [.int (nI 0)]) (rest := []) cx hk hw (hm.1) cv_RX11_202_10 (m_total S m hm hS hM 0 (by omega)) hl.1 rfl rfl (Nat.le_of_ble_eq_true rfl) ⟨by decide, by decide⟩ ⟨Nat.zero_le _, Nat.zero_le _⟩ dX11_look_94 ?_
      refine lv_aload_n hx hb dX11_look_97 rfl (lv_at hl 0 rfl) ?_
      refine lv_iconst (v := nI 1) hx hb dX11_look_98 rfl ?_
      refine lv_iload_n hx hb dX11_look_99 rfl (lv_at hl 1 rfl) ?_
      refine x_ishlB cx (by omega) dX11_look_100 ?_
      refine x_rdV (av := [.int (nI (2 ^ a1))]) (rest := [.long (lN (m_tot S 0))]) cx hk hw (hm.1) cv_RX11_202_10 (m_total S m hm hS hM (2 ^ a1) (by omega)) hl.1 rfl rfl (Nat.le_of_ble_eq_true rfl) ⟨by decide, by decide⟩ ⟨Nat.zero_le _, Nat.zero_le _⟩ dX11_look_101 ?_
      refine lv_lsub hx hb dX11_look_104 ?_
      exact x_lret cx hr hlk dX11_look_105 ((congrArg (fun z => some (Value.long z)) (show (lN (m_tot S 0)) - (lN (m_tot S (2 ^ a1))) = P_look S a w from by rw [P_look, if_pos (by assumption), ha3, nI_clamp (by omega)]; rw [if_neg (by assumption), if_neg (by assumption), if_neg (by assumption), if_neg (by assumption), if_pos (by assumption)])).trans hvv)
    by_cases hs13_5 : w = 5
    · skip
      refine x_tin (v := 5) (tgt := 106) (off := 93) cx dX11_look_13 hs13_5 (by decide) (by decide) (by decide) (by decide) ?_
      refine lv_aload_n hx hb dX11_look_106 rfl (lv_at hl 0 rfl) ?_
      refine x_get cx hk hw (hm.1) f_RX11_140_10 rfl dX11_look_107 ?_
      refine lv_iload_n hx hb dX11_look_110 rfl (lv_at hl 1 rfl) ?_
      refine x_rdS (av := [.int (nI (sn S 2)), .int (nI a1)]) (rest := []) cx hk hw cs_RX11_97 (m_isIn (sn S 2) a1 (by omega) (by omega)) hl.1 rfl rfl (Nat.le_of_ble_eq_true rfl) ⟨by decide, by decide⟩ ⟨Nat.zero_le _, Nat.zero_le _⟩ dX11_look_111 ?_
      refine x_if_eq (tgt := 141) cx dX11_look_114 (by decide) (fun h114_3 => ?_) (fun h114_3 => ?_)
      · skip
        refine lv_ldc2 (v := (-1)) hx hb hown (hts _ w_1142) dX11_look_141 ?_
        exact x_lret cx hr hlk dX11_look_144 ((congrArg (fun z => some (Value.long z)) (show (-1) = P_look S a w from by rw [P_look, if_pos (by assumption), ha3, nI_clamp (by omega)]; rw [if_neg (by assumption), if_neg (by assumption), if_neg (by assumption), if_neg (by assumption), if_neg (by assumption), if_pos (by assumption)]; simp [*])).trans hvv)
      · skip
        refine lv_aload_n hx hb dX11_look_117 rfl (lv_at hl 0 rfl) ?_
        refine lv_aload_n hx hb dX11_look_118 rfl (lv_at hl 0 rfl) ?_
        refine x_get cx hk hw (hm.1) f_RX11_140_10 rfl dX11_look_119 ?_
        refine lv_iconst (v := nI 1) hx hb dX11_look_122 rfl ?_
        refine lv_iload_n hx hb dX11_look_123 rfl (lv_at hl 1 rfl) ?_
        refine x_ishlB cx (by omega) dX11_look_124 ?_
        refine x_ixorB cx dX11_look_125 ?_
        refine x_rdV (av := [.int (nI ((sn S 2) ^^^ (2 ^ a1)))]) (rest := []) cx hk hw (hm.1) cv_RX11_202_10 (m_total S m hm hS hM ((sn S 2) ^^^ (2 ^ a1)) (by omega)) hl.1 rfl rfl (Nat.le_of_ble_eq_true rfl) ⟨by decide, by decide⟩ ⟨Nat.zero_le _, Nat.zero_le _⟩ dX11_look_126 ?_
        refine lv_aload_n hx hb dX11_look_129 rfl (lv_at hl 0 rfl) ?_
        refine lv_aload_n hx hb dX11_look_130 rfl (lv_at hl 0 rfl) ?_
        refine x_get cx hk hw (hm.1) f_RX11_140_10 rfl dX11_look_131 ?_
        refine x_rdV (av := [.int (nI (sn S 2))]) (rest := [.long (lN (m_tot S ((sn S 2) ^^^ (2 ^ a1))))]) cx hk hw (hm.1) cv_RX11_202_10 (m_total S m hm hS hM (sn S 2) (by omega)) hl.1 rfl rfl (Nat.le_of_ble_eq_true rfl) ⟨by decide, by decide⟩ ⟨Nat.zero_le _, Nat.zero_le _⟩ dX11_look_134 ?_
        refine lv_lsub hx hb dX11_look_137 ?_
        refine lv_goto (tgt := 144) hx hb dX11_look_138 (by decide) ?_
        exact x_lret cx hr hlk dX11_look_144 ((congrArg (fun z => some (Value.long z)) (show (lN (m_tot S ((sn S 2) ^^^ (2 ^ a1)))) - (lN (m_tot S (sn S 2))) = P_look S a w from by rw [P_look, if_pos (by assumption), ha3, nI_clamp (by omega)]; rw [if_neg (by assumption), if_neg (by assumption), if_neg (by assumption), if_neg (by assumption), if_neg (by assumption), if_pos (by assumption)]; simp [*])).trans hvv)
    refine x_tout (tgt := 145) (lo := 0) (hi := 5) cx dX11_look_13 (by decide) (fun z h1 h2 => by rcases (show z = 0 ∨ z = 1 ∨ z = 2 ∨ z = 3 ∨ z = 4 ∨ z = 5 by omega) with rfl | rfl | rfl | rfl | rfl | rfl <;> (first | exact hs13_0 | exact hs13_1 | exact hs13_2 | exact hs13_3 | exact hs13_4 | exact hs13_5)) ?_
    refine lv_ldc2 (v := (-1)) hx hb hown (hts _ w_1142) dX11_look_145 ?_
    exact x_lret cx hr hlk dX11_look_148 ((congrArg (fun z => some (Value.long z)) (show (-1) = P_look S a w from by rw [P_look, if_pos (by assumption), ha3, nI_clamp (by omega)]; rw [if_neg (by assumption), if_neg (by assumption), if_neg (by assumption), if_neg (by assumption), if_neg (by assumption), if_neg (by assumption)])).trans hvv)
  · skip
    refine lv_ldc2 (v := (-1)) hx hb hown (hts _ w_1142) dX11_look_8 ?_
    exact x_lret cx hr hlk dX11_look_11 ((congrArg (fun z => some (Value.long z)) (show (-1) = P_look S a w from by simp [P_look, *])).trans hvv)
set_option maxHeartbeats 4000000 in
set_option maxRecDepth 100000 in
theorem m_ahead {l : Launch} {G : x_G} {lo : x_L} {co : x_C} (s t : Nat) (hs_ : s < 2 ^ 31) (ht_ : t < 2 ^ 31) : x_Rd l G lo co yX11_isAhead cX11_isAhead 3 (some .boolean) 3 [.int (nI s), .int (nI t)] (some (.int (bI (s_ahead s t)))) := by
  refine x_enter RX11 rfl (by decide) (Nat.le_of_ble_eq_true rfl) ?_
  intro pp ee ss mm bb mt cd ls cx hk hw hr hlk hl
  have hl : lv_has ls 3 [(0, .int (nI s)), (1, .int (nI t))] := hl
  generalize hav : ([.int (nI s), .int (nI t)] : List Value).toArray = av at cx ⊢
  generalize hvv : (some (.int (bI (s_ahead s t))) : Option Value) = vv
  have hx := cx.1
  have hb := cx.2.1
  have hown := cx.2.2.2.1
  have hts := cx.2.2.2.2
  have p1 := pop_le s
  have p2 := pop_le t
  refine lv_iload_n hx hb dX11_isAhead_0 rfl (lv_at hl 0 rfl) ?_
  refine x_rdS (av := [.int (nI s)]) (rest := []) cx hk hw cs_RX11_134 (m_size s (by omega)) hl.1 rfl rfl (Nat.le_of_ble_eq_true rfl) ⟨by decide, by decide⟩ ⟨Nat.zero_le _, Nat.zero_le _⟩ dX11_isAhead_1 ?_
  refine lv_iload_n hx hb dX11_isAhead_4 rfl (lv_at hl 1 rfl) ?_
  refine x_rdS (av := [.int (nI t)]) (rest := [.int (nI (pop s))]) cx hk hw cs_RX11_134 (m_size t (by omega)) hl.1 rfl rfl (Nat.le_of_ble_eq_true rfl) ⟨by decide, by decide⟩ ⟨Nat.zero_le _, Nat.zero_le _⟩ dX11_isAhead_5 ?_
  refine x_icmp_eq (tgt := 28) cx dX11_isAhead_8 (by decide) (by omega) (fun h8_1 => ?_) (fun h8_1 => ?_)
  · skip
    refine lv_iconst (v := nI 0) hx hb dX11_isAhead_28 rfl ?_
    refine lv_istore_n (lv' := [(2, .int (nI 0)), (0, .int (nI s)), (1, .int (nI t))]) hx hb dX11_isAhead_29 rfl hl (by decide) rfl (fun ls hl => ?_)
    have L30_2 : ∀ (n_ : Nat) (k : Nat), (k ≤ 12) → (∀ j, j < k → s.testBit j = t.testBit j) → 12 - k < n_ → ∀ (ls : Array Slot), lv_has ls 3 [(2, .int (nI k)), (0, .int (nI s)), (1, .int (nI t))] → x_w l 3 pp ee ss mm av bb mt cd vv 30 ls [] := by
      intro n_
      induction n_ with
      | zero => intro k hv hall hm_ ls hl; exact absurd hm_ (Nat.not_lt_zero _)
      | succ n_ ih30_2 =>
        intro k hv hall hm_ ls hl
        refine lv_iload_n hx hb dX11_isAhead_30 rfl (lv_at hl 0 rfl) ?_
        refine lv_bipush (v := nI 12) hx hb dX11_isAhead_31 rfl ?_
        refine x_icmp_ge (tgt := 55) cx dX11_isAhead_33 (by decide) (by omega) (fun h33_3 => ?_) (fun h33_3 => ?_)
        · skip
          refine lv_iload_n hx hb dX11_isAhead_55 rfl (lv_at hl 0 rfl) ?_
          refine lv_bipush (v := nI 12) hx hb dX11_isAhead_56 rfl ?_
          refine x_icmp_ge (tgt := 73) cx dX11_isAhead_58 (by decide) (by omega) (fun h58_4 => ?_) (fun h58_4 => ?_)
          · skip
            refine lv_iconst (v := nI 0) hx hb dX11_isAhead_73 rfl ?_
            exact x_zretF (b := s_ahead s t) cx hr hlk dX11_isAhead_74 (by first | (exfalso; omega) | skip; rw [s_ahead, if_pos (by assumption)]; first | (rw [s_dif_all (fun j hj => hall j (by omega))]; rfl) | (rw [s_dif_lt (k := k) (by omega) hall (fun w => (by assumption : ¬ bI (s.testBit k) = bI (t.testBit k)) (congrArg bI w))]; simp_all)) hvv
          · skip
            refine lv_iload_n hx hb dX11_isAhead_61 rfl (lv_at hl 1 rfl) ?_
            refine lv_iload_n hx hb dX11_isAhead_62 rfl (lv_at hl 0 rfl) ?_
            refine x_rdS (av := [.int (nI s), .int (nI k)]) (rest := []) cx hk hw cs_RX11_97 (m_isIn s k (by omega) (by omega)) hl.1 rfl rfl (Nat.le_of_ble_eq_true rfl) ⟨by decide, by decide⟩ ⟨Nat.zero_le _, Nat.zero_le _⟩ dX11_isAhead_63 ?_
            refine x_if_eq (tgt := 73) cx dX11_isAhead_66 (by decide) (fun h66_5 => ?_) (fun h66_5 => ?_)
            · skip
              refine lv_iconst (v := nI 0) hx hb dX11_isAhead_73 rfl ?_
              exact x_zretF (b := s_ahead s t) cx hr hlk dX11_isAhead_74 (by first | (exfalso; omega) | skip; rw [s_ahead, if_pos (by assumption)]; first | (rw [s_dif_all (fun j hj => hall j (by omega))]; rfl) | (rw [s_dif_lt (k := k) (by omega) hall (fun w => (by assumption : ¬ bI (s.testBit k) = bI (t.testBit k)) (congrArg bI w))]; simp_all)) hvv
            · skip
              refine lv_iconst (v := nI 1) hx hb dX11_isAhead_69 rfl ?_
              refine lv_goto (tgt := 74) hx hb dX11_isAhead_70 (by decide) ?_
              exact x_zretT (b := s_ahead s t) cx hr hlk dX11_isAhead_74 (by first | (exfalso; omega) | skip; rw [s_ahead, if_pos (by assumption)]; first | (rw [s_dif_all (fun j hj => hall j (by omega))]; rfl) | (rw [s_dif_lt (k := k) (by omega) hall (fun w => (by assumption : ¬ bI (s.testBit k) = bI (t.testBit k)) (congrArg bI w))]; simp_all)) hvv
        · skip
          refine lv_iload_n hx hb dX11_isAhead_36 rfl (lv_at hl 1 rfl) ?_
          refine lv_iload_n hx hb dX11_isAhead_37 rfl (lv_at hl 0 rfl) ?_
          refine x_rdS (av := [.int (nI s), .int (nI k)]) (rest := []) cx hk hw cs_RX11_97 (m_isIn s k (by omega) (by omega)) hl.1 rfl rfl (Nat.le_of_ble_eq_true rfl) ⟨by decide, by decide⟩ ⟨Nat.zero_le _, Nat.zero_le _⟩ dX11_isAhead_38 ?_
          refine lv_iload_n hx hb dX11_isAhead_41 rfl (lv_at hl 2 rfl) ?_
          refine lv_iload_n hx hb dX11_isAhead_42 rfl (lv_at hl 0 rfl) ?_
          refine x_rdS (av := [.int (nI t), .int (nI k)]) (rest := [.int (bI (s.testBit k))]) cx hk hw cs_RX11_97 (m_isIn t k (by omega) (by omega)) hl.1 rfl rfl (Nat.le_of_ble_eq_true rfl) ⟨by decide, by decide⟩ ⟨Nat.zero_le _, Nat.zero_le _⟩ dX11_isAhead_43 ?_
          refine lv_icmp_ne (tgt := 55) hx hb dX11_isAhead_46 (by decide) (fun h46_6 => ?_) (fun h46_6 => ?_)
          · skip
            refine lv_iload_n hx hb dX11_isAhead_55 rfl (lv_at hl 0 rfl) ?_
            refine lv_bipush (v := nI 12) hx hb dX11_isAhead_56 rfl ?_
            refine x_icmp_ge (tgt := 73) cx dX11_isAhead_58 (by decide) (by omega) (fun h58_7 => ?_) (fun h58_7 => ?_)
            · skip
              refine lv_iconst (v := nI 0) hx hb dX11_isAhead_73 rfl ?_
              exact x_zretF (b := s_ahead s t) cx hr hlk dX11_isAhead_74 (by first | (exfalso; omega) | skip; rw [s_ahead, if_pos (by assumption)]; first | (rw [s_dif_all (fun j hj => hall j (by omega))]; rfl) | (rw [s_dif_lt (k := k) (by omega) hall (fun w => (by assumption : ¬ bI (s.testBit k) = bI (t.testBit k)) (congrArg bI w))]; simp_all)) hvv
            · skip
              refine lv_iload_n hx hb dX11_isAhead_61 rfl (lv_at hl 1 rfl) ?_
              refine lv_iload_n hx hb dX11_isAhead_62 rfl (lv_at hl 0 rfl) ?_
              refine x_rdS (av := [.int (nI s), .int (nI k)]) (rest := []) cx hk hw cs_RX11_97 (m_isIn s k (by omega) (by omega)) hl.1 rfl rfl (Nat.le_of_ble_eq_true rfl) ⟨by decide, by decide⟩ ⟨Nat.zero_le _, Nat.zero_le _⟩ dX11_isAhead_63 ?_
              refine x_if_eq (tgt := 73) cx dX11_isAhead_66 (by decide) (fun h66_8 => ?_) (fun h66_8 => ?_)
              · skip
                refine lv_iconst (v := nI 0) hx hb dX11_isAhead_73 rfl ?_
                exact x_zretF (b := s_ahead s t) cx hr hlk dX11_isAhead_74 (by first | (exfalso; omega) | skip; rw [s_ahead, if_pos (by assumption)]; first | (rw [s_dif_all (fun j hj => hall j (by omega))]; rfl) | (rw [s_dif_lt (k := k) (by omega) hall (fun w => (by assumption : ¬ bI (s.testBit k) = bI (t.testBit k)) (congrArg bI w))]; simp_all)) hvv
              · skip
                refine lv_iconst (v := nI 1) hx hb dX11_isAhead_69 rfl ?_
                refine lv_goto (tgt := 74) hx hb dX11_isAhead_70 (by decide) ?_
                exact x_zretT (b := s_ahead s t) cx hr hlk dX11_isAhead_74 (by first | (exfalso; omega) | skip; rw [s_ahead, if_pos (by assumption)]; first | (rw [s_dif_all (fun j hj => hall j (by omega))]; rfl) | (rw [s_dif_lt (k := k) (by omega) hall (fun w => (by assumption : ¬ bI (s.testBit k) = bI (t.testBit k)) (congrArg bI w))]; simp_all)) hvv
          · skip
            refine lv_iinc (v := nI (k + 1)) (lv' := [(2, .int (nI (k + 1))), (0, .int (nI s)), (1, .int (nI t))]) hx hb dX11_isAhead_49 hl (k := 0) rfl (nI_add _ 1) (by decide) rfl (fun ls hl => ?_)
            refine lv_goto (tgt := 30) hx hb dX11_isAhead_52 (by decide) ?_
            exact ih30_2 (k + 1) (by omega) (by intro j hj; rcases Nat.lt_succ_iff_lt_or_eq.mp hj with w | w; exact hall j w; rw [w]; exact bI_inj (by assumption)) (by omega) _ (lv_sub hl [0, 1, 2] rfl)
    exact L30_2 (_ + 1) 0 (by omega) (by exact fun j h => absurd h (Nat.not_lt_zero j)) (Nat.lt_succ_self _) _ (lv_sub hl [0, 1, 2] rfl)
  · skip
    refine lv_iload_n hx hb dX11_isAhead_11 rfl (lv_at hl 0 rfl) ?_
    refine x_rdS (av := [.int (nI s)]) (rest := []) cx hk hw cs_RX11_134 (m_size s (by omega)) hl.1 rfl rfl (Nat.le_of_ble_eq_true rfl) ⟨by decide, by decide⟩ ⟨Nat.zero_le _, Nat.zero_le _⟩ dX11_isAhead_12 ?_
    refine lv_iload_n hx hb dX11_isAhead_15 rfl (lv_at hl 1 rfl) ?_
    refine x_rdS (av := [.int (nI t)]) (rest := [.int (nI (pop s))]) cx hk hw cs_RX11_134 (m_size t (by omega)) hl.1 rfl rfl (Nat.le_of_ble_eq_true rfl) ⟨by decide, by decide⟩ ⟨Nat.zero_le _, Nat.zero_le _⟩ dX11_isAhead_16 ?_
    refine x_icmp_ge (tgt := 26) cx dX11_isAhead_19 (by decide) (by omega) (fun h19_9 => ?_) (fun h19_9 => ?_)
    · skip
      refine lv_iconst (v := nI 0) hx hb dX11_isAhead_26 rfl ?_
      exact x_zretF (b := s_ahead s t) cx hr hlk dX11_isAhead_27 (by rw [s_ahead, if_neg (by assumption)]; simp; omega) hvv
    · skip
      refine lv_iconst (v := nI 1) hx hb dX11_isAhead_22 rfl ?_
      refine lv_goto (tgt := 27) hx hb dX11_isAhead_23 (by decide) ?_
      exact x_zretT (b := s_ahead s t) cx hr hlk dX11_isAhead_27 (by rw [s_ahead, if_neg (by assumption)]; simp; omega) hvv
set_option maxHeartbeats 4000000 in
set_option maxRecDepth 100000 in
theorem m_count_ {l : Launch} {G : x_G} {lo : x_L} {co : x_C} (S : St) (m : Nat → Nat → Int32) (hm : isM G lo co S m) (hS : Sok S) (w : Int32) : x_Rd l G lo co yX11_count cX11_count 4 (some .int) 1 [.ref (lo (0)), .int (w)] (some (.int (P_count S w))) := by
  refine x_enter RX11 rfl (by decide) (Nat.le_of_ble_eq_true rfl) ?_
  intro pp ee ss mm bb mt cd ls cx hk hw hr hlk hl
  have hl : lv_has ls 4 [(0, .ref (lo (0))), (1, .int (w))] := hl
  generalize hav : ([.ref (lo (0)), .int (w)] : List Value).toArray = av at cx ⊢
  generalize hvv : (some (.int (P_count S w)) : Option Value) = vv
  have hx := cx.1
  have hb := cx.2.1
  have hown := cx.2.2.2.1
  have hts := cx.2.2.2.2
  obtain ⟨s1, s2, s3, s4, s5, s6⟩ := id hS
  have hr60 : ∀ t, t < 4 → (sT S t).1 3 ≤ 60 ∧ (sT S t).1 1 ≤ 4 := fun t ht => (Nat.eq_zero_or_pos ((sT S t).1 1)).elim (fun z => by have := (s1 t ht).2 z; omega) (fun z => ⟨((s1 t ht).1 z).2.2.2.2.1, ((s1 t ht).1 z).2.1⟩)
  refine lv_iconst (v := nI 0) hx hb dX11_count_0 rfl ?_
  refine lv_istore_n (lv' := [(2, .int (nI 0)), (0, .ref (lo (0))), (1, .int (w))]) hx hb dX11_count_1 rfl hl (by decide) rfl (fun ls hl => ?_)
  refine lv_iload_n hx hb dX11_count_2 rfl (lv_at hl 2 rfl) ?_
  by_cases hs3_0 : w = 0
  · skip
    refine x_tin (v := 0) (tgt := 32) (off := 29) cx dX11_count_3 hs3_0 (by decide) (by decide) (by decide) (by decide) ?_
    refine lv_iconst (v := nI 0) hx hb dX11_count_32 rfl ?_
    refine lv_istore_n (lv' := [(3, .int (nI 0)), (2, .int (nI 0)), (0, .ref (lo (0))), (1, .int (w))]) hx hb dX11_count_33 rfl hl (by decide) rfl (fun ls hl => ?_)
    have L34_1 : ∀ (n_ : Nat) (f : Nat) (k : Nat), (k ≤ 4) → (f = cntN k (fun t => decide (0 < (sT S t).1 1))) → 4 - k < n_ → ∀ (ls : Array Slot), lv_has ls 4 [(3, .int (nI k)), (2, .int (nI f)), (0, .ref (lo (0))), (1, .int (w))] → x_w l 1 pp ee ss mm av bb mt cd vv 34 ls [] := by
      intro n_
      induction n_ with
      | zero => intro f k hv hf hm_ ls hl; exact absurd hm_ (Nat.not_lt_zero _)
      | succ n_ ih34_1 =>
        intro f k hv hf hm_ ls hl
        refine lv_iload_n hx hb dX11_count_34 rfl (lv_at hl 0 rfl) ?_
        refine lv_iconst (v := nI 4) hx hb dX11_count_35 rfl ?_
        refine x_icmp_ge (tgt := 62) cx dX11_count_36 (by decide) (by first | omega | (have hr6 := hr60 k (by omega); omega)) (fun h36_2 => ?_) (fun h36_2 => ?_)
        · skip
          refine lv_iload_n hx hb dX11_count_62 rfl (lv_at hl 1 rfl) ?_
          exact x_iret cx hr hlk dX11_count_63 ((congrArg (fun z => some (Value.int z)) (show nI f = P_count S w from by rw [P_count, if_pos (by assumption), hf, show k = 4 by omega])).trans hvv)
        · skip
          refine lv_iload_n hx hb dX11_count_39 rfl (lv_at hl 1 rfl) ?_
          refine lv_aload_n hx hb dX11_count_40 rfl (lv_at hl 2 rfl) ?_
          refine x_get cx hk hw (hm.1) f_RX11_7_10 rfl dX11_count_41 ?_
          refine lv_iload_n hx hb dX11_count_44 rfl (lv_at hl 0 rfl) ?_
          refine x_ialdN cx hk hw (hm.2 1 _ rfl) (by first | omega | (have hr6 := hr60 k (by omega); omega)) (by decide) dX11_count_45 ?_
          have J54_3 : ∀ (y3_s0 : Nat) (ey3_s0 : y3_s0 = if ((sT S k).1 1) = 0 then 0 else 1) (ls : Array Slot), lv_has ls 4 [(3, .int (nI k)), (2, .int (nI f)), (0, .ref (lo (0))), (1, .int (w))] → x_w l 1 pp ee ss mm av bb mt cd vv 54 ls [.int (nI y3_s0), .int (nI f)] := by
            intro y3_s0 ey3_s0 ls hl
            have dy3_s0 : (((sT S k).1 1) = 0 ∧ (y3_s0 = 0)) ∨ (¬ (((sT S k).1 1) = 0) ∧ (y3_s0 = 1)) := by rw [ey3_s0]; repeat' (first | (exact rfl) | (split <;> first | (refine Or.inl ⟨by assumption, ?_⟩) | (refine Or.inr ⟨by assumption, ?_⟩)))
            refine x_iaddN cx dX11_count_54 ?_
            refine lv_istore_n (lv' := [(2, .int (nI (f + y3_s0))), (3, .int (nI k)), (0, .ref (lo (0))), (1, .int (w))]) hx hb dX11_count_55 rfl hl (by decide) rfl (fun ls hl => ?_)
            refine lv_iinc (v := nI (k + 1)) (lv' := [(3, .int (nI (k + 1))), (2, .int (nI (f + y3_s0))), (0, .ref (lo (0))), (1, .int (w))]) hx hb dX11_count_56 hl (k := 1) rfl (nI_add _ 1) (by decide) rfl (fun ls hl => ?_)
            refine lv_goto (tgt := 34) hx hb dX11_count_59 (by decide) ?_
            exact ih34_1 (f + y3_s0) (k + 1) (by omega) (by rw [cntN, ← hf]; congr 1; rcases dy3_s0 with ⟨w1, w2⟩ | ⟨w1, w2⟩ <;> rw [w2] <;> simp <;> omega) (by omega) _ (lv_sub hl [0, 1, 2, 3] rfl)
          refine x_ifN_le (tgt := 53) cx dX11_count_46 (by decide) (by first | omega | (have hr6 := hr60 k (by omega); omega)) (fun h46_4 => ?_) (fun h46_4 => ?_)
          · skip
            refine lv_iconst (v := nI 0) hx hb dX11_count_53 rfl ?_
            exact J54_3 0 (by rw [if_pos h46_4]) _ (lv_sub hl [0, 1, 2, 3] rfl)
          · skip
            refine lv_iconst (v := nI 1) hx hb dX11_count_49 rfl ?_
            refine lv_goto (tgt := 54) hx hb dX11_count_50 (by decide) ?_
            exact J54_3 1 (by rw [if_neg h46_4]) _ (lv_sub hl [0, 1, 2, 3] rfl)
    exact L34_1 (_ + 1) 0 0 (by omega) (by rfl) (Nat.lt_succ_self _) _ (lv_sub hl [0, 1, 2, 3] rfl)
  by_cases hs3_1 : w = 1
  · skip
    refine x_tin (v := 1) (tgt := 64) (off := 61) cx dX11_count_3 hs3_1 (by decide) (by decide) (by decide) (by decide) ?_
    refine lv_aload_n hx hb dX11_count_64 rfl (lv_at hl 1 rfl) ?_
    refine x_get cx hk hw (hm.1) f_RX11_116_10 rfl dX11_count_65 ?_
    exact x_iret cx hr hlk dX11_count_68 ((congrArg (fun z => some (Value.int z)) (show nI (sn S 0) = P_count S w from by rw [P_count, if_neg (by assumption), if_pos (by assumption)])).trans hvv)
  by_cases hs3_2 : w = 2
  · skip
    refine x_tin (v := 2) (tgt := 69) (off := 66) cx dX11_count_3 hs3_2 (by decide) (by decide) (by decide) (by decide) ?_
    refine lv_aload_n hx hb dX11_count_69 rfl (lv_at hl 1 rfl) ?_
    refine x_get cx hk hw (hm.1) f_RX11_123_10 rfl dX11_count_70 ?_
    exact x_iret cx hr hlk dX11_count_73 ((congrArg (fun z => some (Value.int z)) (show nI (sn S 1) = P_count S w from by rw [P_count, if_neg (by assumption), if_neg (by assumption), if_pos (by assumption)])).trans hvv)
  by_cases hs3_3 : w = 3
  · skip
    refine x_tin (v := 3) (tgt := 74) (off := 71) cx dX11_count_3 hs3_3 (by decide) (by decide) (by decide) (by decide) ?_
    refine lv_iconst (v := nI 0) hx hb dX11_count_74 rfl ?_
    refine lv_istore_n (lv' := [(3, .int (nI 0)), (2, .int (nI 0)), (0, .ref (lo (0))), (1, .int (w))]) hx hb dX11_count_75 rfl hl (by decide) rfl (fun ls hl => ?_)
    have L76_5 : ∀ (n_ : Nat) (f : Nat) (k : Nat), (k ≤ 4) → (f = sumN k (fun t => (sT S t).1 3)) → 4 - k < n_ → ∀ (ls : Array Slot), lv_has ls 4 [(3, .int (nI k)), (2, .int (nI f)), (0, .ref (lo (0))), (1, .int (w))] → x_w l 1 pp ee ss mm av bb mt cd vv 76 ls [] := by
      intro n_
      induction n_ with
      | zero => intro f k hv hf hm_ ls hl; exact absurd hm_ (Nat.not_lt_zero _)
      | succ n_ ih76_5 =>
        intro f k hv hf hm_ ls hl
        refine lv_iload_n hx hb dX11_count_76 rfl (lv_at hl 0 rfl) ?_
        refine lv_iconst (v := nI 4) hx hb dX11_count_77 rfl ?_
        refine x_icmp_ge (tgt := 96) cx dX11_count_78 (by decide) (by first | omega | (have hr6 := hr60 k (by omega); omega)) (fun h78_6 => ?_) (fun h78_6 => ?_)
        · skip
          refine lv_iload_n hx hb dX11_count_96 rfl (lv_at hl 1 rfl) ?_
          exact x_iret cx hr hlk dX11_count_97 ((congrArg (fun z => some (Value.int z)) (show nI f = P_count S w from by rw [P_count, if_neg (by assumption), if_neg (by assumption), if_neg (by assumption), if_pos (by assumption), hf, show k = 4 by omega])).trans hvv)
        · skip
          refine lv_iload_n hx hb dX11_count_81 rfl (lv_at hl 1 rfl) ?_
          refine lv_aload_n hx hb dX11_count_82 rfl (lv_at hl 2 rfl) ?_
          refine x_get cx hk hw (hm.1) f_RX11_16_10 rfl dX11_count_83 ?_
          refine lv_iload_n hx hb dX11_count_86 rfl (lv_at hl 0 rfl) ?_
          refine x_ialdN cx hk hw (hm.2 3 _ rfl) (by first | omega | (have hr6 := hr60 k (by omega); omega)) (by decide) dX11_count_87 ?_
          refine x_iaddN cx dX11_count_88 ?_
          refine lv_istore_n (lv' := [(2, .int (nI (f + ((sT S k).1 3)))), (3, .int (nI k)), (0, .ref (lo (0))), (1, .int (w))]) hx hb dX11_count_89 rfl hl (by decide) rfl (fun ls hl => ?_)
          refine lv_iinc (v := nI (k + 1)) (lv' := [(3, .int (nI (k + 1))), (2, .int (nI (f + ((sT S k).1 3)))), (0, .ref (lo (0))), (1, .int (w))]) hx hb dX11_count_90 hl (k := 1) rfl (nI_add _ 1) (by decide) rfl (fun ls hl => ?_)
          refine lv_goto (tgt := 76) hx hb dX11_count_93 (by decide) ?_
          exact ih76_5 (f + ((sT S k).1 3)) (k + 1) (by omega) (by rw [sumN, ← hf]) (by omega) _ (lv_sub hl [0, 1, 2, 3] rfl)
    exact L76_5 (_ + 1) 0 0 (by omega) (by rfl) (Nat.lt_succ_self _) _ (lv_sub hl [0, 1, 2, 3] rfl)
  refine x_tout (tgt := 98) (lo := 0) (hi := 3) cx dX11_count_3 (by decide) (fun z h1 h2 => by rcases (show z = 0 ∨ z = 1 ∨ z = 2 ∨ z = 3 by omega) with rfl | rfl | rfl | rfl <;> (first | exact hs3_0 | exact hs3_1 | exact hs3_2 | exact hs3_3)) ?_
  refine lv_iconst (v := (-1)) hx hb dX11_count_98 rfl ?_
  exact x_iret cx hr hlk dX11_count_99 ((congrArg (fun z => some (Value.int z)) (show (-1) = P_count S w from by rw [P_count, if_neg (by assumption), if_neg (by assumption), if_neg (by assumption), if_neg (by assumption)])).trans hvv)
set_option maxHeartbeats 4000000 in
set_option maxRecDepth 100000 in
theorem m_counts_ {l : Launch} {G : x_G} {lo : x_L} {co : x_C} (S : St) (m : Nat → Nat → Int32) (hm : isM G lo co S m) (hS : Sok S) (t c w : Int32) : x_Rd l G lo co yX11_counts cX11_counts 4 (some .int) 4 [.ref (lo (0)), .int (t), .int (c), .int (w)] (some (.int (P_counts S t c w))) := by
  refine x_enter RX11 rfl (by decide) (Nat.le_of_ble_eq_true rfl) ?_
  intro pp ee ss mm bb mt cd ls cx hk hw hr hlk hl
  have hl : lv_has ls 4 [(0, .ref (lo (0))), (1, .int (t)), (2, .int (c)), (3, .int (w))] := hl
  generalize hav : ([.ref (lo (0)), .int (t), .int (c), .int (w)] : List Value).toArray = av at cx ⊢
  generalize hvv : (some (.int (P_counts S t c w)) : Option Value) = vv
  have hx := cx.1
  have hb := cx.2.1
  have hown := cx.2.2.2.1
  have hts := cx.2.2.2.2
  obtain ⟨s1, s2, s3, s4, s5, s6⟩ := id hS
  refine lv_aload_n hx hb dX11_counts_0 rfl (lv_at hl 0 rfl) ?_
  refine lv_iload_n hx hb dX11_counts_1 rfl (lv_at hl 1 rfl) ?_
  refine x_rdV (av := [.int (t)]) (rest := []) cx hk hw (hm.1) cv_RX11_93_10 (m_isTab S m hm hS t) hl.1 rfl rfl (Nat.le_of_ble_eq_true rfl) ⟨by decide, by decide⟩ ⟨Nat.zero_le _, Nat.zero_le _⟩ dX11_counts_2 ?_
  refine x_if_ne (tgt := 10) cx dX11_counts_5 (by decide) (fun h5_1 => ?_) (fun h5_1 => ?_)
  · skip
    obtain ⟨t1, ht1, ht2, ht3⟩ := m_isT_ex (by assumption)
    rw [ht3] at hl
    have hT := (s1 t1 ht1).1 ht2
    obtain ⟨k1, k2, k3, k4, k5, k6, k7, k8, k9, k0⟩ := id hT
    refine lv_iload_n hx hb dX11_counts_10 rfl (lv_at hl 3 rfl) ?_
    by_cases hs11_0 : w = 0
    · skip
      refine x_tin (v := 0) (tgt := 48) (off := 37) cx dX11_counts_11 hs11_0 (by decide) (by decide) (by decide) (by decide) ?_
      refine lv_aload_n hx hb dX11_counts_48 rfl (lv_at hl 0 rfl) ?_
      refine x_get cx hk hw (hm.1) f_RX11_22_10 rfl dX11_counts_49 ?_
      refine lv_iload_n hx hb dX11_counts_52 rfl (lv_at hl 1 rfl) ?_
      refine x_ialdN cx hk hw (hm.2 5 _ rfl) (by omega) (by decide) dX11_counts_53 ?_
      exact x_iret cx hr hlk dX11_counts_54 ((congrArg (fun z => some (Value.int z)) (show nI ((sT S t1).1 5) = P_counts S t c w from by rw [P_counts, if_pos (by assumption), ht3, nI_clamp (by omega)]; rw [if_pos (by assumption)])).trans hvv)
    by_cases hs11_1 : w = 1
    · skip
      refine x_tin (v := 1) (tgt := 55) (off := 44) cx dX11_counts_11 hs11_1 (by decide) (by decide) (by decide) (by decide) ?_
      refine lv_aload_n hx hb dX11_counts_55 rfl (lv_at hl 0 rfl) ?_
      refine lv_iload_n hx hb dX11_counts_56 rfl (lv_at hl 1 rfl) ?_
      refine x_rdV (av := [.int (nI t1)]) (rest := []) cx hk hw (hm.1) cv_RX11_109_10 (m_pages S m hm hS t1 (by first | assumption | omega) (by first | assumption | omega)) hl.1 rfl rfl (Nat.le_of_ble_eq_true rfl) ⟨by decide, by decide⟩ ⟨Nat.zero_le _, Nat.zero_le _⟩ dX11_counts_57 ?_
      exact x_iret cx hr hlk dX11_counts_60 ((congrArg (fun z => some (Value.int z)) (show nI (s_up ((sT S t1).1 5) ((sT S t1).1 2)) = P_counts S t c w from by rw [P_counts, if_pos (by assumption), ht3, nI_clamp (by omega)]; rw [if_neg (by assumption), if_pos (by assumption)])).trans hvv)
    by_cases hs11_2 : w = 2
    · skip
      refine x_tin (v := 2) (tgt := 61) (off := 50) cx dX11_counts_11 hs11_2 (by decide) (by decide) (by decide) (by decide) ?_
      refine lv_aload_n hx hb dX11_counts_61 rfl (lv_at hl 0 rfl) ?_
      refine lv_iload_n hx hb dX11_counts_62 rfl (lv_at hl 1 rfl) ?_
      refine lv_iload_n hx hb dX11_counts_63 rfl (lv_at hl 2 rfl) ?_
      refine x_rdV (av := [.int (nI t1), .int (c)]) (rest := []) cx hk hw (hm.1) cv_RX11_113_10 (m_isCol S m hm hS (nI t1) c) hl.1 rfl rfl (Nat.le_of_ble_eq_true rfl) ⟨by decide, by decide⟩ ⟨Nat.zero_le _, Nat.zero_le _⟩ dX11_counts_64 ?_
      refine x_if_eq (tgt := 83) cx dX11_counts_67 (by decide) (fun h67_2 => ?_) (fun h67_2 => ?_)
      · skip
        refine lv_iconst (v := (-1)) hx hb dX11_counts_83 rfl ?_
        exact x_iret cx hr hlk dX11_counts_84 ((congrArg (fun z => some (Value.int z)) (show (-1) = P_counts S t c w from by rw [P_counts, if_pos (by assumption), ht3, nI_clamp (by omega)]; rw [if_neg (by simp [*]), if_neg (by simp [*]), if_neg (by simp [*]), t_cc]; first | (rw [if_pos hcc, hc3, nI_clamp (by omega)]; simp [*]; done) | (rw [if_neg (fun w => by have w1 := (by assumption : m_isC S (nI t1) c = false); rw [m_isC, nI_clamp (by omega), w, m_isT_nI (by omega), decide_eq_true ⟨ht1, ht2⟩] at w1; exact absurd w1 (by decide))]))).trans hvv)
      · skip
        have hcc : t_has (sT S t1) c = true := by have w1 := (by assumption : m_isC S (nI t1) c = true); rw [m_isC, nI_clamp (by omega), Bool.and_eq_true] at w1; exact w1.2
        obtain ⟨c1, hc1, hc3⟩ := t_has_ex k2 hcc
        rw [hc3] at hl
        refine lv_aload_n hx hb dX11_counts_70 rfl (lv_at hl 0 rfl) ?_
        refine x_get cx hk hw (hm.1) f_RX11_25_10 rfl dX11_counts_71 ?_
        refine lv_iconst (v := nI 4) hx hb dX11_counts_74 rfl ?_
        refine lv_iload_n hx hb dX11_counts_75 rfl (lv_at hl 1 rfl) ?_
        refine x_imulN cx dX11_counts_76 ?_
        refine lv_iload_n hx hb dX11_counts_77 rfl (lv_at hl 2 rfl) ?_
        refine x_iaddN cx dX11_counts_78 ?_
        refine x_ialdE (x := nI ((sT S t1).2 1 c1)) cx hk hw (hm.2 6 _ rfl) (by omega) (by decide) (by rw [(dm4 (t := t1) (c := c1) (by omega)).1, (dm4 (t := t1) (c := c1) (by omega)).2]) dX11_counts_79 ?_
        refine lv_goto (tgt := 84) hx hb dX11_counts_80 (by decide) ?_
        exact x_iret cx hr hlk dX11_counts_84 ((congrArg (fun z => some (Value.int z)) (show nI ((sT S t1).2 1 c1) = P_counts S t c w from by rw [P_counts, if_pos (by assumption), ht3, nI_clamp (by omega)]; rw [if_neg (by simp [*]), if_neg (by simp [*]), if_neg (by simp [*]), t_cc]; first | (rw [if_pos hcc, hc3, nI_clamp (by omega)]; simp [*]; done) | (rw [if_neg (fun w => by have w1 := (by assumption : m_isC S (nI t1) c = false); rw [m_isC, nI_clamp (by omega), w, m_isT_nI (by omega), decide_eq_true ⟨ht1, ht2⟩] at w1; exact absurd w1 (by decide))]))).trans hvv)
    by_cases hs11_3 : w = 3
    · skip
      refine x_tin (v := 3) (tgt := 85) (off := 74) cx dX11_counts_11 hs11_3 (by decide) (by decide) (by decide) (by decide) ?_
      refine lv_aload_n hx hb dX11_counts_85 rfl (lv_at hl 0 rfl) ?_
      refine lv_iload_n hx hb dX11_counts_86 rfl (lv_at hl 1 rfl) ?_
      refine lv_iload_n hx hb dX11_counts_87 rfl (lv_at hl 2 rfl) ?_
      refine x_rdV (av := [.int (nI t1), .int (c)]) (rest := []) cx hk hw (hm.1) cv_RX11_113_10 (m_isCol S m hm hS (nI t1) c) hl.1 rfl rfl (Nat.le_of_ble_eq_true rfl) ⟨by decide, by decide⟩ ⟨Nat.zero_le _, Nat.zero_le _⟩ dX11_counts_88 ?_
      refine x_if_eq (tgt := 107) cx dX11_counts_91 (by decide) (fun h91_3 => ?_) (fun h91_3 => ?_)
      · skip
        refine lv_iconst (v := (-1)) hx hb dX11_counts_107 rfl ?_
        exact x_iret cx hr hlk dX11_counts_108 ((congrArg (fun z => some (Value.int z)) (show (-1) = P_counts S t c w from by rw [P_counts, if_pos (by assumption), ht3, nI_clamp (by omega)]; rw [if_neg (by simp [*]), if_neg (by simp [*]), if_neg (by simp [*]), t_cc]; first | (rw [if_pos hcc, hc3, nI_clamp (by omega)]; simp [*]; done) | (rw [if_neg (fun w => by have w1 := (by assumption : m_isC S (nI t1) c = false); rw [m_isC, nI_clamp (by omega), w, m_isT_nI (by omega), decide_eq_true ⟨ht1, ht2⟩] at w1; exact absurd w1 (by decide))]))).trans hvv)
      · skip
        have hcc : t_has (sT S t1) c = true := by have w1 := (by assumption : m_isC S (nI t1) c = true); rw [m_isC, nI_clamp (by omega), Bool.and_eq_true] at w1; exact w1.2
        obtain ⟨c1, hc1, hc3⟩ := t_has_ex k2 hcc
        rw [hc3] at hl
        refine lv_aload_n hx hb dX11_counts_94 rfl (lv_at hl 0 rfl) ?_
        refine x_get cx hk hw (hm.1) f_RX11_28_10 rfl dX11_counts_95 ?_
        refine lv_iconst (v := nI 4) hx hb dX11_counts_98 rfl ?_
        refine lv_iload_n hx hb dX11_counts_99 rfl (lv_at hl 1 rfl) ?_
        refine x_imulN cx dX11_counts_100 ?_
        refine lv_iload_n hx hb dX11_counts_101 rfl (lv_at hl 2 rfl) ?_
        refine x_iaddN cx dX11_counts_102 ?_
        refine x_ialdE (x := nI ((sT S t1).2 2 c1)) cx hk hw (hm.2 7 _ rfl) (by omega) (by decide) (by rw [(dm4 (t := t1) (c := c1) (by omega)).1, (dm4 (t := t1) (c := c1) (by omega)).2]) dX11_counts_103 ?_
        refine lv_goto (tgt := 108) hx hb dX11_counts_104 (by decide) ?_
        exact x_iret cx hr hlk dX11_counts_108 ((congrArg (fun z => some (Value.int z)) (show nI ((sT S t1).2 2 c1) = P_counts S t c w from by rw [P_counts, if_pos (by assumption), ht3, nI_clamp (by omega)]; rw [if_neg (by simp [*]), if_neg (by simp [*]), if_neg (by simp [*]), t_cc]; first | (rw [if_pos hcc, hc3, nI_clamp (by omega)]; simp [*]; done) | (rw [if_neg (fun w => by have w1 := (by assumption : m_isC S (nI t1) c = false); rw [m_isC, nI_clamp (by omega), w, m_isT_nI (by omega), decide_eq_true ⟨ht1, ht2⟩] at w1; exact absurd w1 (by decide))]))).trans hvv)
    by_cases hs11_4 : w = 4
    · skip
      refine x_tin (v := 4) (tgt := 109) (off := 98) cx dX11_counts_11 hs11_4 (by decide) (by decide) (by decide) (by decide) ?_
      refine lv_aload_n hx hb dX11_counts_109 rfl (lv_at hl 0 rfl) ?_
      refine lv_iload_n hx hb dX11_counts_110 rfl (lv_at hl 1 rfl) ?_
      refine lv_iload_n hx hb dX11_counts_111 rfl (lv_at hl 2 rfl) ?_
      refine x_rdV (av := [.int (nI t1), .int (c)]) (rest := []) cx hk hw (hm.1) cv_RX11_113_10 (m_isCol S m hm hS (nI t1) c) hl.1 rfl rfl (Nat.le_of_ble_eq_true rfl) ⟨by decide, by decide⟩ ⟨Nat.zero_le _, Nat.zero_le _⟩ dX11_counts_112 ?_
      refine x_if_eq (tgt := 131) cx dX11_counts_115 (by decide) (fun h115_4 => ?_) (fun h115_4 => ?_)
      · skip
        refine lv_iconst (v := (-1)) hx hb dX11_counts_131 rfl ?_
        exact x_iret cx hr hlk dX11_counts_132 ((congrArg (fun z => some (Value.int z)) (show (-1) = P_counts S t c w from by rw [P_counts, if_pos (by assumption), ht3, nI_clamp (by omega)]; rw [if_neg (by simp [*]), if_neg (by simp [*]), if_neg (by simp [*]), t_cc]; first | (rw [if_pos hcc, hc3, nI_clamp (by omega)]; simp [*]; done) | (rw [if_neg (fun w => by have w1 := (by assumption : m_isC S (nI t1) c = false); rw [m_isC, nI_clamp (by omega), w, m_isT_nI (by omega), decide_eq_true ⟨ht1, ht2⟩] at w1; exact absurd w1 (by decide))]))).trans hvv)
      · skip
        have hcc : t_has (sT S t1) c = true := by have w1 := (by assumption : m_isC S (nI t1) c = true); rw [m_isC, nI_clamp (by omega), Bool.and_eq_true] at w1; exact w1.2
        obtain ⟨c1, hc1, hc3⟩ := t_has_ex k2 hcc
        rw [hc3] at hl
        refine lv_aload_n hx hb dX11_counts_118 rfl (lv_at hl 0 rfl) ?_
        refine x_get cx hk hw (hm.1) f_RX11_31_10 rfl dX11_counts_119 ?_
        refine lv_iconst (v := nI 4) hx hb dX11_counts_122 rfl ?_
        refine lv_iload_n hx hb dX11_counts_123 rfl (lv_at hl 1 rfl) ?_
        refine x_imulN cx dX11_counts_124 ?_
        refine lv_iload_n hx hb dX11_counts_125 rfl (lv_at hl 2 rfl) ?_
        refine x_iaddN cx dX11_counts_126 ?_
        refine x_ialdE (x := nI ((sT S t1).2 3 c1)) cx hk hw (hm.2 8 _ rfl) (by omega) (by decide) (by rw [(dm4 (t := t1) (c := c1) (by omega)).1, (dm4 (t := t1) (c := c1) (by omega)).2]) dX11_counts_127 ?_
        refine lv_goto (tgt := 132) hx hb dX11_counts_128 (by decide) ?_
        exact x_iret cx hr hlk dX11_counts_132 ((congrArg (fun z => some (Value.int z)) (show nI ((sT S t1).2 3 c1) = P_counts S t c w from by rw [P_counts, if_pos (by assumption), ht3, nI_clamp (by omega)]; rw [if_neg (by simp [*]), if_neg (by simp [*]), if_neg (by simp [*]), t_cc]; first | (rw [if_pos hcc, hc3, nI_clamp (by omega)]; simp [*]; done) | (rw [if_neg (fun w => by have w1 := (by assumption : m_isC S (nI t1) c = false); rw [m_isC, nI_clamp (by omega), w, m_isT_nI (by omega), decide_eq_true ⟨ht1, ht2⟩] at w1; exact absurd w1 (by decide))]))).trans hvv)
    by_cases hs11_5 : w = 5
    · skip
      refine x_tin (v := 5) (tgt := 133) (off := 122) cx dX11_counts_11 hs11_5 (by decide) (by decide) (by decide) (by decide) ?_
      refine lv_aload_n hx hb dX11_counts_133 rfl (lv_at hl 0 rfl) ?_
      refine x_get cx hk hw (hm.1) f_RX11_16_10 rfl dX11_counts_134 ?_
      refine lv_iload_n hx hb dX11_counts_137 rfl (lv_at hl 1 rfl) ?_
      refine x_ialdN cx hk hw (hm.2 3 _ rfl) (by omega) (by decide) dX11_counts_138 ?_
      exact x_iret cx hr hlk dX11_counts_139 ((congrArg (fun z => some (Value.int z)) (show nI ((sT S t1).1 3) = P_counts S t c w from by rw [P_counts, if_pos (by assumption), ht3, nI_clamp (by omega)]; rw [if_neg (by simp [*]), if_neg (by simp [*]), if_pos (by assumption)])).trans hvv)
    refine x_tout (tgt := 140) (lo := 0) (hi := 5) cx dX11_counts_11 (by decide) (fun z h1 h2 => by rcases (show z = 0 ∨ z = 1 ∨ z = 2 ∨ z = 3 ∨ z = 4 ∨ z = 5 by omega) with rfl | rfl | rfl | rfl | rfl | rfl <;> (first | exact hs11_0 | exact hs11_1 | exact hs11_2 | exact hs11_3 | exact hs11_4 | exact hs11_5)) ?_
    refine lv_iconst (v := (-1)) hx hb dX11_counts_140 rfl ?_
    exact x_iret cx hr hlk dX11_counts_141 ((congrArg (fun z => some (Value.int z)) (show (-1) = P_counts S t c w from by rw [P_counts, if_pos (by assumption), ht3, nI_clamp (by omega)]; rw [if_neg (by assumption), if_neg (by assumption), if_neg (by assumption), t_cc]; split <;> simp [*])).trans hvv)
  · skip
    refine lv_iconst (v := (-1)) hx hb dX11_counts_8 rfl ?_
    exact x_iret cx hr hlk dX11_counts_9 ((congrArg (fun z => some (Value.int z)) (show (-1) = P_counts S t c w from by simp [P_counts, *])).trans hvv)
