set_option maxHeartbeats 4000000 in
set_option maxRecDepth 100000 in
theorem g_load {l : Launch} {G : x_G} {lo : x_L} {co : x_C} (dd : Nat) (S : St) (X : Sc) (hd : isDk G lo co dd S X) (hj : x_J lo co) (hS : Sok S) : x_Wr l G lo (co) yX7_load cX7_load 8 none 7 0 0 [.ref (lo (6)), .ref (lo (2)), .ref (lo (4))] (fun (v : Option Value) (lo1 : x_L) (co1 : x_C) => v = none ∧ lo1 = lo ∧ ofr co co1 6 47 ∧ ∃ X1, isDk G lo co1 dd S X1 ∧ Lok S X1 ∧ Lrow S X1 0 (fun q => m_plain S q)) := by
  refine x_wenter RX7 rfl (by decide) (Nat.le_of_ble_eq_true rfl) ?_
  intro pp ee ss mm bb mt cd ls AA cx hk hW hA hr hlk hnm hl
  have hl : lv_has ls 8 [(0, .ref (lo (6))), (1, .ref (lo (2))), (2, .ref (lo (4)))] := hl
  generalize hav : ([.ref (lo (6)), .ref (lo (2)), .ref (lo (4))] : List Value).toArray = av at cx ⊢
  generalize hpo : (fun (v : Option Value) (lo1 : x_L) (co1 : x_C) => v = none ∧ lo1 = lo ∧ ofr co co1 6 47 ∧ ∃ X1, isDk G lo co1 dd S X1 ∧ Lok S X1 ∧ Lrow S X1 0 (fun q => m_plain S q)) = po
  have hx := cx.1
  have hb := cx.2.1
  have hown := cx.2.2.2.1
  have hts := cx.2.2.2.2
  have hw := hW.1
  suffices key_ : ∀ (H : Heap) (locs : List Loc), x_D AA G ss.heap lo (co) H locs → x_ww l 7 0 0 pp ee ss mm av bb mt cd G po AA H locs 0 0 0 ls [] from key_ _ _ hW
  intro H locs hW
  have hw := hW.1
  obtain ⟨s1, s2, s3, s4, s5, s6⟩ := id hS
  obtain ⟨ft, hf1, hft⟩ := hd.2.1
  obtain ⟨mcq, evq, hq0⟩ := hd.L2.obj
  obtain ⟨mca, eva, ha0⟩ := hd.L4.obj
  have hs0 := hd.sc
  refine lv_aload_n hx hb dX7_load_0 rfl (lv_at hl 0 rfl) ?_
  refine lv_aload_n hx hb dX7_load_1 rfl (lv_at hl 1 rfl) ?_
  refine x_rdV (av := []) (rest := [.ref (lo (6))]) cx hk hw (hq0) cv_RX7_32_0 (l_size 2 mcq evq (sn S 0) hq0) hl.1 rfl rfl (Nat.le_of_ble_eq_true rfl) ⟨by decide, by decide⟩ ⟨Nat.zero_le _, Nat.zero_le _⟩ dX7_load_2 ?_
  refine lv_bipush (v := nI 24) hx hb dX7_load_5 rfl ?_
  refine x_mmin cx hl.1 w_606 (by omega) w_244 w_8 w_245 ⟨Nat.le_of_ble_eq_true rfl, Nat.le_of_ble_eq_true rfl⟩ ⟨Nat.zero_le _, Nat.zero_le _⟩ dX7_load_7 ?_
  rw [show min (sn S 0) 24 = sn S 0 from Nat.min_eq_left (by omega)]
  refine sc_pf0 cx hk hW hs0 p_RX7_44_6 dX7_load_10 (fun co1 H locs hs1 ho1 hW => ?_)
  have hw := hW.1
  have hd := dk_X hd hs1 ho1
  have hj : x_J lo _ := hW.2.1.1
  obtain ⟨ft, hf1, hft⟩ := hd.2.1
  obtain ⟨mcq, evq, hq0⟩ := hd.L2.obj
  obtain ⟨mca, eva, ha0⟩ := hd.L4.obj
  refine lv_aload_n hx hb dX7_load_13 rfl (lv_at hl 0 rfl) ?_
  refine lv_aload_n hx hb dX7_load_14 rfl (lv_at hl 2 rfl) ?_
  refine x_rdV (av := []) (rest := [.ref (lo (6))]) cx hk hw (ha0) cv_RX7_32_0 (l_size 4 mca eva (sn S 1) ha0) hl.1 rfl rfl (Nat.le_of_ble_eq_true rfl) ⟨by decide, by decide⟩ ⟨Nat.zero_le _, Nat.zero_le _⟩ dX7_load_15 ?_
  refine lv_bipush (v := nI 12) hx hb dX7_load_18 rfl ?_
  refine x_mmin cx hl.1 w_606 (by omega) w_244 w_8 w_245 ⟨Nat.le_of_ble_eq_true rfl, Nat.le_of_ble_eq_true rfl⟩ ⟨Nat.zero_le _, Nat.zero_le _⟩ dX7_load_20 ?_
  rw [show min (sn S 1) 12 = sn S 1 from Nat.min_eq_left (by omega)]
  refine sc_pf1 cx hk hW hs1 p_RX7_48_6 dX7_load_23 (fun co2 H locs hs2 ho2 hW => ?_)
  have hw := hW.1
  have hd := dk_X hd hs2 ho2
  have hj : x_J lo _ := hW.2.1.1
  obtain ⟨ft, hf1, hft⟩ := hd.2.1
  obtain ⟨mcq, evq, hq0⟩ := hd.L2.obj
  obtain ⟨mca, eva, ha0⟩ := hd.L4.obj
  refine lv_iconst (v := nI 0) hx hb dX7_load_26 rfl ?_
  refine lv_istore_n (lv' := [(3, .int (nI 0)), (0, .ref (lo (6))), (1, .ref (lo (2))), (2, .ref (lo (4)))]) hx hb dX7_load_27 rfl hl (by decide) rfl (fun ls hl => ?_)
  have L28_3 : ∀ (n_ : Nat) (q : Nat) (X1 : Sc) (cw3 : x_C), (q ≤ sn S 0) → (isDk G lo cw3 dd S X1) → (L1 S X1 q) → (ofr co cw3 6 47) → sn S 0 - q < n_ → ∀ (H : Heap) (locs : List Loc) (ls : Array Slot), x_D AA G ss.heap lo cw3 H locs → lv_has ls 8 [(3, .int (nI q)), (0, .ref (lo (6))), (1, .ref (lo (2))), (2, .ref (lo (4)))] → x_ww l 7 0 0 pp ee ss mm av bb mt cd G po AA H locs 0 0 28 ls [] := by
    intro n_
    induction n_ with
    | zero => intro q X1 cw3 hv hd hp1 hof hm_ H locs ls hW hl; exact absurd hm_ (Nat.not_lt_zero _)
    | succ n_ ih28_3 =>
      intro q X1 cw3 hv hd hp1 hof hm_3 H locs ls hW hl
      have hw := hW.1
      have hj : x_J lo _ := hW.2.1.1
      obtain ⟨ft, hf1, hft⟩ := hd.2.1
      obtain ⟨mcq, evq, hq0⟩ := hd.L2.obj
      obtain ⟨mca, eva, ha0⟩ := hd.L4.obj
      have hs1 := hd.sc
      have h61 := sc6 hd.sc hp1.1 hp1.2.1
      obtain ⟨f81, hc81, hf81⟩ := hd.sc.2.2.1
      obtain ⟨f121, hc121, hf121⟩ := hd.sc.2.2.2.2.2.2.1
      refine lv_iload_n hx hb dX7_load_28 rfl (lv_at hl 0 rfl) ?_
      refine lv_aload_n hx hb dX7_load_29 rfl (lv_at hl 1 rfl) ?_
      refine x_get (v := .int (nI (sn S 0))) cx hk hw (h61) f_RX7_44_6 rfl dX7_load_30 ?_
      refine x_icmp_ge (tgt := 81) cx dX7_load_33 (by decide) (by omega) (fun h33_4 => ?_) (fun h33_4 => ?_)
      · skip
        refine lv_iconst (v := nI 0) hx hb dX7_load_81 rfl ?_
        refine lv_istore_n (lv' := [(3, .int (nI 0)), (0, .ref (lo (6))), (1, .ref (lo (2))), (2, .ref (lo (4)))]) hx hb dX7_load_82 rfl hl (by decide) rfl (fun ls hl => ?_)
        have L83_5 : ∀ (n_ : Nat) (a : Nat) (X1 : Sc) (cw5 : x_C), (a ≤ sn S 1) → (isDk G lo cw5 dd S X1) → (L2 S X1 a) → (ofr co cw5 6 47) → sn S 1 - a < n_ → ∀ (H : Heap) (locs : List Loc) (ls : Array Slot), x_D AA G ss.heap lo cw5 H locs → lv_has ls 8 [(3, .int (nI a)), (0, .ref (lo (6))), (1, .ref (lo (2))), (2, .ref (lo (4)))] → x_ww l 7 0 0 pp ee ss mm av bb mt cd G po AA H locs 0 0 83 ls [] := by
          intro n_
          induction n_ with
          | zero => intro a X1 cw5 hv2 hd hp2 hof hm_ H locs ls hW hl; exact absurd hm_ (Nat.not_lt_zero _)
          | succ n_ ih83_5 =>
            intro a X1 cw5 hv2 hd hp2 hof hm_5 H locs ls hW hl
            have hw := hW.1
            have hj : x_J lo _ := hW.2.1.1
            obtain ⟨ft, hf1, hft⟩ := hd.2.1
            obtain ⟨mcq, evq, hq0⟩ := hd.L2.obj
            obtain ⟨mca, eva, ha0⟩ := hd.L4.obj
            have hs1 := hd.sc
            have h61 := sc6 hd.sc hp2.1.1 hp2.1.2.1
            obtain ⟨f81, hc81, hf81⟩ := hd.sc.2.2.1
            obtain ⟨f121, hc121, hf121⟩ := hd.sc.2.2.2.2.2.2.1
            have hrow0 : Lrow S X1 0 (fun q => m_plain S q) := fun q hq => (hp2.1.2.2 q hq).2
            refine lv_iload_n hx hb dX7_load_83 rfl (lv_at hl 0 rfl) ?_
            refine lv_aload_n hx hb dX7_load_84 rfl (lv_at hl 1 rfl) ?_
            refine x_get (v := .int (nI (sn S 1))) cx hk hw (h61) f_RX7_48_6 rfl dX7_load_85 ?_
            refine x_icmp_ge (tgt := 241) cx dX7_load_88 (by decide) (by omega) (fun h88_6 => ?_) (fun h88_6 => ?_)
            · skip
              exact y_vret cx hW hr hlk ⟨by decide, by decide⟩ dX7_load_241 (by rw [← hpo]; exact ⟨rfl, rfl, hof, X1, hd, L2_e hp2 (by omega)⟩)
            · skip
              refine lv_aload_n hx hb dX7_load_91 rfl (lv_at hl 3 rfl) ?_
              refine lv_iload_n hx hb dX7_load_92 rfl (lv_at hl 0 rfl) ?_
              refine x_rdV (av := [.int (nI a)]) (rest := []) cx hk hw ha0 cv_RX7_51_0 (l_get dd 4 5 (sn S 1) _ hd.L4 a (by omega) (by omega)) hl.1 rfl rfl (Nat.le_of_ble_eq_true rfl) ⟨by decide, by decide⟩ ⟨Nat.zero_le _, Nat.zero_le _⟩ dX7_load_93 ?_
              obtain ⟨u1_93_7, u2_93_7, hAa_93_7⟩ := s6 a (by omega)
              have hTa_93_7 := (s1 _ u1_93_7).1 u2_93_7
              have hta_93_7 := hd.T u1_93_7 u2_93_7
              have had_93_7 := hd.A (a := a) (by omega)
              have hBa_93_7 := aok_bA (S := S) hAa_93_7
              have hA4_93_7 := hAa_93_7.1
              refine ac_RX7_69 cx hk hw had_93_7 dX7_load_96 ?_
              refine lv_astore (lv' := [(4, .ref (lo (tA a))), (3, .int (nI a)), (0, .ref (lo (6))), (1, .ref (lo (2))), (2, .ref (lo (4)))]) hx hb dX7_load_99 hl (by decide) rfl (fun ls hl => ?_)
              refine lv_aload_n hx hb dX7_load_101 rfl (lv_at hl 2 rfl) ?_
              refine x_get (v := .ref (lo (9))) cx hk hw (h61) f_RX7_20_6 rfl dX7_load_102 ?_
              refine lv_iload_n hx hb dX7_load_105 rfl (lv_at hl 1 rfl) ?_
              refine lv_aload hx hb dX7_load_106 (lv_at hl 0 rfl) ?_
              refine av_RX7_71 cx hk hw had_93_7 hta_93_7 hTa_93_7 hBa_93_7 hl.1 (Nat.le_of_ble_eq_true rfl) ⟨by decide, by decide⟩ ⟨Nat.zero_le _, Nat.zero_le _⟩ dX7_load_108 ?_
              rw [show nI (a_space (sT S (ao S a)) (bA S a)) = nI (m_sp S a) from rfl]
              have hspl := m_sp_le hS (a := a) (by omega)
              refine sc_st1 cx hk hW hd.sc (by omega) dX7_load_111 (fun co8 H locs hs8 ho8 hW => ?_)
              have hw := hW.1
              have hd := dk_X hd hs8 ho8
              have hj : x_J lo _ := hW.2.1.1
              obtain ⟨ft, hf1, hft⟩ := hd.2.1
              obtain ⟨mcq, evq, hq0⟩ := hd.L2.obj
              obtain ⟨mca, eva, ha0⟩ := hd.L4.obj
              have h68 := sc6 hs8 hp2.1.1 hp2.1.2.1
              obtain ⟨f88, hc88, hf88⟩ := hs8.2.2.1
              obtain ⟨f128, hc128, hf128⟩ := hs8.2.2.2.2.2.2.1
              have hrow0 : Lrow S (sX X1 (1) (upd (X1.2.2 (1)) a (nI (m_sp S a)))) 0 (fun q => m_plain S q) := fun q hq => by rw [sX_ne (by omega)]; exact hrow0 q hq
              obtain ⟨u1_93_7, u2_93_7, hAa_93_7⟩ := s6 a (by omega)
              have hTa_93_7 := (s1 _ u1_93_7).1 u2_93_7
              have hta_93_7 := hd.T u1_93_7 u2_93_7
              have had_93_7 := hd.A (a := a) (by omega)
              have hBa_93_7 := aok_bA (S := S) hAa_93_7
              have hA4_93_7 := hAa_93_7.1
              refine lv_aload_n hx hb dX7_load_112 rfl (lv_at hl 2 rfl) ?_
              refine x_get (v := .ref (lo (10))) cx hk hw (h68) f_RX7_23_6 rfl dX7_load_113 ?_
              refine lv_iload_n hx hb dX7_load_116 rfl (lv_at hl 1 rfl) ?_
              refine lv_aload hx hb dX7_load_117 (lv_at hl 0 rfl) ?_
              refine av_RX7_74 cx hk hw had_93_7 hta_93_7 hTa_93_7 hBa_93_7 hl.1 (Nat.le_of_ble_eq_true rfl) ⟨by decide, by decide⟩ ⟨Nat.zero_le _, Nat.zero_le _⟩ dX7_load_119 ?_
              rw [keep_bA]
              refine lv_aload hx hb dX7_load_122 (lv_at hl 0 rfl) ?_
              refine ag_RX7_77 cx hk hw had_93_7 dX7_load_124 ?_
              refine x_get (v := .int (nI ((sT S (ao S a)).1 4))) cx hk hw (hta_93_7.1) f_RX7_78_8 rfl dX7_load_127 ?_
              refine x_imulN cx dX7_load_130 ?_
              rw [show a_keep (aA S a) * (sT S (ao S a)).1 4 = m_kc S a from rfl]
              refine sc_st2 cx hk hW hs8 (by omega) dX7_load_131 (fun co9 H locs hs9 ho9 hW => ?_)
              have hw := hW.1
              have hd := dk_X hd hs9 ho9
              have hj : x_J lo _ := hW.2.1.1
              obtain ⟨ft, hf1, hft⟩ := hd.2.1
              obtain ⟨mcq, evq, hq0⟩ := hd.L2.obj
              obtain ⟨mca, eva, ha0⟩ := hd.L4.obj
              have h69 := sc6 hs9 hp2.1.1 hp2.1.2.1
              obtain ⟨f89, hc89, hf89⟩ := hs9.2.2.1
              obtain ⟨f129, hc129, hf129⟩ := hs9.2.2.2.2.2.2.1
              have hrow0 : Lrow S (sX (sX X1 (1) (upd (X1.2.2 (1)) a (nI (m_sp S a)))) (2) (upd ((sX X1 (1) (upd (X1.2.2 (1)) a (nI (m_sp S a)))).2.2 (2)) a (nI (m_kc S a)))) 0 (fun q => m_plain S q) := fun q hq => by rw [sX_ne (by omega)]; exact hrow0 q hq
              obtain ⟨u1_93_7, u2_93_7, hAa_93_7⟩ := s6 a (by omega)
              have hTa_93_7 := (s1 _ u1_93_7).1 u2_93_7
              have hta_93_7 := hd.T u1_93_7 u2_93_7
              have had_93_7 := hd.A (a := a) (by omega)
              have hBa_93_7 := aok_bA (S := S) hAa_93_7
              have hA4_93_7 := hAa_93_7.1
              refine lv_aload_n hx hb dX7_load_132 rfl (lv_at hl 2 rfl) ?_
              refine x_get (v := .ref (lo (11))) cx hk hw (h69) f_RX7_26_6 rfl dX7_load_133 ?_
              refine lv_iload_n hx hb dX7_load_136 rfl (lv_at hl 1 rfl) ?_
              refine lv_aload_n hx hb dX7_load_137 rfl (lv_at hl 4 rfl) ?_
              refine lv_iload_n hx hb dX7_load_138 rfl (lv_at hl 1 rfl) ?_
              refine x_rdSN (av := [.ref (lo (4)), .int (nI a)]) (rest := [.int (nI a), .ref (lo (11))]) cx hk hw cn_RX7_81 (d_rivalsOf dd S (sX (sX X1 (1) (upd (X1.2.2 (1)) a (nI (m_sp S a)))) (2) (upd ((sX X1 (1) (upd (X1.2.2 (1)) a (nI (m_sp S a)))).2.2 (2)) a (nI (m_kc S a)))) hd hj hS a (by omega)) hl.1 rfl rfl (Nat.le_of_ble_eq_true rfl) ⟨by decide, by decide⟩ ⟨Nat.zero_le _, Nat.zero_le _⟩ dX7_load_139 ?_
              refine sc_st3 cx hk hW hs9 (by omega) dX7_load_142 (fun co10 H locs hs10 ho10 hW => ?_)
              have hw := hW.1
              have hd := dk_X hd hs10 ho10
              have hj : x_J lo _ := hW.2.1.1
              obtain ⟨ft, hf1, hft⟩ := hd.2.1
              obtain ⟨mcq, evq, hq0⟩ := hd.L2.obj
              obtain ⟨mca, eva, ha0⟩ := hd.L4.obj
              have h610 := sc6 hs10 hp2.1.1 hp2.1.2.1
              obtain ⟨f810, hc810, hf810⟩ := hs10.2.2.1
              obtain ⟨f1210, hc1210, hf1210⟩ := hs10.2.2.2.2.2.2.1
              have hrow0 : Lrow S (sX (sX (sX X1 (1) (upd (X1.2.2 (1)) a (nI (m_sp S a)))) (2) (upd ((sX X1 (1) (upd (X1.2.2 (1)) a (nI (m_sp S a)))).2.2 (2)) a (nI (m_kc S a)))) (3) (upd ((sX (sX X1 (1) (upd (X1.2.2 (1)) a (nI (m_sp S a)))) (2) (upd ((sX X1 (1) (upd (X1.2.2 (1)) a (nI (m_sp S a)))).2.2 (2)) a (nI (m_kc S a)))).2.2 (3)) a (nI (d_rivs S a)))) 0 (fun q => m_plain S q) := fun q hq => by rw [sX_ne (by omega)]; exact hrow0 q hq
              obtain ⟨u1_93_7, u2_93_7, hAa_93_7⟩ := s6 a (by omega)
              have hTa_93_7 := (s1 _ u1_93_7).1 u2_93_7
              have hta_93_7 := hd.T u1_93_7 u2_93_7
              have had_93_7 := hd.A (a := a) (by omega)
              have hBa_93_7 := aok_bA (S := S) hAa_93_7
              have hA4_93_7 := hAa_93_7.1
              refine lv_iconst (v := nI 0) hx hb dX7_load_143 rfl ?_
              refine lv_istore (lv' := [(5, .int (nI 0)), (4, .ref (lo (tA a))), (3, .int (nI a)), (0, .ref (lo (6))), (1, .ref (lo (2))), (2, .ref (lo (4)))]) hx hb dX7_load_144 hl (by decide) rfl (fun ls hl => ?_)
              have L146_11 : ∀ (n_ : Nat) (k : Nat) (X1 : Sc) (cw11 : x_C), (k ≤ sn S 0) → (isDk G lo cw11 dd S X1) → (L3 S X1 a k) → (ofr co cw11 6 47) → sn S 0 - k < n_ → ∀ (H : Heap) (locs : List Loc) (ls : Array Slot), x_D AA G ss.heap lo cw11 H locs → lv_has ls 8 [(5, .int (nI k)), (4, .ref (lo (tA a))), (3, .int (nI a)), (0, .ref (lo (6))), (1, .ref (lo (2))), (2, .ref (lo (4)))] → x_ww l 7 0 0 pp ee ss mm av bb mt cd G po AA H locs 0 0 146 ls [] := by
                intro n_
                induction n_ with
                | zero => intro k X1 cw11 hv3 hd hp3 hof hm_ H locs ls hW hl; exact absurd hm_ (Nat.not_lt_zero _)
                | succ n_ ih146_11 =>
                  intro k X1 cw11 hv3 hd hp3 hof hm_11 H locs ls hW hl
                  have hw := hW.1
                  have hj : x_J lo _ := hW.2.1.1
                  obtain ⟨ft, hf1, hft⟩ := hd.2.1
                  obtain ⟨mcq, evq, hq0⟩ := hd.L2.obj
                  obtain ⟨mca, eva, ha0⟩ := hd.L4.obj
                  have hs1 := hd.sc
                  have h61 := sc6 hd.sc hp3.1.1.1 hp3.1.1.2.1
                  obtain ⟨f81, hc81, hf81⟩ := hd.sc.2.2.1
                  obtain ⟨f121, hc121, hf121⟩ := hd.sc.2.2.2.2.2.2.1
                  have hrow0 : Lrow S X1 0 (fun q => m_plain S q) := fun q hq => (hp3.1.1.2.2 q hq).2
                  obtain ⟨u1_i, u2_i, hAa_i⟩ := s6 a (by omega)
                  have hTa_i := (s1 _ u1_i).1 u2_i
                  have hta_i := hd.T u1_i u2_i
                  have had_i := hd.A (a := a) (by omega)
                  have hBa_i := aok_bA (S := S) hAa_i
                  have hA4_i := hAa_i.1
                  refine lv_iload hx hb dX7_load_146 (lv_at hl 0 rfl) ?_
                  refine lv_aload_n hx hb dX7_load_148 rfl (lv_at hl 3 rfl) ?_
                  refine x_get (v := .int (nI (sn S 0))) cx hk hw (h61) f_RX7_44_6 rfl dX7_load_149 ?_
                  refine x_icmp_ge (tgt := 235) cx dX7_load_152 (by decide) (by omega) (fun h152_12 => ?_) (fun h152_12 => ?_)
                  · skip
                    refine lv_iinc (v := nI (a + 1)) (lv' := [(3, .int (nI (a + 1))), (5, .int (nI k)), (4, .ref (lo (tA a))), (0, .ref (lo (6))), (1, .ref (lo (2))), (2, .ref (lo (4)))]) hx hb dX7_load_235 hl (k := 2) rfl (nI_add _ 1) (by decide) rfl (fun ls hl => ?_)
                    refine lv_goto (tgt := 83) hx hb dX7_load_238 (by decide) ?_
                    exact ih83_5 (a + 1) X1 _ (by omega) (by exact hd) (by exact L2_s hp3 (by omega)) (by exact hof) (by omega) _ _ _ hW (lv_sub hl [0, 3, 4, 5] rfl)
                  · skip
                    refine lv_aload_n hx hb dX7_load_155 rfl (lv_at hl 4 rfl) ?_
                    refine lv_iload hx hb dX7_load_156 (lv_at hl 0 rfl) ?_
                    refine x_rdV (av := [.int (nI k)]) (rest := []) cx hk hw hq0 cv_RX7_51_0 (l_get dd 2 3 (sn S 0) _ hd.L2 k (by omega) (by omega)) hl.1 rfl rfl (Nat.le_of_ble_eq_true rfl) ⟨by decide, by decide⟩ ⟨Nat.zero_le _, Nat.zero_le _⟩ dX7_load_158 ?_
                    obtain ⟨v1_158_13, v2_158_13, hQq_158_13⟩ := s5 k (by omega)
                    have hTq_158_13 := (s1 _ v1_158_13).1 v2_158_13
                    have htq_158_13 := hd.T v1_158_13 v2_158_13
                    have hqq_158_13 := hd.Q (q := k) (by omega)
                    refine x_castS (ci := 5) cx hk hw (hqq_158_13.1) rfl (hts _ w_608) dX7_load_161 ?_
                    refine lv_astore (lv' := [(6, .ref (lo (tQ k))), (5, .int (nI k)), (4, .ref (lo (tA a))), (3, .int (nI a)), (0, .ref (lo (6))), (1, .ref (lo (2))), (2, .ref (lo (4)))]) hx hb dX7_load_164 hl (by decide) rfl (fun ls hl => ?_)
                    refine lv_aload hx hb dX7_load_166 (lv_at hl 2 rfl) ?_
                    refine ag_RX7_77 cx hk hw had_i dX7_load_168 ?_
                    refine lv_aload hx hb dX7_load_171 (lv_at hl 0 rfl) ?_
                    refine x_get (v := .ref (lo (tT (qt S k)))) cx hk hw (hqq_158_13.1) f_RX7_60_5 rfl dX7_load_173 ?_
                    refine lv_acmp_ne (rx := some (lo (tT (ao S a)))) (ry := some (lo (tT (qt S k)))) (tgt := 193) hx hb dX7_load_176 (by decide) (fun h176_14 => ?_) (fun h176_14 => ?_)
                    · skip
                      refine lv_iconst (v := nI 0) hx hb dX7_load_193 rfl ?_
                      refine lv_istore (lv' := [(7, .int (nI 0)), (6, .ref (lo (tQ k))), (5, .int (nI k)), (4, .ref (lo (tA a))), (3, .int (nI a)), (0, .ref (lo (6))), (1, .ref (lo (2))), (2, .ref (lo (4)))]) hx hb dX7_load_194 hl (by decide) rfl (fun ls hl => ?_)
                      refine lv_aload_n hx hb dX7_load_196 rfl (lv_at hl 5 rfl) ?_
                      refine x_get (v := .ref (lo (8))) cx hk hw (h61) f_RX7_17_6 rfl dX7_load_197 ?_
                      refine lv_iload_n hx hb dX7_load_200 rfl (lv_at hl 4 rfl) ?_
                      refine x_aaldIN cx hk hw (hc81) (by omega) (by first | decide | omega) (congrArg va_rf (hf81 a (by omega))) dX7_load_201 ?_
                      refine lv_iload hx hb dX7_load_202 (lv_at hl 2 rfl) ?_
                      refine lv_iload hx hb dX7_load_204 (lv_at hl 0 rfl) ?_
                      refine x_ifN_eq (tgt := 219) cx dX7_load_206 (by decide) (by omega) (fun h206_15 => ?_) (fun h206_15 => ?_)
                      · skip
                        refine lv_aload_n hx hb dX7_load_219 rfl (lv_at hl 5 rfl) ?_
                        refine x_get (v := .ref (lo (12))) cx hk hw (h61) f_RX7_29_6 rfl dX7_load_220 ?_
                        refine lv_iconst (v := nI 0) hx hb dX7_load_223 rfl ?_
                        refine x_aaldIN cx hk hw (hc121) (by omega) (by first | decide | omega) (congrArg va_rf (hf121 0 (by omega))) dX7_load_224 ?_
                        refine lv_iload hx hb dX7_load_225 (lv_at hl 2 rfl) ?_
                        refine x_ialdE (x := nI (m_plain S k)) cx hk hw ((hd.sc.2.2.2.2.2.2.2.2 0 (by decide))) (by omega) (by decide) (hrow0 k (by omega)) dX7_load_227 ?_
                        rw [show m_plain S k = cst S a k from by rw [cst, if_neg (fun z => by rw [m_helps, Bool.and_eq_true] at z; first | exact absurd ((tT_inj hd hj (s6 a (by omega)).1 (s6 a (by omega)).2.1 (s5 k (by omega)).1 (s5 k (by omega)).2.1).mpr (of_decide_eq_true z.1)) (by assumption) | exact Bool.noConfusion ((by assumption : a_helps (qQ S k) (aA S a) = false).symm.trans z.2))]]
                        refine sc_stC cx hk hW hd.sc (by omega) (by omega) dX7_load_228 (fun co16 H locs hs16 ho16 hW => ?_)
                        have hw := hW.1
                        have hd := dk_X hd hs16 ho16
                        have hj : x_J lo _ := hW.2.1.1
                        obtain ⟨ft, hf1, hft⟩ := hd.2.1
                        obtain ⟨mcq, evq, hq0⟩ := hd.L2.obj
                        obtain ⟨mca, eva, ha0⟩ := hd.L4.obj
                        have h616 := sc6 hs16 hp3.1.1.1 hp3.1.1.2.1
                        obtain ⟨f816, hc816, hf816⟩ := hs16.2.2.1
                        obtain ⟨f1216, hc1216, hf1216⟩ := hs16.2.2.2.2.2.2.1
                        have hrow0 : Lrow S (sX X1 (20 + a) (upd (X1.2.2 (20 + a)) k (nI (cst S a k)))) 0 (fun q => m_plain S q) := fun q hq => by rw [sX_ne (by omega)]; exact hrow0 q hq
                        obtain ⟨u1_i, u2_i, hAa_i⟩ := s6 a (by omega)
                        have hTa_i := (s1 _ u1_i).1 u2_i
                        have hta_i := hd.T u1_i u2_i
                        have had_i := hd.A (a := a) (by omega)
                        have hBa_i := aok_bA (S := S) hAa_i
                        have hA4_i := hAa_i.1
                        obtain ⟨v1_158_13, v2_158_13, hQq_158_13⟩ := s5 k (by omega)
                        have hTq_158_13 := (s1 _ v1_158_13).1 v2_158_13
                        have htq_158_13 := hd.T v1_158_13 v2_158_13
                        have hqq_158_13 := hd.Q (q := k) (by omega)
                        refine lv_iinc (v := nI (k + 1)) (lv' := [(5, .int (nI (k + 1))), (7, .int (nI 0)), (6, .ref (lo (tQ k))), (4, .ref (lo (tA a))), (3, .int (nI a)), (0, .ref (lo (6))), (1, .ref (lo (2))), (2, .ref (lo (4)))]) hx hb dX7_load_229 hl (k := 2) rfl (nI_add _ 1) (by decide) rfl (fun ls hl => ?_)
                        refine lv_goto (tgt := 146) hx hb dX7_load_232 (by decide) ?_
                        exact ih146_11 (k + 1) (sX X1 (20 + a) (upd (X1.2.2 (20 + a)) k (nI (cst S a k)))) _ (by omega) (by exact hd) (by exact L3_s hp3 (by omega)) (by exact (hof).tr ho16) (by omega) _ _ _ hW (lv_sub hl [0, 3, 4, 5, 6, 7] rfl)
                      · skip
                        exact absurd rfl (by assumption)
                    · skip
                      have hsm_m : ao S a = qt S k := (tT_inj hd hj (s6 a (by omega)).1 (s6 a (by omega)).2.1 (s5 k (by omega)).1 (s5 k (by omega)).2.1).mp (by assumption)
                      have hqs_m := hqq_158_13
                      rw [← hsm_m] at hqs_m
                      have hQs_m : Qok (sT S (ao S a)) (qQ S k) := by rw [hsm_m]; exact hQq_158_13
                      refine lv_aload hx hb dX7_load_179 (lv_at hl 2 rfl) ?_
                      refine lv_aload hx hb dX7_load_181 (lv_at hl 0 rfl) ?_
                      refine av_RX7_85 cx hk hw had_i hta_i hTa_i hBa_i hqs_m hQs_m hl.1 (Nat.le_of_ble_eq_true rfl) ⟨by decide, by decide⟩ ⟨Nat.zero_le _, Nat.zero_le _⟩ dX7_load_183 ?_
                      rw [helps_bA]
                      refine x_if_eq (tgt := 193) cx dX7_load_186 (by decide) (fun h186_17 => ?_) (fun h186_17 => ?_)
                      · skip
                        refine lv_iconst (v := nI 0) hx hb dX7_load_193 rfl ?_
                        refine lv_istore (lv' := [(7, .int (nI 0)), (6, .ref (lo (tQ k))), (5, .int (nI k)), (4, .ref (lo (tA a))), (3, .int (nI a)), (0, .ref (lo (6))), (1, .ref (lo (2))), (2, .ref (lo (4)))]) hx hb dX7_load_194 hl (by decide) rfl (fun ls hl => ?_)
                        refine lv_aload_n hx hb dX7_load_196 rfl (lv_at hl 5 rfl) ?_
                        refine x_get (v := .ref (lo (8))) cx hk hw (h61) f_RX7_17_6 rfl dX7_load_197 ?_
                        refine lv_iload_n hx hb dX7_load_200 rfl (lv_at hl 4 rfl) ?_
                        refine x_aaldIN cx hk hw (hc81) (by omega) (by first | decide | omega) (congrArg va_rf (hf81 a (by omega))) dX7_load_201 ?_
                        refine lv_iload hx hb dX7_load_202 (lv_at hl 2 rfl) ?_
                        refine lv_iload hx hb dX7_load_204 (lv_at hl 0 rfl) ?_
                        refine x_ifN_eq (tgt := 219) cx dX7_load_206 (by decide) (by omega) (fun h206_18 => ?_) (fun h206_18 => ?_)
                        · skip
                          refine lv_aload_n hx hb dX7_load_219 rfl (lv_at hl 5 rfl) ?_
                          refine x_get (v := .ref (lo (12))) cx hk hw (h61) f_RX7_29_6 rfl dX7_load_220 ?_
                          refine lv_iconst (v := nI 0) hx hb dX7_load_223 rfl ?_
                          refine x_aaldIN cx hk hw (hc121) (by omega) (by first | decide | omega) (congrArg va_rf (hf121 0 (by omega))) dX7_load_224 ?_
                          refine lv_iload hx hb dX7_load_225 (lv_at hl 2 rfl) ?_
                          refine x_ialdE (x := nI (m_plain S k)) cx hk hw ((hd.sc.2.2.2.2.2.2.2.2 0 (by decide))) (by omega) (by decide) (hrow0 k (by omega)) dX7_load_227 ?_
                          rw [show m_plain S k = cst S a k from by rw [cst, if_neg (fun z => by rw [m_helps, Bool.and_eq_true] at z; first | exact absurd ((tT_inj hd hj (s6 a (by omega)).1 (s6 a (by omega)).2.1 (s5 k (by omega)).1 (s5 k (by omega)).2.1).mpr (of_decide_eq_true z.1)) (by assumption) | exact Bool.noConfusion ((by assumption : a_helps (qQ S k) (aA S a) = false).symm.trans z.2))]]
                          refine sc_stC cx hk hW hd.sc (by omega) (by omega) dX7_load_228 (fun co19 H locs hs19 ho19 hW => ?_)
                          have hw := hW.1
                          have hd := dk_X hd hs19 ho19
                          have hj : x_J lo _ := hW.2.1.1
                          obtain ⟨ft, hf1, hft⟩ := hd.2.1
                          obtain ⟨mcq, evq, hq0⟩ := hd.L2.obj
                          obtain ⟨mca, eva, ha0⟩ := hd.L4.obj
                          have h619 := sc6 hs19 hp3.1.1.1 hp3.1.1.2.1
                          obtain ⟨f819, hc819, hf819⟩ := hs19.2.2.1
                          obtain ⟨f1219, hc1219, hf1219⟩ := hs19.2.2.2.2.2.2.1
                          have hrow0 : Lrow S (sX X1 (20 + a) (upd (X1.2.2 (20 + a)) k (nI (cst S a k)))) 0 (fun q => m_plain S q) := fun q hq => by rw [sX_ne (by omega)]; exact hrow0 q hq
                          obtain ⟨u1_i, u2_i, hAa_i⟩ := s6 a (by omega)
                          have hTa_i := (s1 _ u1_i).1 u2_i
                          have hta_i := hd.T u1_i u2_i
                          have had_i := hd.A (a := a) (by omega)
                          have hBa_i := aok_bA (S := S) hAa_i
                          have hA4_i := hAa_i.1
                          obtain ⟨v1_158_13, v2_158_13, hQq_158_13⟩ := s5 k (by omega)
                          have hTq_158_13 := (s1 _ v1_158_13).1 v2_158_13
                          have htq_158_13 := hd.T v1_158_13 v2_158_13
                          have hqq_158_13 := hd.Q (q := k) (by omega)
                          refine lv_iinc (v := nI (k + 1)) (lv' := [(5, .int (nI (k + 1))), (7, .int (nI 0)), (6, .ref (lo (tQ k))), (4, .ref (lo (tA a))), (3, .int (nI a)), (0, .ref (lo (6))), (1, .ref (lo (2))), (2, .ref (lo (4)))]) hx hb dX7_load_229 hl (k := 2) rfl (nI_add _ 1) (by decide) rfl (fun ls hl => ?_)
                          refine lv_goto (tgt := 146) hx hb dX7_load_232 (by decide) ?_
                          exact ih146_11 (k + 1) (sX X1 (20 + a) (upd (X1.2.2 (20 + a)) k (nI (cst S a k)))) _ (by omega) (by exact hd) (by exact L3_s hp3 (by omega)) (by exact (hof).tr ho19) (by omega) _ _ _ hW (lv_sub hl [0, 3, 4, 5, 6, 7] rfl)
                        · skip
                          exact absurd rfl (by assumption)
                      · skip
                        refine lv_iconst (v := nI 1) hx hb dX7_load_189 rfl ?_
                        refine lv_goto (tgt := 194) hx hb dX7_load_190 (by decide) ?_
                        refine lv_istore (lv' := [(7, .int (nI 1)), (6, .ref (lo (tQ k))), (5, .int (nI k)), (4, .ref (lo (tA a))), (3, .int (nI a)), (0, .ref (lo (6))), (1, .ref (lo (2))), (2, .ref (lo (4)))]) hx hb dX7_load_194 hl (by decide) rfl (fun ls hl => ?_)
                        refine lv_aload_n hx hb dX7_load_196 rfl (lv_at hl 5 rfl) ?_
                        refine x_get (v := .ref (lo (8))) cx hk hw (h61) f_RX7_17_6 rfl dX7_load_197 ?_
                        refine lv_iload_n hx hb dX7_load_200 rfl (lv_at hl 4 rfl) ?_
                        refine x_aaldIN cx hk hw (hc81) (by omega) (by first | decide | omega) (congrArg va_rf (hf81 a (by omega))) dX7_load_201 ?_
                        refine lv_iload hx hb dX7_load_202 (lv_at hl 2 rfl) ?_
                        refine lv_iload hx hb dX7_load_204 (lv_at hl 0 rfl) ?_
                        refine x_ifN_eq (tgt := 219) cx dX7_load_206 (by decide) (by omega) (fun h206_20 => ?_) (fun h206_20 => ?_)
                        · skip
                          exact absurd (by assumption : 1 = 0) (by decide)
                        · skip
                          refine lv_aload hx hb dX7_load_209 (lv_at hl 3 rfl) ?_
                          refine lv_aload hx hb dX7_load_211 (lv_at hl 1 rfl) ?_
                          refine av_RX7_89 cx hk hw had_i hta_i hTa_i hBa_i hqs_m hQs_m hl.1 (Nat.le_of_ble_eq_true rfl) ⟨by decide, by decide⟩ ⟨Nat.zero_le _, Nat.zero_le _⟩ dX7_load_213 ?_
                          rw [show a_cost (sT S (ao S a)) (qQ S k) (bA S a) = m_cost S k a from cost_bA S a _ _]
                          refine lv_goto (tgt := 228) hx hb dX7_load_216 (by decide) ?_
                          rw [show m_cost S k a = cst S a k from by rw [cst, if_pos (by rw [m_helps, decide_eq_true hsm_m, Bool.true_and]; assumption)]]
                          refine sc_stC cx hk hW hd.sc (by omega) (by omega) dX7_load_228 (fun co21 H locs hs21 ho21 hW => ?_)
                          have hw := hW.1
                          have hd := dk_X hd hs21 ho21
                          have hj : x_J lo _ := hW.2.1.1
                          obtain ⟨ft, hf1, hft⟩ := hd.2.1
                          obtain ⟨mcq, evq, hq0⟩ := hd.L2.obj
                          obtain ⟨mca, eva, ha0⟩ := hd.L4.obj
                          have h621 := sc6 hs21 hp3.1.1.1 hp3.1.1.2.1
                          obtain ⟨f821, hc821, hf821⟩ := hs21.2.2.1
                          obtain ⟨f1221, hc1221, hf1221⟩ := hs21.2.2.2.2.2.2.1
                          have hrow0 : Lrow S (sX X1 (20 + a) (upd (X1.2.2 (20 + a)) k (nI (cst S a k)))) 0 (fun q => m_plain S q) := fun q hq => by rw [sX_ne (by omega)]; exact hrow0 q hq
                          obtain ⟨u1_i, u2_i, hAa_i⟩ := s6 a (by omega)
                          have hTa_i := (s1 _ u1_i).1 u2_i
                          have hta_i := hd.T u1_i u2_i
                          have had_i := hd.A (a := a) (by omega)
                          have hBa_i := aok_bA (S := S) hAa_i
                          have hA4_i := hAa_i.1
                          obtain ⟨v1_158_13, v2_158_13, hQq_158_13⟩ := s5 k (by omega)
                          have hTq_158_13 := (s1 _ v1_158_13).1 v2_158_13
                          have htq_158_13 := hd.T v1_158_13 v2_158_13
                          have hqq_158_13 := hd.Q (q := k) (by omega)
                          refine lv_iinc (v := nI (k + 1)) (lv' := [(5, .int (nI (k + 1))), (7, .int (nI 1)), (6, .ref (lo (tQ k))), (4, .ref (lo (tA a))), (3, .int (nI a)), (0, .ref (lo (6))), (1, .ref (lo (2))), (2, .ref (lo (4)))]) hx hb dX7_load_229 hl (k := 2) rfl (nI_add _ 1) (by decide) rfl (fun ls hl => ?_)
                          refine lv_goto (tgt := 146) hx hb dX7_load_232 (by decide) ?_
                          exact ih146_11 (k + 1) (sX X1 (20 + a) (upd (X1.2.2 (20 + a)) k (nI (cst S a k)))) _ (by omega) (by exact hd) (by exact L3_s hp3 (by omega)) (by exact (hof).tr ho21) (by omega) _ _ _ hW (lv_sub hl [0, 3, 4, 5, 6, 7] rfl)
              exact L146_11 (_ + 1) 0 (sX (sX (sX X1 (1) (upd (X1.2.2 (1)) a (nI (m_sp S a)))) (2) (upd ((sX X1 (1) (upd (X1.2.2 (1)) a (nI (m_sp S a)))).2.2 (2)) a (nI (m_kc S a)))) (3) (upd ((sX (sX X1 (1) (upd (X1.2.2 (1)) a (nI (m_sp S a)))) (2) (upd ((sX X1 (1) (upd (X1.2.2 (1)) a (nI (m_sp S a)))).2.2 (2)) a (nI (m_kc S a)))).2.2 (3)) a (nI (d_rivs S a)))) _ (by omega) (by exact hd) (by exact L3_0 hp2 (by omega)) (by exact (((hof).tr ho8).tr ho9).tr ho10) (Nat.lt_succ_self _) _ _ _ hW (lv_sub hl [0, 1, 2, 3, 4, 5] rfl)
        exact L83_5 (_ + 1) 0 X1 _ (by omega) (by exact hd) (by exact L2_0 hp1 (by omega)) (by exact hof) (Nat.lt_succ_self _) _ _ _ hW (lv_sub hl [0, 1, 2, 3] rfl)
      · skip
        have hwq : (qQ S q).1 1 = wq S q := rfl
        refine lv_aload_n hx hb dX7_load_36 rfl (lv_at hl 1 rfl) ?_
        refine x_get (v := .ref (lo (7))) cx hk hw (h61) f_RX7_9_6 rfl dX7_load_37 ?_
        refine lv_iload_n hx hb dX7_load_40 rfl (lv_at hl 0 rfl) ?_
        refine lv_aload_n hx hb dX7_load_41 rfl (lv_at hl 2 rfl) ?_
        refine lv_iload_n hx hb dX7_load_42 rfl (lv_at hl 0 rfl) ?_
        refine x_rdV (av := [.int (nI q)]) (rest := [.int (nI q), .ref (lo (7))]) cx hk hw hq0 cv_RX7_51_0 (l_get dd 2 3 (sn S 0) _ hd.L2 q (by omega) (by omega)) hl.1 rfl rfl (Nat.le_of_ble_eq_true rfl) ⟨by decide, by decide⟩ ⟨Nat.zero_le _, Nat.zero_le _⟩ dX7_load_43 ?_
        obtain ⟨v1_43_22, v2_43_22, hQq_43_22⟩ := s5 q (by omega)
        have hTq_43_22 := (s1 _ v1_43_22).1 v2_43_22
        have htq_43_22 := hd.T v1_43_22 v2_43_22
        have hqq_43_22 := hd.Q (q := q) (by omega)
        refine x_castS (ci := 5) cx hk hw (hqq_43_22.1) rfl (hts _ w_608) dX7_load_46 ?_
        refine x_get (v := .int (nI ((qQ S q).1 1))) cx hk hw (hqq_43_22.1) f_RX7_57_5 rfl dX7_load_49 ?_
        rw [show (qQ S q).1 1 = wq S q from rfl]
        refine sc_st0 cx hk hW hd.sc (by omega) dX7_load_52 (fun co23 H locs hs23 ho23 hW => ?_)
        have hw := hW.1
        have hd := dk_X hd hs23 ho23
        have hj : x_J lo _ := hW.2.1.1
        obtain ⟨ft, hf1, hft⟩ := hd.2.1
        obtain ⟨mcq, evq, hq0⟩ := hd.L2.obj
        obtain ⟨mca, eva, ha0⟩ := hd.L4.obj
        have h623 := sc6 hs23 hp1.1 hp1.2.1
        obtain ⟨f823, hc823, hf823⟩ := hs23.2.2.1
        obtain ⟨f1223, hc1223, hf1223⟩ := hs23.2.2.2.2.2.2.1
        obtain ⟨v1_43_22, v2_43_22, hQq_43_22⟩ := s5 q (by omega)
        have hTq_43_22 := (s1 _ v1_43_22).1 v2_43_22
        have htq_43_22 := hd.T v1_43_22 v2_43_22
        have hqq_43_22 := hd.Q (q := q) (by omega)
        refine lv_aload_n hx hb dX7_load_53 rfl (lv_at hl 1 rfl) ?_
        refine x_get (v := .ref (lo (12))) cx hk hw (h623) f_RX7_29_6 rfl dX7_load_54 ?_
        refine lv_iconst (v := nI 0) hx hb dX7_load_57 rfl ?_
        refine x_aaldIN cx hk hw (hc1223) (by omega) (by first | decide | omega) (congrArg va_rf (hf1223 0 (by omega))) dX7_load_58 ?_
        refine lv_iload_n hx hb dX7_load_59 rfl (lv_at hl 0 rfl) ?_
        refine lv_aload_n hx hb dX7_load_60 rfl (lv_at hl 2 rfl) ?_
        refine lv_iload_n hx hb dX7_load_61 rfl (lv_at hl 0 rfl) ?_
        refine x_rdV (av := [.int (nI q)]) (rest := [.int (nI q), .ref (lo (tL 0))]) cx hk hw hq0 cv_RX7_51_0 (l_get dd 2 3 (sn S 0) _ hd.L2 q (by omega) (by omega)) hl.1 rfl rfl (Nat.le_of_ble_eq_true rfl) ⟨by decide, by decide⟩ ⟨Nat.zero_le _, Nat.zero_le _⟩ dX7_load_62 ?_
        obtain ⟨v1_62_24, v2_62_24, hQq_62_24⟩ := s5 q (by omega)
        have hTq_62_24 := (s1 _ v1_62_24).1 v2_62_24
        have htq_62_24 := hd.T v1_62_24 v2_62_24
        have hqq_62_24 := hd.Q (q := q) (by omega)
        refine x_castS (ci := 5) cx hk hw (hqq_62_24.1) rfl (hts _ w_608) dX7_load_65 ?_
        refine x_get (v := .ref (lo (tT (qt S q)))) cx hk hw (hqq_62_24.1) f_RX7_60_5 rfl dX7_load_68 ?_
        refine x_rdV (av := []) (rest := [.int (nI q), .ref (lo (tL 0))]) cx hk hw (htq_62_24.1) cv_RX7_64_8 (c_t_cpages (tT (qt S q)) (sT S (qt S q)) htq_62_24 hTq_62_24) hl.1 rfl rfl (Nat.le_of_ble_eq_true rfl) ⟨by decide, by decide⟩ ⟨Nat.zero_le _, Nat.zero_le _⟩ dX7_load_71 ?_
        rw [show s_up ((sT S (qt S q)).1 5) ((sT S (qt S q)).1 2) = m_plain S q from rfl]
        refine sc_stL cx hk hW hs23 (by omega) (by omega) dX7_load_74 (fun co25 H locs hs25 ho25 hW => ?_)
        have hw := hW.1
        have hd := dk_X hd hs25 ho25
        have hj : x_J lo _ := hW.2.1.1
        obtain ⟨ft, hf1, hft⟩ := hd.2.1
        obtain ⟨mcq, evq, hq0⟩ := hd.L2.obj
        obtain ⟨mca, eva, ha0⟩ := hd.L4.obj
        have h625 := sc6 hs25 hp1.1 hp1.2.1
        obtain ⟨f825, hc825, hf825⟩ := hs25.2.2.1
        obtain ⟨f1225, hc1225, hf1225⟩ := hs25.2.2.2.2.2.2.1
        obtain ⟨v1_62_24, v2_62_24, hQq_62_24⟩ := s5 q (by omega)
        have hTq_62_24 := (s1 _ v1_62_24).1 v2_62_24
        have htq_62_24 := hd.T v1_62_24 v2_62_24
        have hqq_62_24 := hd.Q (q := q) (by omega)
        refine lv_iinc (v := nI (q + 1)) (lv' := [(3, .int (nI (q + 1))), (0, .ref (lo (6))), (1, .ref (lo (2))), (2, .ref (lo (4)))]) hx hb dX7_load_75 hl (k := 0) rfl (nI_add _ 1) (by decide) rfl (fun ls hl => ?_)
        refine lv_goto (tgt := 28) hx hb dX7_load_78 (by decide) ?_
        exact ih28_3 (q + 1) (sX (sX X1 (0) (upd (X1.2.2 (0)) q (nI (wq S q)))) (40 + 0) (upd ((sX X1 (0) (upd (X1.2.2 (0)) q (nI (wq S q)))).2.2 (40 + 0)) q (nI (m_plain S q)))) _ (by omega) (by exact hd) (by exact L1_s hp1) (by exact ((hof).tr ho23).tr ho25) (by omega) _ _ _ hW (lv_sub hl [0, 1, 2, 3] rfl)
  exact L28_3 (_ + 1) 0 (va_up (va_up X.1 0 (nI (sn S 0)), X.2).1 1 (nI (sn S 1)), (va_up X.1 0 (nI (sn S 0)), X.2).2) _ (by omega) (by exact hd) (by exact ⟨rfl, rfl, fun q hq => absurd hq (Nat.not_lt_zero q)⟩) (by exact (ho1).tr ho2) (Nat.lt_succ_self _) _ _ _ hW (lv_sub hl [0, 1, 2, 3] rfl)
