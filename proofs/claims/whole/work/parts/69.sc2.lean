set_option maxHeartbeats 4000000 in
set_option maxRecDepth 100000 in
theorem g_keep {l : Launch} {G : x_G} {lo : x_L} {co : x_C} (S : St) (X : Sc) (hS : Sok S) (hs : isSc G lo co X) (hL : Lok S X) (s ct b bc : Nat) (hb_ : X.1 2 = nI b) (hbc_ : X.2.1 = lN bc) (hs_ : s < 4096) (hbl_ : b < 4096) (hct : ct < 2 ^ 31) (hbcl : bc < 2 ^ 31) : x_Wr l G lo (co) yX7_keepIfBetter cX7_keepIfBetter 5 none 2 0 0 [.ref (lo (6)), .int (nI s), .long (lN ct)] (fun (v : Option Value) (lo1 : x_L) (co1 : x_C) => v = none ∧ lo1 = lo ∧ ofr co co1 6 47 ∧ ∃ X1, isSc G lo co1 X1 ∧ X1.2.2 = X.2.2 ∧ X1.1 0 = X.1 0 ∧ X1.1 1 = X.1 1 ∧ X1.1 2 = nI (if (ct < bc ∨ (ct = bc ∧ pop s < pop b)) then s else b) ∧ X1.2.1 = lN (if (ct < bc ∨ (ct = bc ∧ pop s < pop b)) then ct else bc)) := by
  refine x_wenter RX7 rfl (by decide) (Nat.le_of_ble_eq_true rfl) ?_
  intro pp ee ss mm bb mt cd ls AA cx hk hW hA hr hlk hnm hl
  have hl : lv_has ls 5 [(0, .ref (lo (6))), (1, .int (nI s)), (2, .long (lN ct))] := hl
  generalize hav : ([.ref (lo (6)), .int (nI s), .long (lN ct)] : List Value).toArray = av at cx ⊢
  generalize hpo : (fun (v : Option Value) (lo1 : x_L) (co1 : x_C) => v = none ∧ lo1 = lo ∧ ofr co co1 6 47 ∧ ∃ X1, isSc G lo co1 X1 ∧ X1.2.2 = X.2.2 ∧ X1.1 0 = X.1 0 ∧ X1.1 1 = X.1 1 ∧ X1.1 2 = nI (if (ct < bc ∨ (ct = bc ∧ pop s < pop b)) then s else b) ∧ X1.2.1 = lN (if (ct < bc ∨ (ct = bc ∧ pop s < pop b)) then ct else bc)) = po
  have hx := cx.1
  have hb := cx.2.1
  have hown := cx.2.2.2.1
  have hts := cx.2.2.2.2
  have hw := hW.1
  suffices key_ : ∀ (H : Heap) (locs : List Loc), x_D AA G ss.heap lo (co) H locs → x_ww l 2 0 0 pp ee ss mm av bb mt cd G po AA H locs 0 0 0 ls [] from key_ _ _ hW
  intro H locs hW
  have hw := hW.1
  obtain ⟨s1, s2, s3, s4, s5, s6⟩ := id hS
  have h6 := hs.1
  rw [hL.1, hL.2.1, hb_, hbc_] at h6
  obtain ⟨f8, hc8, hf8⟩ := hs.2.2.1
  obtain ⟨f12, hc12, hf12⟩ := hs.2.2.2.2.2.2.1
  have hb12 := Sok.b12 hS
  have hps := pop_le s
  have hpb := pop_le b
  refine lv_iload_n hx hb dX7_keepIfBetter_0 rfl (lv_at hl 1 rfl) ?_
  refine x_rdS (av := [.int (nI s)]) (rest := []) cx hk hw cs_RX7_135 (c_bitCount s (by omega)) hl.1 rfl rfl (Nat.le_of_ble_eq_true rfl) ⟨by decide, by decide⟩ ⟨Nat.zero_le _, Nat.zero_le _⟩ dX7_keepIfBetter_1 ?_
  refine lv_aload_n hx hb dX7_keepIfBetter_4 rfl (lv_at hl 0 rfl) ?_
  refine x_get (v := .int (nI b)) cx hk hw (h6) f_RX7_112_6 rfl dX7_keepIfBetter_5 ?_
  refine x_rdS (av := [.int (nI b)]) (rest := [.int (nI (pop s))]) cx hk hw cs_RX7_135 (c_bitCount b (by omega)) hl.1 rfl rfl (Nat.le_of_ble_eq_true rfl) ⟨by decide, by decide⟩ ⟨Nat.zero_le _, Nat.zero_le _⟩ dX7_keepIfBetter_8 ?_
  have J19_1 : ∀ (y1_s0 : Nat) (ey1_s0 : y1_s0 = if (pop b) ≤ (pop s) then 0 else 1) (ls : Array Slot), lv_has ls 5 [(0, .ref (lo (6))), (1, .int (nI s)), (2, .long (lN ct))] → x_ww l 2 0 0 pp ee ss mm av bb mt cd G po AA H locs 0 0 19 ls [.int (nI y1_s0)] := by
    intro y1_s0 ey1_s0 ls hl
    have dy1_s0 : ((pop b) ≤ (pop s) ∧ (y1_s0 = 0)) ∨ (¬ ((pop b) ≤ (pop s)) ∧ (y1_s0 = 1)) := by rw [ey1_s0]; repeat' (first | (exact rfl) | (split <;> first | (refine Or.inl ⟨by assumption, ?_⟩) | (refine Or.inr ⟨by assumption, ?_⟩)))
    refine lv_istore (lv' := [(4, .int (nI y1_s0)), (0, .ref (lo (6))), (1, .int (nI s)), (2, .long (lN ct))]) hx hb dX7_keepIfBetter_19 hl (by decide) rfl (fun ls hl => ?_)
    refine lv_lload_n hx hb dX7_keepIfBetter_21 rfl (lv_at hl 3 rfl) ?_
    refine lv_aload_n hx hb dX7_keepIfBetter_22 rfl (lv_at hl 1 rfl) ?_
    refine x_get (v := .long (lN bc)) cx hk hw (h6) f_RX7_115_6 rfl dX7_keepIfBetter_23 ?_
    refine W.lcmp hx hb dX7_keepIfBetter_26 ?_
    refine lv_if_lt (tgt := 44) hx hb dX7_keepIfBetter_27 (by decide) (fun h27_2 => ?_) (fun h27_2 => ?_)
    · skip
      refine lv_aload_n hx hb dX7_keepIfBetter_44 rfl (lv_at hl 1 rfl) ?_
      refine lv_iload_n hx hb dX7_keepIfBetter_45 rfl (lv_at hl 2 rfl) ?_
      refine sc_pf8 cx hk hW hs p_RX7_112_6 dX7_keepIfBetter_46 (fun co3 H locs hs3 ho3 hW => ?_)
      have hw := hW.1
      refine lv_aload_n hx hb dX7_keepIfBetter_49 rfl (lv_at hl 1 rfl) ?_
      refine lv_lload_n hx hb dX7_keepIfBetter_50 rfl (lv_at hl 3 rfl) ?_
      refine sc_pf9 cx hk hW hs3 p_RX7_115_6 dX7_keepIfBetter_51 (fun co4 H locs hs4 ho4 hW => ?_)
      have hw := hW.1
      exact y_vret cx hW hr hlk ⟨by decide, by decide⟩ dX7_keepIfBetter_54 (by rw [← hpo]; first | (have hC : (ct < bc ∨ (ct = bc ∧ pop s < pop b)) := Or.inl ((lN_lt (by omega) (by omega)).mp ((lg_cmp_lt _ _).mp (by assumption))); exact ⟨rfl, rfl, (ho3).tr ho4, _, hs4, rfl, rfl, rfl, by rw [if_pos hC]; rfl, by rw [if_pos hC]⟩) | (have hC : (ct < bc ∨ (ct = bc ∧ pop s < pop b)) := Or.inr ⟨(lN_eq (by omega) (by omega)).mp ((lg_cmp_eq _ _).mp (by assumption)), by omega⟩; exact ⟨rfl, rfl, (ho3).tr ho4, _, hs4, rfl, rfl, rfl, by rw [if_pos hC]; rfl, by rw [if_pos hC]⟩))
    · skip
      refine lv_lload_n hx hb dX7_keepIfBetter_30 rfl (lv_at hl 3 rfl) ?_
      refine lv_aload_n hx hb dX7_keepIfBetter_31 rfl (lv_at hl 1 rfl) ?_
      refine x_get (v := .long (lN bc)) cx hk hw (h6) f_RX7_115_6 rfl dX7_keepIfBetter_32 ?_
      refine W.lcmp hx hb dX7_keepIfBetter_35 ?_
      refine lv_if_ne (tgt := 54) hx hb dX7_keepIfBetter_36 (by decide) (fun h36_5 => ?_) (fun h36_5 => ?_)
      · skip
        exact y_vret cx hW hr hlk ⟨by decide, by decide⟩ dX7_keepIfBetter_54 (by rw [← hpo]; have hC : ¬ (ct < bc ∨ (ct = bc ∧ pop s < pop b)) := (fun z => by rcases z with z | z; exact absurd ((lg_cmp_lt _ _).mpr ((lN_lt (by omega) (by omega)).mpr z)) (by assumption); first | exact absurd ((lg_cmp_eq _ _).mpr ((lN_eq (by omega) (by omega)).mpr z.1)) (by assumption) | (have z2 := z.2; omega)); exact ⟨rfl, rfl, ofr.rf _ _ _, X, hs, rfl, rfl, rfl, by rw [if_neg hC]; exact hb_, by rw [if_neg hC]; exact hbc_⟩)
      · skip
        refine lv_iload hx hb dX7_keepIfBetter_39 (lv_at hl 0 rfl) ?_
        refine x_ifN_eq (tgt := 54) cx dX7_keepIfBetter_41 (by decide) (by omega) (fun h41_6 => ?_) (fun h41_6 => ?_)
        · skip
          exact y_vret cx hW hr hlk ⟨by decide, by decide⟩ dX7_keepIfBetter_54 (by rw [← hpo]; have hC : ¬ (ct < bc ∨ (ct = bc ∧ pop s < pop b)) := (fun z => by rcases z with z | z; exact absurd ((lg_cmp_lt _ _).mpr ((lN_lt (by omega) (by omega)).mpr z)) (by assumption); first | exact absurd ((lg_cmp_eq _ _).mpr ((lN_eq (by omega) (by omega)).mpr z.1)) (by assumption) | (have z2 := z.2; omega)); exact ⟨rfl, rfl, ofr.rf _ _ _, X, hs, rfl, rfl, rfl, by rw [if_neg hC]; exact hb_, by rw [if_neg hC]; exact hbc_⟩)
        · skip
          refine lv_aload_n hx hb dX7_keepIfBetter_44 rfl (lv_at hl 1 rfl) ?_
          refine lv_iload_n hx hb dX7_keepIfBetter_45 rfl (lv_at hl 2 rfl) ?_
          refine sc_pf8 cx hk hW hs p_RX7_112_6 dX7_keepIfBetter_46 (fun co7 H locs hs7 ho7 hW => ?_)
          have hw := hW.1
          refine lv_aload_n hx hb dX7_keepIfBetter_49 rfl (lv_at hl 1 rfl) ?_
          refine lv_lload_n hx hb dX7_keepIfBetter_50 rfl (lv_at hl 3 rfl) ?_
          refine sc_pf9 cx hk hW hs7 p_RX7_115_6 dX7_keepIfBetter_51 (fun co8 H locs hs8 ho8 hW => ?_)
          have hw := hW.1
          exact y_vret cx hW hr hlk ⟨by decide, by decide⟩ dX7_keepIfBetter_54 (by rw [← hpo]; first | (have hC : (ct < bc ∨ (ct = bc ∧ pop s < pop b)) := Or.inl ((lN_lt (by omega) (by omega)).mp ((lg_cmp_lt _ _).mp (by assumption))); exact ⟨rfl, rfl, (ho7).tr ho8, _, hs8, rfl, rfl, rfl, by rw [if_pos hC]; rfl, by rw [if_pos hC]⟩) | (have hC : (ct < bc ∨ (ct = bc ∧ pop s < pop b)) := Or.inr ⟨(lN_eq (by omega) (by omega)).mp ((lg_cmp_eq _ _).mp (by assumption)), by omega⟩; exact ⟨rfl, rfl, (ho7).tr ho8, _, hs8, rfl, rfl, rfl, by rw [if_pos hC]; rfl, by rw [if_pos hC]⟩))
  refine x_icmp_ge (tgt := 18) cx dX7_keepIfBetter_11 (by decide) (by omega) (fun h11_9 => ?_) (fun h11_9 => ?_)
  · skip
    refine lv_iconst (v := nI 0) hx hb dX7_keepIfBetter_18 rfl ?_
    exact J19_1 0 (by rw [if_pos h11_9]) _ (lv_sub hl [0, 1, 2] rfl)
  · skip
    refine lv_iconst (v := nI 1) hx hb dX7_keepIfBetter_14 rfl ?_
    refine lv_goto (tgt := 19) hx hb dX7_keepIfBetter_15 (by decide) ?_
    exact J19_1 1 (by rw [if_neg h11_9]) _ (lv_sub hl [0, 1, 2] rfl)
set_option maxHeartbeats 4000000 in
set_option maxRecDepth 100000 in
theorem g_lower {l : Launch} {G : x_G} {lo : x_L} {co : x_C} (S : St) (X : Sc) (hS : Sok S) (hs : isSc G lo co X) (hL : Lok S X) (e : Nat → Nat) (he60 : ∀ q, q < sn S 0 → e q ≤ 60) (a : Nat) (he : Lrow S X 0 e) (ha_ : a < sn S 1) : x_Wr l G lo (co) yX7_lower cX7_lower 3 none 2 0 0 [.ref (lo (6)), .int (nI a)] (fun (v : Option Value) (lo1 : x_L) (co1 : x_C) => v = none ∧ lo1 = lo ∧ isSc G lo co1 (sX X (40 + 0) (ovr (sn S 0) (fun q_ => min (e q_) (cst S a q_)) (X.2.2 (40 + 0)))) ∧ ofr co co1 6 47) := by
  refine x_wenter RX7 rfl (by decide) (Nat.le_of_ble_eq_true rfl) ?_
  intro pp ee ss mm bb mt cd ls AA cx hk hW hA hr hlk hnm hl
  have hl : lv_has ls 3 [(0, .ref (lo (6))), (1, .int (nI a))] := hl
  generalize hav : ([.ref (lo (6)), .int (nI a)] : List Value).toArray = av at cx ⊢
  generalize hpo : (fun (v : Option Value) (lo1 : x_L) (co1 : x_C) => v = none ∧ lo1 = lo ∧ isSc G lo co1 (sX X (40 + 0) (ovr (sn S 0) (fun q_ => min (e q_) (cst S a q_)) (X.2.2 (40 + 0)))) ∧ ofr co co1 6 47) = po
  have hx := cx.1
  have hb := cx.2.1
  have hown := cx.2.2.2.1
  have hts := cx.2.2.2.2
  have hw := hW.1
  suffices key_ : ∀ (H : Heap) (locs : List Loc), x_D AA G ss.heap lo (co) H locs → x_ww l 2 0 0 pp ee ss mm av bb mt cd G po AA H locs 0 0 0 ls [] from key_ _ _ hW
  intro H locs hW
  have hw := hW.1
  obtain ⟨s1, s2, s3, s4, s5, s6⟩ := id hS
  have h6 := hs.1
  rw [hL.1, hL.2.1] at h6
  obtain ⟨f8, hc8, hf8⟩ := hs.2.2.1
  obtain ⟨f12, hc12, hf12⟩ := hs.2.2.2.2.2.2.1
  have hb12 := Sok.b12 hS
  refine lv_iconst (v := nI 0) hx hb dX7_lower_0 rfl ?_
  refine lv_istore_n (lv' := [(2, .int (nI 0)), (0, .ref (lo (6))), (1, .int (nI a))]) hx hb dX7_lower_1 rfl hl (by decide) rfl (fun ls hl => ?_)
  have L2_1 : ∀ (n_ : Nat) (k : Nat) (cw1 : x_C), (k ≤ sn S 0) → (isSc G lo cw1 (sX X (40 + 0) (ovr k (fun q_ => min (e q_) (cst S a q_)) (X.2.2 (40 + 0))))) → (ofr co cw1 6 47) → sn S 0 - k < n_ → ∀ (H : Heap) (locs : List Loc) (ls : Array Slot), x_D AA G ss.heap lo cw1 H locs → lv_has ls 3 [(2, .int (nI k)), (0, .ref (lo (6))), (1, .int (nI a))] → x_ww l 2 0 0 pp ee ss mm av bb mt cd G po AA H locs 0 0 2 ls [] := by
    intro n_
    induction n_ with
    | zero => intro k cw1 hv hsk hof hm_ H locs ls hW hl; exact absurd hm_ (Nat.not_lt_zero _)
    | succ n_ ih2_1 =>
      intro k cw1 hv hsk hof hm_1 H locs ls hW hl
      have hw := hW.1
      have h6k := hsk.1
      rw [(Lok.row (k := 0) (f := ovr k (fun q_ => min (e q_) (cst S a q_)) (X.2.2 (40 + 0))) hS hL).1, (Lok.row (k := 0) (f := ovr k (fun q_ => min (e q_) (cst S a q_)) (X.2.2 (40 + 0))) hS hL).2.1] at h6k
      obtain ⟨f8k, hc8k, hf8k⟩ := hsk.2.2.1
      obtain ⟨f12k, hc12k, hf12k⟩ := hsk.2.2.2.2.2.2.1
      have hek : ∀ q, q < sn S 0 ∧ k ≤ q → (sX X (40 + 0) (ovr k (fun q_ => min (e q_) (cst S a q_)) (X.2.2 (40 + 0)))).2.2 (40 + 0) q = nI (e q) := fun q hq => by rw [sX_at, ovr, if_neg (by omega)]; exact he q hq.1
      refine lv_iload_n hx hb dX7_lower_2 rfl (lv_at hl 0 rfl) ?_
      refine lv_aload_n hx hb dX7_lower_3 rfl (lv_at hl 1 rfl) ?_
      refine x_get (v := .int (nI (sn S 0))) cx hk hw (h6k) f_RX7_44_6 rfl dX7_lower_4 ?_
      refine x_icmp_ge (tgt := 43) cx dX7_lower_7 (by decide) (by omega) (fun h7_2 => ?_) (fun h7_2 => ?_)
      · skip
        exact y_vret cx hW hr hlk ⟨by decide, by decide⟩ dX7_lower_43 (by rw [← hpo]; exact ⟨rfl, rfl, by rw [show sn S 0 = k by omega]; exact hsk, hof⟩)
      · skip
        have hw100 := wq_le hS (q := k) (by omega)
        have he6 := he60 k (by omega)
        have hcs := cst_le hS (a := a) (q := k) (by omega) ha_
        refine lv_aload_n hx hb dX7_lower_10 rfl (lv_at hl 1 rfl) ?_
        refine x_get (v := .ref (lo (12))) cx hk hw (h6k) f_RX7_29_6 rfl dX7_lower_11 ?_
        refine lv_iconst (v := nI 0) hx hb dX7_lower_14 rfl ?_
        refine x_aaldIN cx hk hw (hc12k) (by omega) (by first | decide | omega) (congrArg va_rf (hf12k 0 (by omega))) dX7_lower_15 ?_
        refine lv_iload_n hx hb dX7_lower_16 rfl (lv_at hl 0 rfl) ?_
        refine lv_aload_n hx hb dX7_lower_17 rfl (lv_at hl 1 rfl) ?_
        refine x_get (v := .ref (lo (12))) cx hk hw (h6k) f_RX7_29_6 rfl dX7_lower_18 ?_
        refine lv_iconst (v := nI 0) hx hb dX7_lower_21 rfl ?_
        refine x_aaldIN cx hk hw (hc12k) (by omega) (by first | decide | omega) (congrArg va_rf (hf12k 0 (by omega))) dX7_lower_22 ?_
        refine lv_iload_n hx hb dX7_lower_23 rfl (lv_at hl 0 rfl) ?_
        refine x_ialdE (x := nI (e k)) cx hk hw ((hsk.2.2.2.2.2.2.2.2 0 (by omega))) (by omega) (by decide) (hek k (by omega)) dX7_lower_24 ?_
        refine lv_aload_n hx hb dX7_lower_25 rfl (lv_at hl 1 rfl) ?_
        refine x_get (v := .ref (lo (8))) cx hk hw (h6k) f_RX7_17_6 rfl dX7_lower_26 ?_
        refine lv_iload_n hx hb dX7_lower_29 rfl (lv_at hl 2 rfl) ?_
        refine x_aaldIN cx hk hw (hc8k) (by omega) (by first | decide | omega) (congrArg va_rf (hf8k a (by omega))) dX7_lower_30 ?_
        refine lv_iload_n hx hb dX7_lower_31 rfl (lv_at hl 0 rfl) ?_
        refine x_ialdE (x := nI (cst S a k)) cx hk hw ((hsk.2.2.2.2.2.2.2.1 a (by omega))) (by omega) (by decide) (((Lok.row (k := 0) hS hL).2.2.2 a (by omega)).2.2.2 k (by omega)) dX7_lower_32 ?_
        refine x_mmin cx hl.1 w_606 (by omega) w_244 w_8 w_245 ⟨Nat.le_of_ble_eq_true rfl, Nat.le_of_ble_eq_true rfl⟩ ⟨Nat.zero_le _, Nat.zero_le _⟩ dX7_lower_33 ?_
        refine sc_stL cx hk hW hsk (by omega) (by omega) dX7_lower_36 (fun co3 H locs hs3 ho3 hW => ?_)
        have hw := hW.1
        refine lv_iinc (v := nI (k + 1)) (lv' := [(2, .int (nI (k + 1))), (0, .ref (lo (6))), (1, .int (nI a))]) hx hb dX7_lower_37 hl (k := 0) rfl (nI_add _ 1) (by decide) rfl (fun ls hl => ?_)
        refine lv_goto (tgt := 2) hx hb dX7_lower_40 (by decide) ?_
        exact ih2_1 (k + 1) _ (by omega) (by have h_ := hs3; rw [sX_at, ovr_s rfl, sX_sX] at h_; exact h_) (by exact (hof).tr ho3) (by omega) _ _ _ hW (lv_sub hl [0, 1, 2] rfl)
  exact L2_1 (_ + 1) 0 _ (by omega) (by rw [ovr_0, sX_id]; exact hs) (by exact ofr.rf _ _ _) (Nat.lt_succ_self _) _ _ _ hW (lv_sub hl [0, 1, 2] rfl)
set_option maxHeartbeats 4000000 in
set_option maxRecDepth 100000 in
theorem g_weigh {l : Launch} {G : x_G} {lo : x_L} {co : x_C} (S : St) (X : Sc) (hS : Sok S) (hs : isSc G lo co X) (hL : Lok S X) (s : Nat) (hr0 : Lrow S X 0 (fun q => m_plain S q)) (hs_ : s < 2 ^ 31) : x_Wr l G lo (co) yX7_weigh cX7_weigh 5 (some .long) 4 0 0 [.ref (lo (6)), .int (nI s)] (fun (v : Option Value) (lo1 : x_L) (co1 : x_C) => v = some (.long (lN (m_tot S s))) ∧ lo1 = lo ∧ ofr co co1 6 47 ∧ ∃ X1, isSc G lo co1 X1 ∧ Lok S X1 ∧ Lrow S X1 0 (fun q => m_plain S q)) := by
  refine x_wenter RX7 rfl (by decide) (Nat.le_of_ble_eq_true rfl) ?_
  intro pp ee ss mm bb mt cd ls AA cx hk hW hA hr hlk hnm hl
  have hl : lv_has ls 5 [(0, .ref (lo (6))), (1, .int (nI s))] := hl
  generalize hav : ([.ref (lo (6)), .int (nI s)] : List Value).toArray = av at cx ⊢
  generalize hpo : (fun (v : Option Value) (lo1 : x_L) (co1 : x_C) => v = some (.long (lN (m_tot S s))) ∧ lo1 = lo ∧ ofr co co1 6 47 ∧ ∃ X1, isSc G lo co1 X1 ∧ Lok S X1 ∧ Lrow S X1 0 (fun q => m_plain S q)) = po
  have hx := cx.1
  have hb := cx.2.1
  have hown := cx.2.2.2.1
  have hts := cx.2.2.2.2
  have hw := hW.1
  suffices key_ : ∀ (H : Heap) (locs : List Loc), x_D AA G ss.heap lo (co) H locs → x_ww l 4 0 0 pp ee ss mm av bb mt cd G po AA H locs 0 0 0 ls [] from key_ _ _ hW
  intro H locs hW
  have hw := hW.1
  obtain ⟨s1, s2, s3, s4, s5, s6⟩ := id hS
  have h6 := hs.1
  rw [hL.1, hL.2.1] at h6
  obtain ⟨f8, hc8, hf8⟩ := hs.2.2.1
  obtain ⟨f12, hc12, hf12⟩ := hs.2.2.2.2.2.2.1
  have hb12 := Sok.b12 hS
  refine lv_aload_n hx hb dX7_weigh_0 rfl (lv_at hl 0 rfl) ?_
  refine x_rdV (av := []) (rest := []) cx hk hw (h6) cv_RX7_93_6 (s_wn S X hS hs hL (fun q_ => m_plain S q_) (fun q hq => m_plain_le hS hq) hr0) hl.1 rfl rfl (Nat.le_of_ble_eq_true rfl) ⟨by decide, by decide⟩ ⟨Nat.zero_le _, Nat.zero_le _⟩ dX7_weigh_1 ?_
  refine lv_lstore_n (lv' := [(2, .long (lN (sq S (fun q_ => m_plain S q_) (sn S 0)))), (0, .ref (lo (6))), (1, .int (nI s))]) hx hb dX7_weigh_4 rfl hl (by decide) rfl (fun ls hl => ?_)
  refine lv_iconst (v := nI 0) hx hb dX7_weigh_5 rfl ?_
  refine lv_istore (lv' := [(4, .int (nI 0)), (2, .long (lN (sq S (fun q_ => m_plain S q_) (sn S 0)))), (0, .ref (lo (6))), (1, .int (nI s))]) hx hb dX7_weigh_6 hl (by decide) rfl (fun ls hl => ?_)
  have L8_1 : ∀ (n_ : Nat) (f : Int64) (a : Nat) (X1 : Sc) (cw1 : x_C), (a ≤ sn S 1) → (f = lN (wt S s a)) → (isSc G lo cw1 X1) → (Lok S X1) → (Lrow S X1 a (fun q => m_lc S q s a)) → (Lrow S X1 0 (fun q => m_plain S q)) → (ofr co cw1 6 47) → sn S 1 - a < n_ → ∀ (H : Heap) (locs : List Loc) (ls : Array Slot), x_D AA G ss.heap lo cw1 H locs → lv_has ls 5 [(4, .int (nI a)), (2, .long (f)), (0, .ref (lo (6))), (1, .int (nI s))] → x_ww l 4 0 0 pp ee ss mm av bb mt cd G po AA H locs 0 0 8 ls [] := by
    intro n_
    induction n_ with
    | zero => intro f a X1 cw1 hv hf hs1 hL1 hr1 hr01 hof hm_ H locs ls hW hl; exact absurd hm_ (Nat.not_lt_zero _)
    | succ n_ ih8_1 =>
      intro f a X1 cw1 hv hf hs1 hL1 hr1 hr01 hof hm_1 H locs ls hW hl
      have hw := hW.1
      have h61 := hs1.1
      rw [hL1.1, hL1.2.1] at h61
      obtain ⟨f81, hc81, hf81⟩ := hs1.2.2.1
      obtain ⟨f121, hc121, hf121⟩ := hs1.2.2.2.2.2.2.1
      refine lv_iload hx hb dX7_weigh_8 (lv_at hl 0 rfl) ?_
      refine lv_aload_n hx hb dX7_weigh_10 rfl (lv_at hl 2 rfl) ?_
      refine x_get (v := .int (nI (sn S 1))) cx hk hw (h61) f_RX7_48_6 rfl dX7_weigh_11 ?_
      refine x_icmp_ge (tgt := 64) cx dX7_weigh_14 (by decide) (by omega) (fun h14_2 => ?_) (fun h14_2 => ?_)
      · skip
        refine lv_lload_n hx hb dX7_weigh_64 rfl (lv_at hl 1 rfl) ?_
        exact y_lret cx hW hr hlk ⟨by decide, by decide⟩ dX7_weigh_65 (by rw [← hpo]; exact ⟨by rw [hf, show a = sn S 1 by omega, wt_e], rfl, hof, X1, hs1, hL1, hr01⟩)
      · skip
        refine lv_lload_n hx hb dX7_weigh_17 rfl (lv_at hl 1 rfl) ?_
        refine lv_iload hx hb dX7_weigh_18 (lv_at hl 0 rfl) ?_
        refine lv_iload_n hx hb dX7_weigh_20 rfl (lv_at hl 3 rfl) ?_
        refine x_rdSN (av := [.int (nI a), .int (nI s)]) (rest := [.long (f)]) cx hk hw cn_RX7_97 (c_isIn a s (by omega) (by omega)) hl.1 rfl rfl (Nat.le_of_ble_eq_true rfl) ⟨by decide, by decide⟩ ⟨Nat.zero_le _, Nat.zero_le _⟩ dX7_weigh_21 ?_
        have J44_3 : ∀ (y3_s0 : Int64) (ey3_s0 : y3_s0 = if (s.testBit a) = true then (lN (svN S a (fun q_ => m_lc S q_ s a) (sn S 0)) - lN (m_kc S a)) else (lN 0)) (ls : Array Slot), lv_has ls 5 [(4, .int (nI a)), (2, .long (f)), (0, .ref (lo (6))), (1, .int (nI s))] → x_ww l 4 0 0 pp ee ss mm av bb mt cd G po AA H locs 0 0 44 ls [.long (y3_s0), .long (f)] := by
          intro y3_s0 ey3_s0 ls hl
          have dy3_s0 : ((s.testBit a) = true ∧ (y3_s0 = (lN (svN S a (fun q_ => m_lc S q_ s a) (sn S 0)) - lN (m_kc S a)))) ∨ (¬ ((s.testBit a) = true) ∧ (y3_s0 = (lN 0))) := by rw [ey3_s0]; repeat' (first | (exact rfl) | (split <;> first | (refine Or.inl ⟨by assumption, ?_⟩) | (refine Or.inr ⟨by assumption, ?_⟩)))
          refine lv_lsub hx hb dX7_weigh_44 ?_
          refine lv_lstore_n (lv' := [(2, .long (f - y3_s0)), (4, .int (nI a)), (0, .ref (lo (6))), (1, .int (nI s))]) hx hb dX7_weigh_45 rfl hl (by decide) rfl (fun ls hl => ?_)
          refine lv_aload_n hx hb dX7_weigh_46 rfl (lv_at hl 2 rfl) ?_
          refine lv_iload hx hb dX7_weigh_47 (lv_at hl 1 rfl) ?_
          refine lv_iload hx hb dX7_weigh_49 (lv_at hl 1 rfl) ?_
          refine lv_iload_n hx hb dX7_weigh_51 rfl (lv_at hl 3 rfl) ?_
          refine x_rdSN (av := [.int (nI a), .int (nI s)]) (rest := [.int (nI a), .ref (lo (6))]) cx hk hw cn_RX7_97 (c_isIn a s (by omega) (by omega)) hl.1 rfl rfl (Nat.le_of_ble_eq_true rfl) ⟨by decide, by decide⟩ ⟨Nat.zero_le _, Nat.zero_le _⟩ dX7_weigh_52 ?_
          refine y_wrV (av := [.int (nI a), .int (bI (s.testBit a))]) (rest := []) cx hk hW hA (h61) cv_RX7_105_6 (g_settle S X1 hS hs1 hL1 (fun q_ => m_lc S q_ s a) (fun q hq => m_lc_le hS hq a) a (s.testBit a) hr1 (by omega)) hl.1 rfl rfl (Nat.le_of_ble_eq_true rfl) ⟨by decide, by decide⟩ ⟨by decide, by decide⟩ dX7_weigh_55 (fun v_ lo4 co4 H locs hq_ hW => ?_)
          obtain ⟨hv_, hlo_, hs4, ho4⟩ := hq_
          have hlo2_ := hlo_.symm
          subst hv_ hlo2_
          have hw := hW.1
          have hL4 : Lok S (sX X1 (40 + (a + 1)) (ovr (sn S 0) (fun q_ => if s.testBit a = true then min ((fun q_ => m_lc S q_ s a) q_) (cst S a q_) else (fun q_ => m_lc S q_ s a) q_) (X1.2.2 (40 + (a + 1))))) := Lok.row hS hL1
          have hrr4 : Lrow S (sX X1 (40 + (a + 1)) (ovr (sn S 0) (fun q_ => if s.testBit a = true then min ((fun q_ => m_lc S q_ s a) q_) (cst S a q_) else (fun q_ => m_lc S q_ s a) q_) (X1.2.2 (40 + (a + 1))))) a (fun q_ => m_lc S q_ s a) := fun q hq => by rw [sX_ne (by omega)]; exact hr1 q hq
          have h64 := hs4.1
          rw [hL4.1, hL4.2.1] at h64
          obtain ⟨f84, hc84, hf84⟩ := hs4.2.2.1
          obtain ⟨f124, hc124, hf124⟩ := hs4.2.2.2.2.2.2.1
          refine lv_iinc (v := nI (a + 1)) (lv' := [(4, .int (nI (a + 1))), (2, .long (f - y3_s0)), (0, .ref (lo (6))), (1, .int (nI s))]) hx hb dX7_weigh_58 hl (k := 1) rfl (nI_add _ 1) (by decide) rfl (fun ls hl => ?_)
          refine lv_goto (tgt := 8) hx hb dX7_weigh_61 (by decide) ?_
          exact ih8_1 (f - y3_s0) (a + 1) (sX X1 (40 + (a + 1)) (ovr (sn S 0) (fun q_ => if s.testBit a = true then min ((fun q_ => m_lc S q_ s a) q_) (cst S a q_) else (fun q_ => m_lc S q_ s a) q_) (X1.2.2 (40 + (a + 1))))) _ (by omega) (by rw [hf, ey3_s0]; cases e_ : s.testBit a with | true => (rw [if_pos rfl]; exact lN_mv (wt_s e_)) | false => (rw [if_neg (by decide), lN_sub0, wt_n e_])) (by exact hs4) (by exact Lok.row hS hL1) (by intro q hq; rw [sX_at, ovr, if_pos hq]; show _ = nI (m_lc S q s (a + 1)); rw [lc_s]) (by intro q hq; rw [sX_ne (by omega)]; exact hr01 q hq) (by exact (hof).tr ho4) (by omega) _ _ _ hW (lv_sub hl [0, 1, 2, 3] rfl)
        refine x_if_eq (tgt := 43) cx dX7_weigh_24 (by decide) (fun h24_5 => ?_) (fun h24_5 => ?_)
        · skip
          refine lv_lconst (v := lN 0) hx hb dX7_weigh_43 rfl ?_
          exact J44_3 (lN 0) (by rw [if_neg (fun q => Bool.noConfusion (h24_5.symm.trans q))]) _ (lv_sub hl [0, 1, 2, 3] rfl)
        · skip
          refine lv_aload_n hx hb dX7_weigh_27 rfl (lv_at hl 2 rfl) ?_
          refine lv_iload hx hb dX7_weigh_28 (lv_at hl 0 rfl) ?_
          refine lv_aload_n hx hb dX7_weigh_30 rfl (lv_at hl 2 rfl) ?_
          refine x_get (v := .ref (lo (12))) cx hk hw (h61) f_RX7_29_6 rfl dX7_weigh_31 ?_
          refine lv_iload hx hb dX7_weigh_34 (lv_at hl 0 rfl) ?_
          refine x_aaldIN cx hk hw (hc121) (by omega) (by first | decide | omega) (congrArg va_rf (hf121 a (by omega))) dX7_weigh_36 ?_
          refine x_rdV (av := [.int (nI a), .ref (lo (tL a))]) (rest := [.long (f)]) cx hk hw (h61) cv_RX7_101_6 (s_sv S X1 hS hs1 hL1 (fun q_ => m_lc S q_ s a) (fun q hq => m_lc_le hS hq a) a a hr1 (by omega) (by omega)) hl.1 rfl rfl (Nat.le_of_ble_eq_true rfl) ⟨by decide, by decide⟩ ⟨Nat.zero_le _, Nat.zero_le _⟩ dX7_weigh_37 ?_
          refine lv_goto (tgt := 44) hx hb dX7_weigh_40 (by decide) ?_
          exact J44_3 (lN (svN S a (fun q_ => m_lc S q_ s a) (sn S 0)) - lN (m_kc S a)) (by rw [if_pos h24_5]) _ (lv_sub hl [0, 1, 2, 3] rfl)
  exact L8_1 (_ + 1) (lN (sq S (fun q_ => m_plain S q_) (sn S 0))) 0 X _ (by omega) (by rfl) (by exact hs) (by exact hL) (by exact hr0) (by exact hr0) (by exact ofr.rf _ _ _) (Nat.lt_succ_self _) _ _ _ hW (lv_sub hl [0, 1, 2, 3] rfl)
