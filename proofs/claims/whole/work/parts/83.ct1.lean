set_option maxHeartbeats 4000000 in
set_option maxRecDepth 100000 in
theorem k_table {l : Launch} {G : x_G} {lo : x_L} {co : x_C} (b : Nat) (hb_ : co b = some (.inr (8, [.int (nI 0), .int (nI 0), .int (nI 0), .int (nI 0), .int (nI 0), .int (nI 0), .null, .null, .null, .null]))) (hn_ : ∀ i, 1 ≤ i → i < 5 → co (b + i) = none) (n c p : Nat) : x_Wr l G lo (co) yX9_init cX9_init 4 none 1 4 252 [.ref (lo (b)), .int (nI n), .int (nI c), .int (nI p)] (fun (v : Option Value) (lo1 : x_L) (co1 : x_C) => v = none ∧ isTb G lo1 co1 b (newT n c p) ∧ ctr lo lo1 co co1 b 5) := by
  refine x_wenter RX9 rfl (by decide) (Nat.le_of_ble_eq_true rfl) ?_
  intro pp ee ss mm bb mt cd ls AA cx hk hW hA hr hlk hnm hl
  have hl : lv_has ls 4 [(0, .ref (lo (b))), (1, .int (nI n)), (2, .int (nI c)), (3, .int (nI p))] := hl
  generalize hav : ([.ref (lo (b)), .int (nI n), .int (nI c), .int (nI p)] : List Value).toArray = av at cx ⊢
  generalize hpo : (fun (v : Option Value) (lo1 : x_L) (co1 : x_C) => v = none ∧ isTb G lo1 co1 b (newT n c p) ∧ ctr lo lo1 co co1 b 5) = po
  have hx := cx.1
  have hb := cx.2.1
  have hown := cx.2.2.2.1
  have hts := cx.2.2.2.2
  obtain ⟨lo1, hlu, hlo1⟩ := x_los lo b 4 ss.heap.size
  have hu1 : lo1 (b + 1) = ss.heap.size + 0 := hlu 0 (by decide)
  have hu2 : lo1 (b + 2) = ss.heap.size + 1 := hlu 1 (by decide)
  have hu3 : lo1 (b + 3) = ss.heap.size + 2 := hlu 2 (by decide)
  have hu4 : lo1 (b + 4) = ss.heap.size + 3 := hlu 3 (by decide)
  have hW := hW.relo (x_relo (n := 4) hn_ hlo1)
  rw [show lo b = lo1 b from (hlo1 b (by omega)).symm] at hl
  have hz : ss.heap.size = ss.heap.size + 0 := rfl
  have hw := hW.1
  refine lv_aload_n hx hb dX9_init_0 rfl (lv_at hl 0 rfl) ?_
  refine x_oi cx hl.1 w_123 w_29 w_30 ⟨by decide, by decide⟩ dX9_init_1 ?_
  refine lv_aload_n hx hb dX9_init_4 rfl (lv_at hl 0 rfl) ?_
  refine lv_sipush (v := nI 240) hx hb dX9_init_5 rfl ?_
  refine x_newIS (b + 1) cx hk hW hA (hn_ 1 (by decide) (by decide)) (hu1.trans hz.symm) w_98 (by decide) (by decide) (by decide) dX9_init_8 (fun H hz1 hW => ?_)
  have hz : H.size = ss.heap.size + 1 := hz1.trans (congrArg (· + 1) hz)
  have hw := hW.1
  refine x_putS (v := .ref (lo1 (b + 1))) cx hk hW ((va_up_ne _ _ (by omega)).trans (hb_)) p_RX9_9_8 (fun _ => hnm.trans rfl) (by simp) rfl rfl dX9_init_10 (fun H locs hz2 hW => ?_)
  have hz : H.size = ss.heap.size + 1 := hz2.trans hz
  have hw := hW.1
  refine lv_aload_n hx hb dX9_init_13 rfl (lv_at hl 0 rfl) ?_
  refine lv_iconst (v := nI 4) hx hb dX9_init_14 rfl ?_
  refine x_newIS (b + 2) cx hk hW hA ((va_up_ne _ _ (by omega)).trans ((va_up_ne _ _ (by omega)).trans (hn_ 2 (by decide) (by decide)))) (hu2.trans hz.symm) w_98 (by decide) (by decide) (by decide) dX9_init_15 (fun H hz3 hW => ?_)
  have hz : H.size = ss.heap.size + 2 := hz3.trans (congrArg (· + 1) hz)
  have hw := hW.1
  refine x_putS (v := .ref (lo1 (b + 2))) cx hk hW ((va_up_ne _ _ (by omega)).trans (va_up_self _ _ _)) p_RX9_15_8 (fun _ => hnm.trans rfl) (by simp) rfl rfl dX9_init_17 (fun H locs hz4 hW => ?_)
  have hz : H.size = ss.heap.size + 2 := hz4.trans hz
  have hw := hW.1
  refine lv_aload_n hx hb dX9_init_20 rfl (lv_at hl 0 rfl) ?_
  refine lv_iconst (v := nI 4) hx hb dX9_init_21 rfl ?_
  refine x_newIS (b + 3) cx hk hW hA ((va_up_ne _ _ (by omega)).trans ((va_up_ne _ _ (by omega)).trans ((va_up_ne _ _ (by omega)).trans ((va_up_ne _ _ (by omega)).trans (hn_ 3 (by decide) (by decide)))))) (hu3.trans hz.symm) w_98 (by decide) (by decide) (by decide) dX9_init_22 (fun H hz5 hW => ?_)
  have hz : H.size = ss.heap.size + 3 := hz5.trans (congrArg (· + 1) hz)
  have hw := hW.1
  refine x_putS (v := .ref (lo1 (b + 3))) cx hk hW ((va_up_ne _ _ (by omega)).trans (va_up_self _ _ _)) p_RX9_18_8 (fun _ => hnm.trans rfl) (by simp) rfl rfl dX9_init_24 (fun H locs hz6 hW => ?_)
  have hz : H.size = ss.heap.size + 3 := hz6.trans hz
  have hw := hW.1
  refine lv_aload_n hx hb dX9_init_27 rfl (lv_at hl 0 rfl) ?_
  refine lv_iconst (v := nI 4) hx hb dX9_init_28 rfl ?_
  refine x_newIS (b + 4) cx hk hW hA ((va_up_ne _ _ (by omega)).trans ((va_up_ne _ _ (by omega)).trans ((va_up_ne _ _ (by omega)).trans ((va_up_ne _ _ (by omega)).trans ((va_up_ne _ _ (by omega)).trans ((va_up_ne _ _ (by omega)).trans (hn_ 4 (by decide) (by decide)))))))) (hu4.trans hz.symm) w_98 (by decide) (by decide) (by decide) dX9_init_29 (fun H hz7 hW => ?_)
  have hz : H.size = ss.heap.size + 4 := hz7.trans (congrArg (· + 1) hz)
  have hw := hW.1
  refine x_putS (v := .ref (lo1 (b + 4))) cx hk hW ((va_up_ne _ _ (by omega)).trans (va_up_self _ _ _)) p_RX9_21_8 (fun _ => hnm.trans rfl) (by simp) rfl rfl dX9_init_31 (fun H locs hz8 hW => ?_)
  have hz : H.size = ss.heap.size + 4 := hz8.trans hz
  have hw := hW.1
  refine lv_aload_n hx hb dX9_init_34 rfl (lv_at hl 0 rfl) ?_
  refine lv_iload_n hx hb dX9_init_35 rfl (lv_at hl 1 rfl) ?_
  refine x_putS (v := .int (nI n)) cx hk hW (va_up_self _ _ _) p_RX9_24_8 (fun _ => hnm.trans rfl) (by simp) rfl rfl dX9_init_36 (fun H locs hz9 hW => ?_)
  have hz : H.size = ss.heap.size + 4 := hz9.trans hz
  have hw := hW.1
  refine lv_aload_n hx hb dX9_init_39 rfl (lv_at hl 0 rfl) ?_
  refine lv_iload_n hx hb dX9_init_40 rfl (lv_at hl 2 rfl) ?_
  refine x_putS (v := .int (nI c)) cx hk hW (va_up_self _ _ _) p_RX9_28_8 (fun _ => hnm.trans rfl) (by simp) rfl rfl dX9_init_41 (fun H locs hz10 hW => ?_)
  have hz : H.size = ss.heap.size + 4 := hz10.trans hz
  have hw := hW.1
  refine lv_aload_n hx hb dX9_init_44 rfl (lv_at hl 0 rfl) ?_
  refine lv_iload_n hx hb dX9_init_45 rfl (lv_at hl 3 rfl) ?_
  refine x_putS (v := .int (nI p)) cx hk hW (va_up_self _ _ _) p_RX9_31_8 (fun _ => hnm.trans rfl) (by simp) rfl rfl dX9_init_46 (fun H locs hz11 hW => ?_)
  have hz : H.size = ss.heap.size + 4 := hz11.trans hz
  have hw := hW.1
  exact y_vret cx hW hr hlk ⟨by decide, by decide⟩ dX9_init_49 (by rw [← hpo]; exact ⟨rfl, ⟨va_up_self _ _ _, (va_up_ne _ _ (by omega)).trans ((va_up_ne _ _ (by omega)).trans ((va_up_ne _ _ (by omega)).trans ((va_up_ne _ _ (by omega)).trans ((va_up_ne _ _ (by omega)).trans ((va_up_ne _ _ (by omega)).trans ((va_up_ne _ _ (by omega)).trans ((va_up_ne _ _ (by omega)).trans ((va_up_ne _ _ (by omega)).trans ((va_up_ne _ _ (by omega)).trans (va_up_self _ _ _)))))))))), (va_up_ne _ _ (by omega)).trans ((va_up_ne _ _ (by omega)).trans ((va_up_ne _ _ (by omega)).trans ((va_up_ne _ _ (by omega)).trans ((va_up_ne _ _ (by omega)).trans ((va_up_ne _ _ (by omega)).trans ((va_up_ne _ _ (by omega)).trans ((va_up_ne _ _ (by omega)).trans (va_up_self _ _ _)))))))), (va_up_ne _ _ (by omega)).trans ((va_up_ne _ _ (by omega)).trans ((va_up_ne _ _ (by omega)).trans ((va_up_ne _ _ (by omega)).trans ((va_up_ne _ _ (by omega)).trans ((va_up_ne _ _ (by omega)).trans (va_up_self _ _ _)))))), (va_up_ne _ _ (by omega)).trans ((va_up_ne _ _ (by omega)).trans ((va_up_ne _ _ (by omega)).trans ((va_up_ne _ _ (by omega)).trans (va_up_self _ _ _))))⟩, ⟨fun i hi => ⟨(va_up_ne _ _ (by omega)).trans ((va_up_ne _ _ (by omega)).trans ((va_up_ne _ _ (by omega)).trans ((va_up_ne _ _ (by omega)).trans ((va_up_ne _ _ (by omega)).trans ((va_up_ne _ _ (by omega)).trans ((va_up_ne _ _ (by omega)).trans ((va_up_ne _ _ (by omega)).trans ((va_up_ne _ _ (by omega)).trans ((va_up_ne _ _ (by omega)).trans ((va_up_ne _ _ (by omega)).trans (rfl))))))))))), hlo1 i (by omega)⟩, hlo1 b (Or.inl (Nat.le_refl b))⟩⟩)
set_option maxHeartbeats 4000000 in
set_option maxRecDepth 100000 in
theorem k_question {l : Launch} {G : x_G} {lo : x_L} {co : x_C} (b tb : Nat) (hb_ : co b = some (.inr (5, [.null, .int (nI 0), .int (nI 0), .int (nI 0), .int (nI 0), .null, .null]))) (hn_ : ∀ i, 1 ≤ i → i < 3 → co (b + i) = none) (htb : tb < b ∨ b + 3 ≤ tb) (w a n : Nat) : x_Wr l G lo (co) yX6_init cX6_init 5 none 1 2 8 [.ref (lo (b)), .ref (lo (tb)), .int (nI w), .int (nO a), .int (nI n)] (fun (v : Option Value) (lo1 : x_L) (co1 : x_C) => v = none ∧ isQn G lo1 co1 b tb (newQ w n a) ∧ ctr lo lo1 co co1 b 3) := by
  refine x_wenter RX6 rfl (by decide) (Nat.le_of_ble_eq_true rfl) ?_
  intro pp ee ss mm bb mt cd ls AA cx hk hW hA hr hlk hnm hl
  have hl : lv_has ls 5 [(0, .ref (lo (b))), (1, .ref (lo (tb))), (2, .int (nI w)), (3, .int (nO a)), (4, .int (nI n))] := hl
  generalize hav : ([.ref (lo (b)), .ref (lo (tb)), .int (nI w), .int (nO a), .int (nI n)] : List Value).toArray = av at cx ⊢
  generalize hpo : (fun (v : Option Value) (lo1 : x_L) (co1 : x_C) => v = none ∧ isQn G lo1 co1 b tb (newQ w n a) ∧ ctr lo lo1 co co1 b 3) = po
  have hx := cx.1
  have hb := cx.2.1
  have hown := cx.2.2.2.1
  have hts := cx.2.2.2.2
  obtain ⟨lo1, hlu, hlo1⟩ := x_los lo b 2 ss.heap.size
  have hu1 : lo1 (b + 1) = ss.heap.size + 0 := hlu 0 (by decide)
  have hu2 : lo1 (b + 2) = ss.heap.size + 1 := hlu 1 (by decide)
  have hW := hW.relo (x_relo (n := 2) hn_ hlo1)
  rw [show lo b = lo1 b from (hlo1 b (by omega)).symm] at hl
  rw [show lo tb = lo1 tb from (hlo1 tb (by omega)).symm] at hl
  have hz : ss.heap.size = ss.heap.size + 0 := rfl
  have hw := hW.1
  refine lv_aload_n hx hb dX6_init_0 rfl (lv_at hl 0 rfl) ?_
  refine x_oi cx hl.1 w_289 w_29 w_30 ⟨by decide, by decide⟩ dX6_init_1 ?_
  refine lv_aload_n hx hb dX6_init_4 rfl (lv_at hl 0 rfl) ?_
  refine lv_iconst (v := nI 4) hx hb dX6_init_5 rfl ?_
  refine x_newIS (b + 1) cx hk hW hA (hn_ 1 (by decide) (by decide)) (hu1.trans hz.symm) w_98 (by decide) (by decide) (by decide) dX6_init_6 (fun H hz1 hW => ?_)
  have hz : H.size = ss.heap.size + 1 := hz1.trans (congrArg (· + 1) hz)
  have hw := hW.1
  refine x_putS (v := .ref (lo1 (b + 1))) cx hk hW ((va_up_ne _ _ (by omega)).trans (hb_)) p_RX6_9_5 (fun _ => hnm.trans rfl) (by simp) rfl rfl dX6_init_8 (fun H locs hz2 hW => ?_)
  have hz : H.size = ss.heap.size + 1 := hz2.trans hz
  have hw := hW.1
  refine lv_aload_n hx hb dX6_init_11 rfl (lv_at hl 0 rfl) ?_
  refine lv_iconst (v := nI 4) hx hb dX6_init_12 rfl ?_
  refine x_newIS (b + 2) cx hk hW hA ((va_up_ne _ _ (by omega)).trans ((va_up_ne _ _ (by omega)).trans (hn_ 2 (by decide) (by decide)))) (hu2.trans hz.symm) w_98 (by decide) (by decide) (by decide) dX6_init_13 (fun H hz3 hW => ?_)
  have hz : H.size = ss.heap.size + 2 := hz3.trans (congrArg (· + 1) hz)
  have hw := hW.1
  refine x_putS (v := .ref (lo1 (b + 2))) cx hk hW ((va_up_ne _ _ (by omega)).trans (va_up_self _ _ _)) p_RX6_15_5 (fun _ => hnm.trans rfl) (by simp) rfl rfl dX6_init_15 (fun H locs hz4 hW => ?_)
  have hz : H.size = ss.heap.size + 2 := hz4.trans hz
  have hw := hW.1
  refine lv_aload_n hx hb dX6_init_18 rfl (lv_at hl 0 rfl) ?_
  refine lv_aload_n hx hb dX6_init_19 rfl (lv_at hl 1 rfl) ?_
  refine x_putS (v := .ref (lo1 (tb))) cx hk hW (va_up_self _ _ _) p_RX6_18_5 (fun _ => hnm.trans rfl) (by simp) rfl rfl dX6_init_20 (fun H locs hz5 hW => ?_)
  have hz : H.size = ss.heap.size + 2 := hz5.trans hz
  have hw := hW.1
  refine lv_aload_n hx hb dX6_init_23 rfl (lv_at hl 0 rfl) ?_
  refine lv_iload_n hx hb dX6_init_24 rfl (lv_at hl 2 rfl) ?_
  refine x_putS (v := .int (nI w)) cx hk hW (va_up_self _ _ _) p_RX6_22_5 (fun _ => hnm.trans rfl) (by simp) rfl rfl dX6_init_25 (fun H locs hz6 hW => ?_)
  have hz : H.size = ss.heap.size + 2 := hz6.trans hz
  have hw := hW.1
  refine lv_aload_n hx hb dX6_init_28 rfl (lv_at hl 0 rfl) ?_
  refine lv_iload_n hx hb dX6_init_29 rfl (lv_at hl 3 rfl) ?_
  refine x_putS (v := .int (nO a)) cx hk hW (va_up_self _ _ _) p_RX6_26_5 (fun _ => hnm.trans rfl) (by simp) rfl rfl dX6_init_30 (fun H locs hz7 hW => ?_)
  have hz : H.size = ss.heap.size + 2 := hz7.trans hz
  have hw := hW.1
  refine lv_aload_n hx hb dX6_init_33 rfl (lv_at hl 0 rfl) ?_
  refine lv_iload hx hb dX6_init_34 (lv_at hl 4 rfl) ?_
  refine x_putS (v := .int (nI n)) cx hk hW (va_up_self _ _ _) p_RX6_29_5 (fun _ => hnm.trans rfl) (by simp) rfl rfl dX6_init_36 (fun H locs hz8 hW => ?_)
  have hz : H.size = ss.heap.size + 2 := hz8.trans hz
  have hw := hW.1
  exact y_vret cx hW hr hlk ⟨by decide, by decide⟩ dX6_init_39 (by rw [← hpo]; exact ⟨rfl, ⟨va_up_self _ _ _, (va_up_ne _ _ (by omega)).trans ((va_up_ne _ _ (by omega)).trans ((va_up_ne _ _ (by omega)).trans ((va_up_ne _ _ (by omega)).trans ((va_up_ne _ _ (by omega)).trans ((va_up_ne _ _ (by omega)).trans ((va_up_ne _ _ (by omega)).trans (va_up_self _ _ _))))))), (va_up_ne _ _ (by omega)).trans ((va_up_ne _ _ (by omega)).trans ((va_up_ne _ _ (by omega)).trans ((va_up_ne _ _ (by omega)).trans ((va_up_ne _ _ (by omega)).trans (va_up_self _ _ _)))))⟩, ⟨fun i hi => ⟨(va_up_ne _ _ (by omega)).trans ((va_up_ne _ _ (by omega)).trans ((va_up_ne _ _ (by omega)).trans ((va_up_ne _ _ (by omega)).trans ((va_up_ne _ _ (by omega)).trans ((va_up_ne _ _ (by omega)).trans ((va_up_ne _ _ (by omega)).trans ((va_up_ne _ _ (by omega)).trans (rfl)))))))), hlo1 i (by omega)⟩, hlo1 b (Or.inl (Nat.le_refl b))⟩⟩)
