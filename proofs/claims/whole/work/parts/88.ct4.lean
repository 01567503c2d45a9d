set_option maxHeartbeats 4000000 in
set_option maxRecDepth 100000 in
theorem k_leaf2 {l : Launch} {G : x_G} {lo : x_L} {co : x_C} (b tb : Nat) (A : Ad) (a b_ c f_ : Int32) (o : Nat) (hb_ : co b = some (.inr (2, [.int (nI 0), .null, .int (nI 0), .null, .int (nI 0), .int (nI 0)]))) (hn_ : ∀ i, 1 ≤ i → i < 2 → co (b + i) = none) (htb : tb < b ∨ b + 2 ≤ tb) (ho_ : s_bit a ||| s_bit b_ ||| s_bit c = nI o) (hh_ : nI o ||| f_ = nI (A.1 2)) (hA0 : A.1 0 = 1) (hA6 : A.1 6 = 0) (hA7 : A.1 7 = o) (hrow_ : ∀ j, j < 3 → (upd (upd (upd (fun _ => nI 0) 0 a) 1 b_) 2 c) j = nO (a_by A j)) : x_Wr l G lo (co) yX2_init cX2_init 6 none 3 1 3 [.ref (lo (b)), .ref (lo (tb)), .int (a), .int (b_), .int (c), .int (f_)] (fun (v : Option Value) (lo1 : x_L) (co1 : x_C) => v = none ∧ isO2 G lo1 co1 b tb A ∧ ctr lo lo1 co co1 b 2 ∧ lo1 tb = lo tb) := by
  refine x_wenter RX2 rfl (by decide) (Nat.le_of_ble_eq_true rfl) ?_
  intro pp ee ss mm bb mt cd ls AA cx hk hW hA hr hlk hnm hl
  have hl : lv_has ls 6 [(0, .ref (lo (b))), (1, .ref (lo (tb))), (2, .int (a)), (3, .int (b_)), (4, .int (c)), (5, .int (f_))] := hl
  generalize hav : ([.ref (lo (b)), .ref (lo (tb)), .int (a), .int (b_), .int (c), .int (f_)] : List Value).toArray = av at cx ⊢
  generalize hpo : (fun (v : Option Value) (lo1 : x_L) (co1 : x_C) => v = none ∧ isO2 G lo1 co1 b tb A ∧ ctr lo lo1 co co1 b 2 ∧ lo1 tb = lo tb) = po
  have hx := cx.1
  have hb := cx.2.1
  have hown := cx.2.2.2.1
  have hts := cx.2.2.2.2
  have hw := hW.1
  refine lv_aload_n hx hb dX2_init_0 rfl (lv_at hl 0 rfl) ?_
  refine lv_iconst (v := nI 1) hx hb dX2_init_1 rfl ?_
  refine lv_aload_n hx hb dX2_init_2 rfl (lv_at hl 1 rfl) ?_
  refine lv_iload_n hx hb dX2_init_3 rfl (lv_at hl 2 rfl) ?_
  refine lv_iload_n hx hb dX2_init_4 rfl (lv_at hl 3 rfl) ?_
  refine lv_iload hx hb dX2_init_5 (lv_at hl 4 rfl) ?_
  refine y_wrI (av := [.int (nI 1), .ref (lo (tb)), .int (a), .int (b_), .int (c)]) (rest := []) cx hk hW hA ci_RX2_3 (k_ord2 b tb 1 a b_ c o hb_ hn_ htb ho_) hl.1 rfl rfl (Nat.le_of_ble_eq_true rfl) ⟨by decide, by decide⟩ ⟨by decide, by decide⟩ dX2_init_7 (fun v_ lo1 co1 H locs hq_ hW => ?_)
  obtain ⟨hv_, hob1, hrw1, hct1, htb1⟩ := hq_
  subst hv_
  have hw := hW.1
  rw [← hct1.2] at hl
  refine lv_aload_n hx hb dX2_init_10 rfl (lv_at hl 0 rfl) ?_
  refine lv_aload_n hx hb dX2_init_11 rfl (lv_at hl 0 rfl) ?_
  refine x_get (v := .int (nI o)) cx hk hw (hob1) f_RX2_9_2 rfl dX2_init_12 ?_
  refine lv_iload hx hb dX2_init_15 (lv_at hl 5 rfl) ?_
  refine lv_ior hx hb dX2_init_17 ?_
  rw [hh_]
  refine x_putS (v := .int (nI (A.1 2))) cx hk hW (hob1) p_RX2_15_2 (fun _ => hnm.trans rfl) (by simp) rfl rfl dX2_init_18 (fun H locs hz2 hW => ?_)
  have hw := hW.1
  have hW := hW.rerow ((va_up_ne _ _ (by omega)).trans (hrw1)) hrow_
  exact y_vret cx hW hr hlk ⟨by decide, by decide⟩ dX2_init_21 (by rw [← hpo]; exact ⟨rfl, ⟨by rw [hA0, hA6, hA7]; exact (va_up_ne _ _ (by omega)).trans (va_up_self _ _ _), va_up_self _ _ _⟩, ⟨fun i hi => ⟨(va_up_ne _ _ (by omega)).trans ((va_up_ne _ _ (by omega)).trans ((hct1.1 i (by omega)).1.trans (rfl))), (hct1.1 i (by omega)).2⟩, hct1.2⟩, htb1⟩)
set_option maxHeartbeats 4000000 in
set_option maxRecDepth 100000 in
theorem k_leaf4 {l : Launch} {G : x_G} {lo : x_L} {co : x_C} (b tb : Nat) (A : Ad) (a b_ : Int32) (x y z o : Nat) (hb_ : co b = some (.inr (4, [.int (nI 0), .null, .int (nI 0), .null, .int (nI 0), .int (nI 0), .int (nI 0), .int (nI 0)]))) (hn_ : ∀ i, 1 ≤ i → i < 2 → co (b + i) = none) (htb : tb < b ∨ b + 2 ≤ tb) (ho_ : s_bit a ||| s_bit b_ ||| s_bit (-1) = nI o) (hA0 : A.1 0 = 2) (hA6 : A.1 6 = 0) (hA7 : A.1 7 = o) (hA3 : A.1 3 = x) (hA4 : A.1 4 = y) (hA5 : A.1 5 = z) (hrow_ : ∀ j, j < 3 → (upd (upd (upd (fun _ => nI 0) 0 a) 1 b_) 2 (-1)) j = nO (a_by A j)) : x_Wr l G lo (co) yX5_init cX5_init 7 none 3 1 3 [.ref (lo (b)), .ref (lo (tb)), .int (a), .int (b_), .int (nI x), .int (nI y), .int (nI z)] (fun (v : Option Value) (lo1 : x_L) (co1 : x_C) => v = none ∧ isO4 G lo1 co1 b tb A ∧ ctr lo lo1 co co1 b 2 ∧ lo1 tb = lo tb) := by
  refine x_wenter RX5 rfl (by decide) (Nat.le_of_ble_eq_true rfl) ?_
  intro pp ee ss mm bb mt cd ls AA cx hk hW hA hr hlk hnm hl
  have hl : lv_has ls 7 [(0, .ref (lo (b))), (1, .ref (lo (tb))), (2, .int (a)), (3, .int (b_)), (4, .int (nI x)), (5, .int (nI y)), (6, .int (nI z))] := hl
  generalize hav : ([.ref (lo (b)), .ref (lo (tb)), .int (a), .int (b_), .int (nI x), .int (nI y), .int (nI z)] : List Value).toArray = av at cx ⊢
  generalize hpo : (fun (v : Option Value) (lo1 : x_L) (co1 : x_C) => v = none ∧ isO4 G lo1 co1 b tb A ∧ ctr lo lo1 co co1 b 2 ∧ lo1 tb = lo tb) = po
  have hx := cx.1
  have hb := cx.2.1
  have hown := cx.2.2.2.1
  have hts := cx.2.2.2.2
  have hw := hW.1
  refine lv_aload_n hx hb dX5_init_0 rfl (lv_at hl 0 rfl) ?_
  refine lv_iconst (v := nI 2) hx hb dX5_init_1 rfl ?_
  refine lv_aload_n hx hb dX5_init_2 rfl (lv_at hl 1 rfl) ?_
  refine lv_iload_n hx hb dX5_init_3 rfl (lv_at hl 2 rfl) ?_
  refine lv_iload_n hx hb dX5_init_4 rfl (lv_at hl 3 rfl) ?_
  refine lv_iconst (v := (-1)) hx hb dX5_init_5 rfl ?_
  refine y_wrI (av := [.int (nI 2), .ref (lo (tb)), .int (a), .int (b_), .int ((-1))]) (rest := []) cx hk hW hA ci_RX5_3 (k_ord4 b tb 2 a b_ (-1) o hb_ hn_ htb ho_) hl.1 rfl rfl (Nat.le_of_ble_eq_true rfl) ⟨by decide, by decide⟩ ⟨by decide, by decide⟩ dX5_init_6 (fun v_ lo1 co1 H locs hq_ hW => ?_)
  obtain ⟨hv_, hob1, hrw1, hct1, htb1⟩ := hq_
  subst hv_
  have hw := hW.1
  rw [← hct1.2] at hl
  refine lv_aload_n hx hb dX5_init_9 rfl (lv_at hl 0 rfl) ?_
  refine lv_iload hx hb dX5_init_10 (lv_at hl 4 rfl) ?_
  refine x_putS (v := .int (nI x)) cx hk hW (hob1) p_RX5_9_4 (fun _ => hnm.trans rfl) (by simp) rfl rfl dX5_init_12 (fun H locs hz2 hW => ?_)
  have hw := hW.1
  refine lv_aload_n hx hb dX5_init_15 rfl (lv_at hl 0 rfl) ?_
  refine lv_iload hx hb dX5_init_16 (lv_at hl 5 rfl) ?_
  refine x_putS (v := .int (nI y)) cx hk hW (va_up_self _ _ _) p_RX5_15_4 (fun _ => hnm.trans rfl) (by simp) rfl rfl dX5_init_18 (fun H locs hz3 hW => ?_)
  have hw := hW.1
  refine lv_aload_n hx hb dX5_init_21 rfl (lv_at hl 0 rfl) ?_
  refine lv_iload hx hb dX5_init_22 (lv_at hl 6 rfl) ?_
  refine x_putS (v := .int (nI z)) cx hk hW (va_up_self _ _ _) p_RX5_18_4 (fun _ => hnm.trans rfl) (by simp) rfl rfl dX5_init_24 (fun H locs hz4 hW => ?_)
  have hw := hW.1
  have hW := hW.rerow ((va_up_ne _ _ (by omega)).trans ((va_up_ne _ _ (by omega)).trans ((va_up_ne _ _ (by omega)).trans (hrw1)))) hrow_
  exact y_vret cx hW hr hlk ⟨by decide, by decide⟩ dX5_init_27 (by rw [← hpo]; exact ⟨rfl, ⟨by rw [hA0, hA6, hA7, hA3, hA4, hA5]; exact (va_up_ne _ _ (by omega)).trans (va_up_self _ _ _), va_up_self _ _ _⟩, ⟨fun i hi => ⟨(va_up_ne _ _ (by omega)).trans ((va_up_ne _ _ (by omega)).trans ((va_up_ne _ _ (by omega)).trans ((va_up_ne _ _ (by omega)).trans ((hct1.1 i (by omega)).1.trans (rfl))))), (hct1.1 i (by omega)).2⟩, hct1.2⟩, htb1⟩)
set_option maxHeartbeats 4000000 in
set_option maxRecDepth 100000 in
theorem k_leaf7 {l : Launch} {G : x_G} {lo : x_L} {co : x_C} (b tb : Nat) (A : Ad) (x y : Nat) (hb_ : co b = some (.inr (7, [.int (nI 0), .null, .int (nI 0), .int (nI 0), .int (nI 0)]))) (hA0 : A.1 0 = 3) (hA6 : A.1 6 = 0) (hA2 : A.1 2 = x) (hA3 : A.1 3 = y) : x_Wr l G lo (co) yX8_init cX8_init 4 none 2 0 0 [.ref (lo (b)), .ref (lo (tb)), .int (nI x), .int (nI y)] (fun (v : Option Value) (lo1 : x_L) (co1 : x_C) => v = none ∧ lo1 = lo ∧ isO7 G lo1 co1 b tb A ∧ ofr co co1 b 1) := by
  refine x_wenter RX8 rfl (by decide) (Nat.le_of_ble_eq_true rfl) ?_
  intro pp ee ss mm bb mt cd ls AA cx hk hW hA hr hlk hnm hl
  have hl : lv_has ls 4 [(0, .ref (lo (b))), (1, .ref (lo (tb))), (2, .int (nI x)), (3, .int (nI y))] := hl
  generalize hav : ([.ref (lo (b)), .ref (lo (tb)), .int (nI x), .int (nI y)] : List Value).toArray = av at cx ⊢
  generalize hpo : (fun (v : Option Value) (lo1 : x_L) (co1 : x_C) => v = none ∧ lo1 = lo ∧ isO7 G lo1 co1 b tb A ∧ ofr co co1 b 1) = po
  have hx := cx.1
  have hb := cx.2.1
  have hown := cx.2.2.2.1
  have hts := cx.2.2.2.2
  have hw := hW.1
  refine lv_aload_n hx hb dX8_init_0 rfl (lv_at hl 0 rfl) ?_
  refine lv_iconst (v := nI 3) hx hb dX8_init_1 rfl ?_
  refine lv_aload_n hx hb dX8_init_2 rfl (lv_at hl 1 rfl) ?_
  refine y_wrI (av := [.int (nI 3), .ref (lo (tb))]) (rest := []) cx hk hW hA ci_RX8_3 (k_aid7 b tb 3 hb_) hl.1 rfl rfl (Nat.le_of_ble_eq_true rfl) ⟨by decide, by decide⟩ ⟨by decide, by decide⟩ dX8_init_3 (fun v_ lo1 co1 H locs hq_ hW => ?_)
  obtain ⟨hv_, hlo_, hob1, ho1⟩ := hq_
  have hlo2_ := hlo_.symm
  subst hv_ hlo2_
  have hw := hW.1
  refine lv_aload_n hx hb dX8_init_6 rfl (lv_at hl 0 rfl) ?_
  refine lv_iload_n hx hb dX8_init_7 rfl (lv_at hl 2 rfl) ?_
  refine x_putS (v := .int (nI x)) cx hk hW (hob1) p_RX8_9_7 (fun _ => hnm.trans rfl) (by simp) rfl rfl dX8_init_8 (fun H locs hz2 hW => ?_)
  have hw := hW.1
  refine lv_aload_n hx hb dX8_init_11 rfl (lv_at hl 0 rfl) ?_
  refine lv_iload_n hx hb dX8_init_12 rfl (lv_at hl 3 rfl) ?_
  refine x_putS (v := .int (nI y)) cx hk hW (va_up_self _ _ _) p_RX8_15_7 (fun _ => hnm.trans rfl) (by simp) rfl rfl dX8_init_13 (fun H locs hz3 hW => ?_)
  have hw := hW.1
  exact y_vret cx hW hr hlk ⟨by decide, by decide⟩ dX8_init_16 (by rw [← hpo]; exact ⟨rfl, rfl, by unfold isO7; rw [hA0, hA6, hA2, hA3]; exact va_up_self _ _ _, fun i hi => (va_up_ne _ _ (by omega)).trans ((va_up_ne _ _ (by omega)).trans ((ho1 i (by omega)).trans (rfl)))⟩)
