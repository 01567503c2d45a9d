set_option maxHeartbeats 4000000 in
set_option maxRecDepth 100000 in
theorem k_aid1 {l : Launch} {G : x_G} {lo : x_L} {co : x_C} (b tb k : Nat) (hb_ : co b = some (.inr (1, [.int (nI 0), .null, .int (nI 0), .null, .int (nI 0)]))) : x_Wr l G lo (co) yX0_init cX0_init 3 none 1 0 0 [.ref (lo (b)), .int (nI k), .ref (lo (tb))] (fun (v : Option Value) (lo1 : x_L) (co1 : x_C) => v = none ∧ lo1 = lo ∧ co1 b = some (.inr (1, [.int (nI 0), .null, .int (nI k), .ref (lo (tb)), .int (nI 0)])) ∧ ofr co co1 b 1) := by
  refine x_wenter RX0 rfl (by decide) (Nat.le_of_ble_eq_true rfl) ?_
  intro pp ee ss mm bb mt cd ls AA cx hk hW hA hr hlk hnm hl
  have hl : lv_has ls 3 [(0, .ref (lo (b))), (1, .int (nI k)), (2, .ref (lo (tb)))] := hl
  generalize hav : ([.ref (lo (b)), .int (nI k), .ref (lo (tb))] : List Value).toArray = av at cx ⊢
  generalize hpo : (fun (v : Option Value) (lo1 : x_L) (co1 : x_C) => v = none ∧ lo1 = lo ∧ co1 b = some (.inr (1, [.int (nI 0), .null, .int (nI k), .ref (lo (tb)), .int (nI 0)])) ∧ ofr co co1 b 1) = po
  have hx := cx.1
  have hb := cx.2.1
  have hown := cx.2.2.2.1
  have hts := cx.2.2.2.2
  have hw := hW.1
  refine lv_aload_n hx hb dX0_init_0 rfl (lv_at hl 0 rfl) ?_
  refine x_oi cx hl.1 w_427 w_29 w_30 ⟨by decide, by decide⟩ dX0_init_1 ?_
  refine lv_aload_n hx hb dX0_init_4 rfl (lv_at hl 0 rfl) ?_
  refine lv_iload_n hx hb dX0_init_5 rfl (lv_at hl 1 rfl) ?_
  refine x_putS (v := .int (nI k)) cx hk hW (hb_) p_RX0_7_1 (fun _ => hnm.trans rfl) (by simp) rfl rfl dX0_init_6 (fun H locs hz1 hW => ?_)
  have hw := hW.1
  refine lv_aload_n hx hb dX0_init_9 rfl (lv_at hl 0 rfl) ?_
  refine lv_aload_n hx hb dX0_init_10 rfl (lv_at hl 2 rfl) ?_
  refine x_putS (v := .ref (lo (tb))) cx hk hW (va_up_self _ _ _) p_RX0_13_1 (fun _ => hnm.trans rfl) (by simp) rfl rfl dX0_init_11 (fun H locs hz2 hW => ?_)
  have hw := hW.1
  exact y_vret cx hW hr hlk ⟨by decide, by decide⟩ dX0_init_14 (by rw [← hpo]; exact ⟨rfl, rfl, va_up_self _ _ _, fun i hi => (va_up_ne _ _ (by omega)).trans ((va_up_ne _ _ (by omega)).trans (rfl))⟩)
set_option maxHeartbeats 4000000 in
set_option maxRecDepth 100000 in
theorem k_aid2 {l : Launch} {G : x_G} {lo : x_L} {co : x_C} (b tb k : Nat) (hb_ : co b = some (.inr (2, [.int (nI 0), .null, .int (nI 0), .null, .int (nI 0), .int (nI 0)]))) : x_Wr l G lo (co) yX0_init cX0_init 3 none 1 0 0 [.ref (lo (b)), .int (nI k), .ref (lo (tb))] (fun (v : Option Value) (lo1 : x_L) (co1 : x_C) => v = none ∧ lo1 = lo ∧ co1 b = some (.inr (2, [.int (nI 0), .null, .int (nI k), .ref (lo (tb)), .int (nI 0), .int (nI 0)])) ∧ ofr co co1 b 1) := by
  refine x_wenter RX0 rfl (by decide) (Nat.le_of_ble_eq_true rfl) ?_
  intro pp ee ss mm bb mt cd ls AA cx hk hW hA hr hlk hnm hl
  have hl : lv_has ls 3 [(0, .ref (lo (b))), (1, .int (nI k)), (2, .ref (lo (tb)))] := hl
  generalize hav : ([.ref (lo (b)), .int (nI k), .ref (lo (tb))] : List Value).toArray = av at cx ⊢
  generalize hpo : (fun (v : Option Value) (lo1 : x_L) (co1 : x_C) => v = none ∧ lo1 = lo ∧ co1 b = some (.inr (2, [.int (nI 0), .null, .int (nI k), .ref (lo (tb)), .int (nI 0), .int (nI 0)])) ∧ ofr co co1 b 1) = po
  have hx := cx.1
  have hb := cx.2.1
  have hown := cx.2.2.2.1
  have hts := cx.2.2.2.2
  have hw := hW.1
  refine lv_aload_n hx hb dX0_init_0 rfl (lv_at hl 0 rfl) ?_
  refine x_oi cx hl.1 w_427 w_29 w_30 ⟨by decide, by decide⟩ dX0_init_1 ?_
  refine lv_aload_n hx hb dX0_init_4 rfl (lv_at hl 0 rfl) ?_
  refine lv_iload_n hx hb dX0_init_5 rfl (lv_at hl 1 rfl) ?_
  refine x_putS (v := .int (nI k)) cx hk hW (hb_) p_RX0_7_2 (fun _ => hnm.trans rfl) (by simp) rfl rfl dX0_init_6 (fun H locs hz1 hW => ?_)
  have hw := hW.1
  refine lv_aload_n hx hb dX0_init_9 rfl (lv_at hl 0 rfl) ?_
  refine lv_aload_n hx hb dX0_init_10 rfl (lv_at hl 2 rfl) ?_
  refine x_putS (v := .ref (lo (tb))) cx hk hW (va_up_self _ _ _) p_RX0_13_2 (fun _ => hnm.trans rfl) (by simp) rfl rfl dX0_init_11 (fun H locs hz2 hW => ?_)
  have hw := hW.1
  exact y_vret cx hW hr hlk ⟨by decide, by decide⟩ dX0_init_14 (by rw [← hpo]; exact ⟨rfl, rfl, va_up_self _ _ _, fun i hi => (va_up_ne _ _ (by omega)).trans ((va_up_ne _ _ (by omega)).trans (rfl))⟩)
set_option maxHeartbeats 4000000 in
set_option maxRecDepth 100000 in
theorem k_aid3 {l : Launch} {G : x_G} {lo : x_L} {co : x_C} (b tb k : Nat) (hb_ : co b = some (.inr (3, [.int (nI 0), .null, .int (nI 0), .null, .int (nI 0)]))) : x_Wr l G lo (co) yX0_init cX0_init 3 none 1 0 0 [.ref (lo (b)), .int (nI k), .ref (lo (tb))] (fun (v : Option Value) (lo1 : x_L) (co1 : x_C) => v = none ∧ lo1 = lo ∧ co1 b = some (.inr (3, [.int (nI 0), .null, .int (nI k), .ref (lo (tb)), .int (nI 0)])) ∧ ofr co co1 b 1) := by
  refine x_wenter RX0 rfl (by decide) (Nat.le_of_ble_eq_true rfl) ?_
  intro pp ee ss mm bb mt cd ls AA cx hk hW hA hr hlk hnm hl
  have hl : lv_has ls 3 [(0, .ref (lo (b))), (1, .int (nI k)), (2, .ref (lo (tb)))] := hl
  generalize hav : ([.ref (lo (b)), .int (nI k), .ref (lo (tb))] : List Value).toArray = av at cx ⊢
  generalize hpo : (fun (v : Option Value) (lo1 : x_L) (co1 : x_C) => v = none ∧ lo1 = lo ∧ co1 b = some (.inr (3, [.int (nI 0), .null, .int (nI k), .ref (lo (tb)), .int (nI 0)])) ∧ ofr co co1 b 1) = po
  have hx := cx.1
  have hb := cx.2.1
  have hown := cx.2.2.2.1
  have hts := cx.2.2.2.2
  have hw := hW.1
  refine lv_aload_n hx hb dX0_init_0 rfl (lv_at hl 0 rfl) ?_
  refine x_oi cx hl.1 w_427 w_29 w_30 ⟨by decide, by decide⟩ dX0_init_1 ?_
  refine lv_aload_n hx hb dX0_init_4 rfl (lv_at hl 0 rfl) ?_
  refine lv_iload_n hx hb dX0_init_5 rfl (lv_at hl 1 rfl) ?_
  refine x_putS (v := .int (nI k)) cx hk hW (hb_) p_RX0_7_3 (fun _ => hnm.trans rfl) (by simp) rfl rfl dX0_init_6 (fun H locs hz1 hW => ?_)
  have hw := hW.1
  refine lv_aload_n hx hb dX0_init_9 rfl (lv_at hl 0 rfl) ?_
  refine lv_aload_n hx hb dX0_init_10 rfl (lv_at hl 2 rfl) ?_
  refine x_putS (v := .ref (lo (tb))) cx hk hW (va_up_self _ _ _) p_RX0_13_3 (fun _ => hnm.trans rfl) (by simp) rfl rfl dX0_init_11 (fun H locs hz2 hW => ?_)
  have hw := hW.1
  exact y_vret cx hW hr hlk ⟨by decide, by decide⟩ dX0_init_14 (by rw [← hpo]; exact ⟨rfl, rfl, va_up_self _ _ _, fun i hi => (va_up_ne _ _ (by omega)).trans ((va_up_ne _ _ (by omega)).trans (rfl))⟩)
set_option maxHeartbeats 4000000 in
set_option maxRecDepth 100000 in
theorem k_aid4 {l : Launch} {G : x_G} {lo : x_L} {co : x_C} (b tb k : Nat) (hb_ : co b = some (.inr (4, [.int (nI 0), .null, .int (nI 0), .null, .int (nI 0), .int (nI 0), .int (nI 0), .int (nI 0)]))) : x_Wr l G lo (co) yX0_init cX0_init 3 none 1 0 0 [.ref (lo (b)), .int (nI k), .ref (lo (tb))] (fun (v : Option Value) (lo1 : x_L) (co1 : x_C) => v = none ∧ lo1 = lo ∧ co1 b = some (.inr (4, [.int (nI 0), .null, .int (nI k), .ref (lo (tb)), .int (nI 0), .int (nI 0), .int (nI 0), .int (nI 0)])) ∧ ofr co co1 b 1) := by
  refine x_wenter RX0 rfl (by decide) (Nat.le_of_ble_eq_true rfl) ?_
  intro pp ee ss mm bb mt cd ls AA cx hk hW hA hr hlk hnm hl
  have hl : lv_has ls 3 [(0, .ref (lo (b))), (1, .int (nI k)), (2, .ref (lo (tb)))] := hl
  generalize hav : ([.ref (lo (b)), .int (nI k), .ref (lo (tb))] : List Value).toArray = av at cx ⊢
  generalize hpo : (fun (v : Option Value) (lo1 : x_L) (co1 : x_C) => v = none ∧ lo1 = lo ∧ co1 b = some (.inr (4, [.int (nI 0), .null, .int (nI k), .ref (lo (tb)), .int (nI 0), .int (nI 0), .int (nI 0), .int (nI 0)])) ∧ ofr co co1 b 1) = po
  have hx := cx.1
  have hb := cx.2.1
  have hown := cx.2.2.2.1
  have hts := cx.2.2.2.2
  have hw := hW.1
  refine lv_aload_n hx hb dX0_init_0 rfl (lv_at hl 0 rfl) ?_
  refine x_oi cx hl.1 w_427 w_29 w_30 ⟨by decide, by decide⟩ dX0_init_1 ?_
  refine lv_aload_n hx hb dX0_init_4 rfl (lv_at hl 0 rfl) ?_
  refine lv_iload_n hx hb dX0_init_5 rfl (lv_at hl 1 rfl) ?_
  refine x_putS (v := .int (nI k)) cx hk hW (hb_) p_RX0_7_4 (fun _ => hnm.trans rfl) (by simp) rfl rfl dX0_init_6 (fun H locs hz1 hW => ?_)
  have hw := hW.1
  refine lv_aload_n hx hb dX0_init_9 rfl (lv_at hl 0 rfl) ?_
  refine lv_aload_n hx hb dX0_init_10 rfl (lv_at hl 2 rfl) ?_
  refine x_putS (v := .ref (lo (tb))) cx hk hW (va_up_self _ _ _) p_RX0_13_4 (fun _ => hnm.trans rfl) (by simp) rfl rfl dX0_init_11 (fun H locs hz2 hW => ?_)
  have hw := hW.1
  exact y_vret cx hW hr hlk ⟨by decide, by decide⟩ dX0_init_14 (by rw [← hpo]; exact ⟨rfl, rfl, va_up_self _ _ _, fun i hi => (va_up_ne _ _ (by omega)).trans ((va_up_ne _ _ (by omega)).trans (rfl))⟩)
set_option maxHeartbeats 4000000 in
set_option maxRecDepth 100000 in
theorem k_aid7 {l : Launch} {G : x_G} {lo : x_L} {co : x_C} (b tb k : Nat) (hb_ : co b = some (.inr (7, [.int (nI 0), .null, .int (nI 0), .int (nI 0), .int (nI 0)]))) : x_Wr l G lo (co) yX0_init cX0_init 3 none 1 0 0 [.ref (lo (b)), .int (nI k), .ref (lo (tb))] (fun (v : Option Value) (lo1 : x_L) (co1 : x_C) => v = none ∧ lo1 = lo ∧ co1 b = some (.inr (7, [.int (nI k), .ref (lo (tb)), .int (nI 0), .int (nI 0), .int (nI 0)])) ∧ ofr co co1 b 1) := by
  refine x_wenter RX0 rfl (by decide) (Nat.le_of_ble_eq_true rfl) ?_
  intro pp ee ss mm bb mt cd ls AA cx hk hW hA hr hlk hnm hl
  have hl : lv_has ls 3 [(0, .ref (lo (b))), (1, .int (nI k)), (2, .ref (lo (tb)))] := hl
  generalize hav : ([.ref (lo (b)), .int (nI k), .ref (lo (tb))] : List Value).toArray = av at cx ⊢
  generalize hpo : (fun (v : Option Value) (lo1 : x_L) (co1 : x_C) => v = none ∧ lo1 = lo ∧ co1 b = some (.inr (7, [.int (nI k), .ref (lo (tb)), .int (nI 0), .int (nI 0), .int (nI 0)])) ∧ ofr co co1 b 1) = po
  have hx := cx.1
  have hb := cx.2.1
  have hown := cx.2.2.2.1
  have hts := cx.2.2.2.2
  have hw := hW.1
  refine lv_aload_n hx hb dX0_init_0 rfl (lv_at hl 0 rfl) ?_
  refine x_oi cx hl.1 w_427 w_29 w_30 ⟨by decide, by decide⟩ dX0_init_1 ?_
  refine lv_aload_n hx hb dX0_init_4 rfl (lv_at hl 0 rfl) ?_
  refine lv_iload_n hx hb dX0_init_5 rfl (lv_at hl 1 rfl) ?_
  refine x_putS (v := .int (nI k)) cx hk hW (hb_) p_RX0_7_7 (fun _ => hnm.trans rfl) (by simp) rfl rfl dX0_init_6 (fun H locs hz1 hW => ?_)
  have hw := hW.1
  refine lv_aload_n hx hb dX0_init_9 rfl (lv_at hl 0 rfl) ?_
  refine lv_aload_n hx hb dX0_init_10 rfl (lv_at hl 2 rfl) ?_
  refine x_putS (v := .ref (lo (tb))) cx hk hW (va_up_self _ _ _) p_RX0_13_7 (fun _ => hnm.trans rfl) (by simp) rfl rfl dX0_init_11 (fun H locs hz2 hW => ?_)
  have hw := hW.1
  exact y_vret cx hW hr hlk ⟨by decide, by decide⟩ dX0_init_14 (by rw [← hpo]; exact ⟨rfl, rfl, va_up_self _ _ _, fun i hi => (va_up_ne _ _ (by omega)).trans ((va_up_ne _ _ (by omega)).trans (rfl))⟩)
