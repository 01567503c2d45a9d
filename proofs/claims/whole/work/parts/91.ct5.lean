set_option maxHeartbeats 4000000 in
set_option maxRecDepth 100000 in
theorem k_acol {l : Launch} {G : x_G} {lo : x_L} {co : x_C} (b : Nat) : x_Wr l G lo (co) yJxa1e45_init_da8c8 cJxa1e45_init_da8c8 1 none 1 0 0 [.ref (lo (b))] (fun (v : Option Value) (lo1 : x_L) (co1 : x_C) => v = none ∧ lo1 = lo ∧ co1 = co) := by
  refine x_wenter RJxa1e45 rfl (by decide) (Nat.le_of_ble_eq_true rfl) ?_
  intro pp ee ss mm bb mt cd ls AA cx hk hW hA hr hlk hnm hl
  have hl : lv_has ls 1 [(0, .ref (lo (b)))] := hl
  generalize hav : ([.ref (lo (b))] : List Value).toArray = av at cx ⊢
  generalize hpo : (fun (v : Option Value) (lo1 : x_L) (co1 : x_C) => v = none ∧ lo1 = lo ∧ co1 = co) = po
  have hx := cx.1
  have hb := cx.2.1
  have hown := cx.2.2.2.1
  have hts := cx.2.2.2.2
  have hw := hW.1
  refine lv_aload_n hx hb dJxa1e45_init_da8c8_0 rfl (lv_at hl 0 rfl) ?_
  refine x_oi cx hl.1 w_44 w_29 w_30 ⟨by decide, by decide⟩ dJxa1e45_init_da8c8_1 ?_
  exact y_vret cx hW hr hlk ⟨by decide, by decide⟩ dJxa1e45_init_da8c8_4 (by rw [← hpo]; exact ⟨rfl, rfl, rfl⟩)
set_option maxHeartbeats 4000000 in
set_option maxRecDepth 100000 in
theorem k_alist {l : Launch} {G : x_G} {lo : x_L} {co : x_C} (b : Nat) (hb_ : co b = some (.inr (0, [.int (nI 0), .null, .int (nI 0)]))) : x_Wr l G lo (co) yJxc12de_init_da8c8 cJxc12de_init_da8c8 1 none 2 0 0 [.ref (lo (b))] (fun (v : Option Value) (lo1 : x_L) (co1 : x_C) => v = none ∧ lo1 = lo ∧ co1 b = some (.inr (0, [.int (nI 0), .null, .int (nI 0)])) ∧ ofr co co1 b 1) := by
  refine x_wenter RJxc12de rfl (by decide) (Nat.le_of_ble_eq_true rfl) ?_
  intro pp ee ss mm bb mt cd ls AA cx hk hW hA hr hlk hnm hl
  have hl : lv_has ls 1 [(0, .ref (lo (b)))] := hl
  generalize hav : ([.ref (lo (b))] : List Value).toArray = av at cx ⊢
  generalize hpo : (fun (v : Option Value) (lo1 : x_L) (co1 : x_C) => v = none ∧ lo1 = lo ∧ co1 b = some (.inr (0, [.int (nI 0), .null, .int (nI 0)])) ∧ ofr co co1 b 1) = po
  have hx := cx.1
  have hb := cx.2.1
  have hown := cx.2.2.2.1
  have hts := cx.2.2.2.2
  have hw := hW.1
  refine lv_aload_n hx hb dJxc12de_init_da8c8_0 rfl (lv_at hl 0 rfl) ?_
  refine y_wrI (av := []) (rest := []) cx hk hW hA ci_RJxc12de_1 (k_acol b) hl.1 rfl rfl (Nat.le_of_ble_eq_true rfl) ⟨by decide, by decide⟩ ⟨by decide, by decide⟩ dJxc12de_init_da8c8_1 (fun v_ lo1 co1 H locs hq_ hW => ?_)
  obtain ⟨hv_, hlo_, hco_⟩ := hq_
  have hlo2_ := hlo_.symm
  have hco2_ := hco_.symm
  subst hv_ hlo2_ hco2_
  have hw := hW.1
  refine lv_aload_n hx hb dJxc12de_init_da8c8_4 rfl (lv_at hl 0 rfl) ?_
  refine lv_iconst (v := nI 0) hx hb dJxc12de_init_da8c8_5 rfl ?_
  refine x_putS (v := .int (nI 0)) cx hk hW (hb_) p_RJxc12de_7_0 (fun _ => hnm.trans rfl) (by simp) rfl rfl dJxc12de_init_da8c8_6 (fun H locs hz2 hW => ?_)
  have hw := hW.1
  exact y_vret cx hW hr hlk ⟨by decide, by decide⟩ dJxc12de_init_da8c8_9 (by rw [← hpo]; exact ⟨rfl, rfl, va_up_self _ _ _, fun i hi => (va_up_ne _ _ (by omega)).trans (rfl)⟩)
set_option maxHeartbeats 4000000 in
set_option maxRecDepth 100000 in
theorem k_arr {l : Launch} {G : x_G} {lo : x_L} {dd mi : Nat} {co : x_C} (b : Nat) (hb_ : co b = some (.inr (0, [.int (nI 0), .null, .int (nI 0)]))) : z_Wr l dd mi G lo (co) yJx4a65c_init_da8c8 cJx4a65c_init_da8c8 1 none 3 0 0 [.ref (lo (b))] (fun (v : Option Value) (lo1 : x_L) (co1 : x_C) => v = none ∧ lo1 = lo ∧ co1 b = some (.inr (0, [.int (nI 0), .ref dd, .int (nI 0)])) ∧ ofr co co1 b 1) := by
  refine z_wenter RJx4a65c rfl (by decide) (Nat.le_of_ble_eq_true rfl) ?_
  intro pp ee ss mm bb mt cd ls AA cx hk hZ hW hA hr hlk hnm hl
  have hl : lv_has ls 1 [(0, .ref (lo (b)))] := hl
  generalize hav : ([.ref (lo (b))] : List Value).toArray = av at cx ⊢
  generalize hpo : (fun (v : Option Value) (lo1 : x_L) (co1 : x_C) => v = none ∧ lo1 = lo ∧ co1 b = some (.inr (0, [.int (nI 0), .ref dd, .int (nI 0)])) ∧ ofr co co1 b 1) = po
  have hx := cx.1
  have hb := cx.2.1
  have hown := cx.2.2.2.1
  have hts := cx.2.2.2.2
  have hw := hW.1
  refine lv_aload_n hx hb dJx4a65c_init_da8c8_0 rfl (lv_at hl 0 rfl) ?_
  refine y_wrI (av := []) (rest := []) cx hk hW hA ci_RJx4a65c_1 (k_alist b hb_) hl.1 rfl rfl (Nat.le_of_ble_eq_true rfl) ⟨by decide, by decide⟩ ⟨by decide, by decide⟩ dJx4a65c_init_da8c8_1 (fun v_ lo1 co1 H locs hq_ hW => ?_)
  obtain ⟨hv_, hlo_, hob1, ho1⟩ := hq_
  have hlo2_ := hlo_.symm
  subst hv_ hlo2_
  have hw := hW.1
  refine lv_aload_n hx hb dJx4a65c_init_da8c8_4 rfl (lv_at hl 0 rfl) ?_
  refine z_gets hZ cx hW w_45 dJx4a65c_init_da8c8_5 ?_
  refine x_putS (v := .ref dd) cx hk hW (hob1) p_RJx4a65c_9_0 (fun _ => hnm.trans rfl) (by simp) rfl rfl dJx4a65c_init_da8c8_8 (fun H locs hz2 hW => ?_)
  have hw := hW.1
  exact y_vret cx hW hr hlk ⟨by decide, by decide⟩ dJx4a65c_init_da8c8_11 (by rw [← hpo]; exact ⟨rfl, rfl, va_up_self _ _ _, fun i hi => (va_up_ne _ _ (by omega)).trans ((ho1 i (by omega)).trans (rfl))⟩)
