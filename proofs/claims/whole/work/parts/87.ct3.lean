theorem x_wat {A : Nat → Prop} {G : x_G} {H0 H : Heap} {lo : x_L} {co : x_C} {locs : List Loc} {t : Nat} {e : Option va_E} (_h : x_D A G H0 lo co H locs) (h : co t = e) : co t = e := h
set_option maxHeartbeats 4000000 in
set_option maxRecDepth 100000 in
theorem k_aid1 {l : Launch} {G : x_G} {lo : x_L} {co : x_C} (b tb k : Nat) (hb_ : co b = some (.inr (1, [.int (nI 0), .null, .int (nI 0), .null, .int (nI 0)]))) : x_Wr l G lo (co) yX0_init cX0_init 3 none 1 0 0 [.ref (lo (b)), .int (nI k), .ref (lo (tb))] (fun (v : Option Value) (lo1 : x_L) (co1 : x_C) => v = none ∧ lo1 = lo ∧ co1 b = some (.inr (1, [.int (nI 0), .null, .int (nI k), .ref (lo (tb)), .int (nI 0)])) ∧ ofr co co1 b 1) := by
  refine x_wenter RX0 rfl (by decide) (Nat.le_of_ble_eq_true rfl) ?_
  intro pp ee ss mm bb mt cd ls AA cx hk hW hA hr hlk hnm hl
  have hl : lv_has ls 3 [(0, .ref (lo (b))), (1, .int (nI k)), (2, .ref (lo (tb)))] := hl
  generalize hav : ([.ref (lo (b)), .int (nI k), .ref (lo (tb))] : List Value).toArray = av at cx ⊢
  generalize hpo : (fun (v : Option Value) (lo1 : x_L) (co1 : x_C) => v = none ∧ lo1 = lo ∧ co1 b = some (.inr (1, [.int (nI 0), .null, .int (nI k), .ref (lo (tb)), .int (nI 0)])) ∧ ofr co co1 b 1) = po
  have hx := cx.1
  have hb := cx.2.1
  have hown := cx.2.2.2.1
  have hts := cx.2.2.2.2
  have hw := hW.1
  refine lv_aload_n hx hb dX0_init_0 rfl (lv_at hl 0 rfl) ?_
  refine x_oi cx hl.1 w_427 w_29 w_30 ⟨by decide, by decide⟩ dX0_init_1 ?_
  refine lv_aload_n hx hb dX0_init_4 rfl (lv_at hl 0 rfl) ?_
  refine lv_iload_n hx hb dX0_init_5 rfl (lv_at hl 1 rfl) ?_
  refine x_putS (v := .int (nI k)) cx hk hW (hb_) p_RX0_7_1 (fun _ => hnm.trans rfl) (by simp) rfl rfl dX0_init_6 (fun H locs hz1 hW => ?_)
  have hw := hW.1
  refine lv_aload_n hx hb dX0_init_9 rfl (lv_at hl 0 rfl) ?_
  refine lv_aload_n hx hb dX0_init_10 rfl (lv_at hl 2 rfl) ?_
  refine x_putS (v := .ref (lo (tb))) cx hk hW (va_up_self _ _ _) p_RX0_13_1 (fun _ => hnm.trans rfl) (by simp) rfl rfl dX0_init_11 (fun H locs hz2 hW => ?_)
  have hw := hW.1
  exact y_vret cx hW hr hlk ⟨by decide, by decide⟩ dX0_init_14 (by rw [← hpo]; exact ⟨rfl, rfl, va_up_self _ _ _, fun i hi => (va_up_ne _ _ (by omega)).trans ((va_up_ne _ _ (by omega)).trans (rfl))⟩)
set_option maxHeartbeats 4000000 in
set_option maxRecDepth 100000 in
theorem k_aid2 {l : Launch} {G : x_G} {lo : x_L} {co : x_C} (b tb k : Nat) (hb_ : co b = some (.inr (2, [.int (nI 0), .null, .int (nI 0), .null, .int (nI 0), .int (nI 0)]))) : x_Wr l G lo (co) yX0_init cX0_init 3 none 1 0 0 [.ref (lo (b)), .int (nI k), .ref (lo (tb))] (fun (v : Option Value) (lo1 : x_L) (co1 : x_C) => v = none ∧ lo1 = lo ∧ co1 b = some (.inr (2, [.int (nI 0), .null, .int (nI k), .ref (lo (tb)), .int (nI 0), .int (nI 0)])) ∧ ofr co co1 b 1) := by
  refine x_wenter RX0 rfl (by decide) (Nat.le_of_ble_eq_true rfl) ?_
  intro pp ee ss mm bb mt cd ls AA cx hk hW hA hr hlk hnm hl
  have hl : lv_has ls 3 [(0, .ref (lo (b))), (1, .int (nI k)), (2, .ref (lo (tb)))] := hl
  generalize hav : ([.ref (lo (b)), .int (nI k), .ref (lo (tb))] : List Value).toArray = av at cx ⊢
  generalize hpo : (fun (v : Option Value) (lo1 : x_L) (co1 : x_C) => v = none ∧ lo1 = lo ∧ co1 b = some (.inr (2, [.int (nI 0), .null, .int (nI k), .ref (lo (tb)), .int (nI 0), .int (nI 0)])) ∧ ofr co co1 b 1) = po
  have hx := cx.1
  have hb := cx.2.1
  have hown := cx.2.2.2.1
  have hts := cx.2.2.2.2
  have hw := hW.1
  refine lv_aload_n hx hb dX0_init_0 rfl (lv_at hl 0 rfl) ?_
  refine x_oi cx hl.1 w_427 w_29 w_30 ⟨by decide, by decide⟩ dX0_init_1 ?_
  refine lv_aload_n hx hb dX0_init_4 rfl (lv_at hl 0 rfl) ?_
  refine lv_iload_n hx hb dX0_init_5 rfl (lv_at hl 1 rfl) ?_
  refine x_putS (v := .int (nI k)) cx hk hW (hb_) p_RX0_7_2 (fun _ => hnm.trans rfl) (by simp) rfl rfl dX0_init_6 (fun H locs hz1 hW => ?_)
  have hw := hW.1
  refine lv_aload_n hx hb dX0_init_9 rfl (lv_at hl 0 rfl) ?_
  refine lv_aload_n hx hb dX0_init_10 rfl (lv_at hl 2 rfl) ?_
  refine x_putS (v := .ref (lo (tb))) cx hk hW (va_up_self _ _ _) p_RX0_13_2 (fun _ => hnm.trans rfl) (by simp) rfl rfl dX0_init_11 (fun H locs hz2 hW => ?_)
  have hw := hW.1
  exact y_vret cx hW hr hlk ⟨by decide, by decide⟩ dX0_init_14 (by rw [← hpo]; exact ⟨rfl, rfl, va_up_self _ _ _, fun i hi => (va_up_ne _ _ (by omega)).trans ((va_up_ne _ _ (by omega)).trans (rfl))⟩)
set_option maxHeartbeats 4000000 in
set_option maxRecDepth 100000 in
theorem k_aid3 {l : Launch} {G : x_G} {lo : x_L} {co : x_C} (b tb k : Nat) (hb_ : co b = some (.inr (3, [.int (nI 0), .null, .int (nI 0), .null, .int (nI 0)]))) : x_Wr l G lo (co) yX0_init cX0_init 3 none 1 0 0 [.ref (lo (b)), .int (nI k), .ref (lo (tb))] (fun (v : Option Value) (lo1 : x_L) (co1 : x_C) => v = none ∧ lo1 = lo ∧ co1 b = some (.inr (3, [.int (nI 0), .null, .int (nI k), .ref (lo (tb)), .int (nI 0)])) ∧ ofr co co1 b 1) := by
  refine x_wenter RX0 rfl (by decide) (Nat.le_of_ble_eq_true rfl) ?_
  intro pp ee ss mm bb mt cd ls AA cx hk hW hA hr hlk hnm hl
  have hl : lv_has ls 3 [(0, .ref (lo (b))), (1, .int (nI k)), (2, .ref (lo (tb)))] := hl
  generalize hav : ([.ref (lo (b)), .int (nI k), .ref (lo (tb))] : List Value).toArray = av at cx ⊢
  generalize hpo : (fun (v : Option Value) (lo1 : x_L) (co1 : x_C) => v = none ∧ lo1 = lo ∧ co1 b = some (.inr (3, [.int (nI 0), .null, .int (nI k), .ref (lo (tb)), .int (nI 0)])) ∧ ofr co co1 b 1) = po
  have hx := cx.1
  have hb := cx.2.1
  have hown := cx.2.2.2.1
  have hts := cx.2.2.2.2
  have hw := hW.1
  refine lv_aload_n hx hb dX0_init_0 rfl (lv_at hl 0 rfl) ?_
  refine x_oi cx hl.1 w_427 w_29 w_30 ⟨by decide, by decide⟩ dX0_init_1 ?_
  refine lv_aload_n hx hb dX0_init_4 rfl (lv_at hl 0 rfl) ?_
  refine lv_iload_n hx hb dX0_init_5 rfl (lv_at hl 1 rfl) ?_
  refine x_putS (v := .int (nI k)) cx hk hW (hb_) p_RX0_7_3 (fun _ => hnm.trans rfl) (by simp) rfl rfl dX0_init_6 (fun H locs hz1 hW => ?_)
  have hw := hW.1
  refine lv_aload_n hx hb dX0_init_9 rfl (lv_at hl 0 rfl) ?_
  refine lv_aload_n hx hb dX0_init_10 rfl (lv_at hl 2 rfl) ?_
  refine x_putS (v := .ref (lo (tb))) cx hk hW (va_up_self _ _ _) p_RX0_13_3 (fun _ => hnm.trans rfl) (by simp) rfl rfl dX0_init_11 (fun H locs hz2 hW => ?_)
  have hw := hW.1
  exact y_vret cx hW hr hlk ⟨by decide, by decide⟩ dX0_init_14 (by rw [← hpo]; exact ⟨rfl, rfl, va_up_self _ _ _, fun i hi => (va_up_ne _ _ (by omega)).trans ((va_up_ne _ _ (by omega)).trans (rfl))⟩)
set_option maxHeartbeats 4000000 in
set_option maxRecDepth 100000 in
theorem k_aid4 {l : Launch} {G : x_G} {lo : x_L} {co : x_C} (b tb k : Nat) (hb_ : co b = some (.inr (4, [.int (nI 0), .null, .int (nI 0), .null, .int (nI 0), .int (nI 0), .int (nI 0), .int (nI 0)]))) : x_Wr l G lo (co) yX0_init cX0_init 3 none 1 0 0 [.ref (lo (b)), .int (nI k), .ref (lo (tb))] (fun (v : Option Value) (lo1 : x_L) (co1 : x_C) => v = none ∧ lo1 = lo ∧ co1 b = some (.inr (4, [.int (nI 0), .null, .int (nI k), .ref (lo (tb)), .int (nI 0), .int (nI 0), .int (nI 0), .int (nI 0)])) ∧ ofr co co1 b 1) := by
  refine x_wenter RX0 rfl (by decide) (Nat.le_of_ble_eq_true rfl) ?_
  intro pp ee ss mm bb mt cd ls AA cx hk hW hA hr hlk hnm hl
  have hl : lv_has ls 3 [(0, .ref (lo (b))), (1, .int (nI k)), (2, .ref (lo (tb)))] := hl
  generalize hav : ([.ref (lo (b)), .int (nI k), .ref (lo (tb))] : List Value).toArray = av at cx ⊢
  generalize hpo : (fun (v : Option Value) (lo1 : x_L) (co1 : x_C) => v = none ∧ lo1 = lo ∧ co1 b = some (.inr (4, [.int (nI 0), .null, .int (nI k), .ref (lo (tb)), .int (nI 0), .int (nI 0), .int (nI 0), .int (nI 0)])) ∧ ofr co co1 b 1) = po
  have hx := cx.1
  have hb := cx.2.1
  have hown := cx.2.2.2.1
  have hts := cx.2.2.2.2
  have hw := hW.1
  refine lv_aload_n hx hb dX0_init_0 rfl (lv_at hl 0 rfl) ?_
  refine x_oi cx hl.1 w_427 w_29 w_30 ⟨by decide, by decide⟩ dX0_init_1 ?_
  refine lv_aload_n hx hb dX0_init_4 rfl (lv_at hl 0 rfl) ?_
  refine lv_iload_n hx hb dX0_init_5 rfl (lv_at hl 1 rfl) ?_
  refine x_putS (v := .int (nI k)) cx hk hW (hb_) p_RX0_7_4 (fun _ => hnm.trans rfl) (by simp) rfl rfl dX0_init_6 (fun H locs hz1 hW => ?_)
  have hw := hW.1
  refine lv_aload_n hx hb dX0_init_9 rfl (lv_at hl 0 rfl) ?_
  refine lv_aload_n hx hb dX0_init_10 rfl (lv_at hl 2 rfl) ?_
  refine x_putS (v := .ref (lo (tb))) cx hk hW (va_up_self _ _ _) p_RX0_13_4 (fun _ => hnm.trans rfl) (by simp) rfl rfl dX0_init_11 (fun H locs hz2 hW => ?_)
  have hw := hW.1
  exact y_vret cx hW hr hlk ⟨by decide, by decide⟩ dX0_init_14 (by rw [← hpo]; exact ⟨rfl, rfl, va_up_self _ _ _, fun i hi => (va_up_ne _ _ (by omega)).trans ((va_up_ne _ _ (by omega)).trans (rfl))⟩)
set_option maxHeartbeats 4000000 in
set_option maxRecDepth 100000 in
theorem k_aid7 {l : Launch} {G : x_G} {lo : x_L} {co : x_C} (b tb k : Nat) (hb_ : co b = some (.inr (7, [.int (nI 0), .null, .int (nI 0), .int (nI 0), .int (nI 0)]))) : x_Wr l G lo (co) yX0_init cX0_init 3 none 1 0 0 [.ref (lo (b)), .int (nI k), .ref (lo (tb))] (fun (v : Option Value) (lo1 : x_L) (co1 : x_C) => v = none ∧ lo1 = lo ∧ co1 b = some (.inr (7, [.int (nI k), .ref (lo (tb)), .int (nI 0), .int (nI 0), .int (nI 0)])) ∧ ofr co co1 b 1) := by
  refine x_wenter RX0 rfl (by decide) (Nat.le_of_ble_eq_true rfl) ?_
  intro pp ee ss mm bb mt cd ls AA cx hk hW hA hr hlk hnm hl
  have hl : lv_has ls 3 [(0, .ref (lo (b))), (1, .int (nI k)), (2, .ref (lo (tb)))] := hl
  generalize hav : ([.ref (lo (b)), .int (nI k), .ref (lo (tb))] : List Value).toArray = av at cx ⊢
  generalize hpo : (fun (v : Option Value) (lo1 : x_L) (co1 : x_C) => v = none ∧ lo1 = lo ∧ co1 b = some (.inr (7, [.int (nI k), .ref (lo (tb)), .int (nI 0), .int (nI 0), .int (nI 0)])) ∧ ofr co co1 b 1) = po
  have hx := cx.1
  have hb := cx.2.1
  have hown := cx.2.2.2.1
  have hts := cx.2.2.2.2
  have hw := hW.1
  refine lv_aload_n hx hb dX0_init_0 rfl (lv_at hl 0 rfl) ?_
  refine x_oi cx hl.1 w_427 w_29 w_30 ⟨by decide, by decide⟩ dX0_init_1 ?_
  refine lv_aload_n hx hb dX0_init_4 rfl (lv_at hl 0 rfl) ?_
  refine lv_iload_n hx hb dX0_init_5 rfl (lv_at hl 1 rfl) ?_
  refine x_putS (v := .int (nI k)) cx hk hW (hb_) p_RX0_7_7 (fun _ => hnm.trans rfl) (by simp) rfl rfl dX0_init_6 (fun H locs hz1 hW => ?_)
  have hw := hW.1
  refine lv_aload_n hx hb dX0_init_9 rfl (lv_at hl 0 rfl) ?_
  refine lv_aload_n hx hb dX0_init_10 rfl (lv_at hl 2 rfl) ?_
  refine x_putS (v := .ref (lo (tb))) cx hk hW (va_up_self _ _ _) p_RX0_13_7 (fun _ => hnm.trans rfl) (by simp) rfl rfl dX0_init_11 (fun H locs hz2 hW => ?_)
  have hw := hW.1
  exact y_vret cx hW hr hlk ⟨by decide, by decide⟩ dX0_init_14 (by rw [← hpo]; exact ⟨rfl, rfl, va_up_self _ _ _, fun i hi => (va_up_ne _ _ (by omega)).trans ((va_up_ne _ _ (by omega)).trans (rfl))⟩)
set_option maxHeartbeats 4000000 in
set_option maxRecDepth 100000 in
theorem k_ord1 {l : Launch} {G : x_G} {lo : x_L} {co : x_C} (b tb k : Nat) (a b_ c : Int32) (o : Nat) (hb_ : co b = some (.inr (1, [.int (nI 0), .null, .int (nI 0), .null, .int (nI 0)]))) (hn_ : ∀ i, 1 ≤ i → i < 2 → co (b + i) = none) (htb : tb < b ∨ b + 2 ≤ tb) (ho_ : s_bit a ||| s_bit b_ ||| s_bit c = nI o) : x_Wr l G lo (co) yX4_init cX4_init 6 none 2 1 3 [.ref (lo (b)), .int (nI k), .ref (lo (tb)), .int (a), .int (b_), .int (c)] (fun (v : Option Value) (lo1 : x_L) (co1 : x_C) => v = none ∧ co1 b = some (.inr (1, [.int (nI o), .ref (lo1 (b + 1)), .int (nI k), .ref (lo1 tb), .int (nI 0)])) ∧ co1 (b + 1) = some (.inl (G.2 0, 3, .inl (upd (upd (upd (fun _ => nI 0) 0 a) 1 b_) 2 c))) ∧ ctr lo lo1 co co1 b 2 ∧ lo1 tb = lo tb) := by
  refine x_wenter RX4 rfl (by decide) (Nat.le_of_ble_eq_true rfl) ?_
  intro pp ee ss mm bb mt cd ls AA cx hk hW hA hr hlk hnm hl
  have hl : lv_has ls 6 [(0, .ref (lo (b))), (1, .int (nI k)), (2, .ref (lo (tb))), (3, .int (a)), (4, .int (b_)), (5, .int (c))] := hl
  generalize hav : ([.ref (lo (b)), .int (nI k), .ref (lo (tb)), .int (a), .int (b_), .int (c)] : List Value).toArray = av at cx ⊢
  generalize hpo : (fun (v : Option Value) (lo1 : x_L) (co1 : x_C) => v = none ∧ co1 b = some (.inr (1, [.int (nI o), .ref (lo1 (b + 1)), .int (nI k), .ref (lo1 tb), .int (nI 0)])) ∧ co1 (b + 1) = some (.inl (G.2 0, 3, .inl (upd (upd (upd (fun _ => nI 0) 0 a) 1 b_) 2 c))) ∧ ctr lo lo1 co co1 b 2 ∧ lo1 tb = lo tb) = po
  have hx := cx.1
  have hb := cx.2.1
  have hown := cx.2.2.2.1
  have hts := cx.2.2.2.2
  have hw := hW.1
  refine lv_aload_n hx hb dX4_init_0 rfl (lv_at hl 0 rfl) ?_
  refine lv_iload_n hx hb dX4_init_1 rfl (lv_at hl 1 rfl) ?_
  refine lv_aload_n hx hb dX4_init_2 rfl (lv_at hl 2 rfl) ?_
  refine y_wrI (av := [.int (nI k), .ref (lo (tb))]) (rest := []) cx hk hW hA ci_RX4_3 (k_aid1 b tb k hb_) hl.1 rfl rfl (Nat.le_of_ble_eq_true rfl) ⟨by decide, by decide⟩ ⟨by decide, by decide⟩ dX4_init_3 (fun v_ lo1 co1 H locs hq_ hW => ?_)
  obtain ⟨hv_, hlo_, hob1, ho1⟩ := hq_
  have hlo2_ := hlo_.symm
  subst hv_ hlo2_
  have hw := hW.1
  refine lv_aload_n hx hb dX4_init_6 rfl (lv_at hl 0 rfl) ?_
  refine lv_iload_n hx hb dX4_init_7 rfl (lv_at hl 3 rfl) ?_
  refine x_rdSN (av := [.int (a)]) (rest := [.ref (lo (b))]) cx hk hw cn_RX4_9 (c_bit a) hl.1 rfl rfl (Nat.le_of_ble_eq_true rfl) ⟨by decide, by decide⟩ ⟨Nat.zero_le _, Nat.zero_le _⟩ dX4_init_8 ?_
  refine lv_iload hx hb dX4_init_11 (lv_at hl 4 rfl) ?_
  refine x_rdSN (av := [.int (b_)]) (rest := [.int (s_bit a), .ref (lo (b))]) cx hk hw cn_RX4_9 (c_bit b_) hl.1 rfl rfl (Nat.le_of_ble_eq_true rfl) ⟨by decide, by decide⟩ ⟨Nat.zero_le _, Nat.zero_le _⟩ dX4_init_13 ?_
  refine lv_ior hx hb dX4_init_16 ?_
  refine lv_iload hx hb dX4_init_17 (lv_at hl 5 rfl) ?_
  refine x_rdSN (av := [.int (c)]) (rest := [.int ((s_bit a) ||| (s_bit b_)), .ref (lo (b))]) cx hk hw cn_RX4_9 (c_bit c) hl.1 rfl rfl (Nat.le_of_ble_eq_true rfl) ⟨by decide, by decide⟩ ⟨Nat.zero_le _, Nat.zero_le _⟩ dX4_init_19 ?_
  refine lv_ior hx hb dX4_init_22 ?_
  rw [ho_]
  refine x_putS (v := .int (nI o)) cx hk hW (hob1) p_RX4_13_1 (fun _ => hnm.trans rfl) (by simp) rfl rfl dX4_init_23 (fun H locs hz2 hW => ?_)
  have hw := hW.1
  refine lv_aload_n hx hb dX4_init_26 rfl (lv_at hl 0 rfl) ?_
  refine lv_iconst (v := nI 3) hx hb dX4_init_27 rfl ?_
  have hob3_0 := x_wat hW (t := b) (e := some (.inr (1, [.int (nI o), .null, .int (nI k), .ref (lo (tb)), .int (nI 0)]))) (va_up_self _ _ _)
  refine x_newI (b + 1) cx hk hW hA ((va_up_ne _ _ (by omega)).trans ((ho1 _ (by omega)).trans (hn_ 1 (by decide) (by decide)))) w_98 (by decide) (by decide) (by decide) dX4_init_28 (fun lo3 H hlo3 hW => ?_)
  have hre := (hlo3 b (by omega)).symm
  (try rw [hre] at hl)
  (try rw [hre] at hW)
  (try rw [hre])
  (try rw [hre] at hob3_0)
  have hre := (hlo3 tb (by omega)).symm
  (try rw [hre] at hl)
  (try rw [hre] at hW)
  (try rw [hre])
  (try rw [hre] at hob3_0)
  have hw := hW.1
  refine lv_dup hx hb dX4_init_30 rfl ?_
  refine lv_iconst (v := nI 0) hx hb dX4_init_31 rfl ?_
  refine lv_iload_n hx hb dX4_init_32 rfl (lv_at hl 3 rfl) ?_
  refine x_iastN cx hk hW (va_up_self _ _ _) (by decide) (by decide) dX4_init_33 (fun H locs hW => ?_)
  have hw := hW.1
  refine lv_dup hx hb dX4_init_34 rfl ?_
  refine lv_iconst (v := nI 1) hx hb dX4_init_35 rfl ?_
  refine lv_iload hx hb dX4_init_36 (lv_at hl 4 rfl) ?_
  refine x_iastN cx hk hW (va_up_self _ _ _) (by decide) (by decide) dX4_init_38 (fun H locs hW => ?_)
  have hw := hW.1
  refine lv_dup hx hb dX4_init_39 rfl ?_
  refine lv_iconst (v := nI 2) hx hb dX4_init_40 rfl ?_
  refine lv_iload hx hb dX4_init_41 (lv_at hl 5 rfl) ?_
  refine x_iastN cx hk hW (va_up_self _ _ _) (by decide) (by decide) dX4_init_43 (fun H locs hW => ?_)
  have hw := hW.1
  refine x_putS (v := .ref (lo3 (b + 1))) cx hk hW ((va_up_ne _ _ (by omega)).trans ((va_up_ne _ _ (by omega)).trans ((va_up_ne _ _ (by omega)).trans ((va_up_ne _ _ (by omega)).trans (hob3_0))))) p_RX4_19_1 (fun _ => hnm.trans rfl) (by simp) rfl rfl dX4_init_44 (fun H locs hz4 hW => ?_)
  have hw := hW.1
  exact y_vret cx hW hr hlk ⟨by decide, by decide⟩ dX4_init_47 (by rw [← hpo]; exact ⟨rfl, va_up_self _ _ _, (va_up_ne _ _ (by omega)).trans (va_up_self _ _ _), ⟨fun i hi => ⟨(va_up_ne _ _ (by omega)).trans ((va_up_ne _ _ (by omega)).trans ((va_up_ne _ _ (by omega)).trans ((va_up_ne _ _ (by omega)).trans ((va_up_ne _ _ (by omega)).trans ((va_up_ne _ _ (by omega)).trans ((ho1 i (by omega)).trans (rfl))))))), hlo3 i (by omega)⟩, hlo3 b (by omega)⟩, hlo3 tb (by omega)⟩)
set_option maxHeartbeats 4000000 in
set_option maxRecDepth 100000 in
theorem k_ord2 {l : Launch} {G : x_G} {lo : x_L} {co : x_C} (b tb k : Nat) (a b_ c : Int32) (o : Nat) (hb_ : co b = some (.inr (2, [.int (nI 0), .null, .int (nI 0), .null, .int (nI 0), .int (nI 0)]))) (hn_ : ∀ i, 1 ≤ i → i < 2 → co (b + i) = none) (htb : tb < b ∨ b + 2 ≤ tb) (ho_ : s_bit a ||| s_bit b_ ||| s_bit c = nI o) : x_Wr l G lo (co) yX4_init cX4_init 6 none 2 1 3 [.ref (lo (b)), .int (nI k), .ref (lo (tb)), .int (a), .int (b_), .int (c)] (fun (v : Option Value) (lo1 : x_L) (co1 : x_C) => v = none ∧ co1 b = some (.inr (2, [.int (nI o), .ref (lo1 (b + 1)), .int (nI k), .ref (lo1 tb), .int (nI 0), .int (nI 0)])) ∧ co1 (b + 1) = some (.inl (G.2 0, 3, .inl (upd (upd (upd (fun _ => nI 0) 0 a) 1 b_) 2 c))) ∧ ctr lo lo1 co co1 b 2 ∧ lo1 tb = lo tb) := by
  refine x_wenter RX4 rfl (by decide) (Nat.le_of_ble_eq_true rfl) ?_
  intro pp ee ss mm bb mt cd ls AA cx hk hW hA hr hlk hnm hl
  have hl : lv_has ls 6 [(0, .ref (lo (b))), (1, .int (nI k)), (2, .ref (lo (tb))), (3, .int (a)), (4, .int (b_)), (5, .int (c))] := hl
  generalize hav : ([.ref (lo (b)), .int (nI k), .ref (lo (tb)), .int (a), .int (b_), .int (c)] : List Value).toArray = av at cx ⊢
  generalize hpo : (fun (v : Option Value) (lo1 : x_L) (co1 : x_C) => v = none ∧ co1 b = some (.inr (2, [.int (nI o), .ref (lo1 (b + 1)), .int (nI k), .ref (lo1 tb), .int (nI 0), .int (nI 0)])) ∧ co1 (b + 1) = some (.inl (G.2 0, 3, .inl (upd (upd (upd (fun _ => nI 0) 0 a) 1 b_) 2 c))) ∧ ctr lo lo1 co co1 b 2 ∧ lo1 tb = lo tb) = po
  have hx := cx.1
  have hb := cx.2.1
  have hown := cx.2.2.2.1
  have hts := cx.2.2.2.2
  have hw := hW.1
  refine lv_aload_n hx hb dX4_init_0 rfl (lv_at hl 0 rfl) ?_
  refine lv_iload_n hx hb dX4_init_1 rfl (lv_at hl 1 rfl) ?_
  refine lv_aload_n hx hb dX4_init_2 rfl (lv_at hl 2 rfl) ?_
  refine y_wrI (av := [.int (nI k), .ref (lo (tb))]) (rest := []) cx hk hW hA ci_RX4_3 (k_aid2 b tb k hb_) hl.1 rfl rfl (Nat.le_of_ble_eq_true rfl) ⟨by decide, by decide⟩ ⟨by decide, by decide⟩ dX4_init_3 (fun v_ lo1 co1 H locs hq_ hW => ?_)
  obtain ⟨hv_, hlo_, hob1, ho1⟩ := hq_
  have hlo2_ := hlo_.symm
  subst hv_ hlo2_
  have hw := hW.1
  refine lv_aload_n hx hb dX4_init_6 rfl (lv_at hl 0 rfl) ?_
  refine lv_iload_n hx hb dX4_init_7 rfl (lv_at hl 3 rfl) ?_
  refine x_rdSN (av := [.int (a)]) (rest := [.ref (lo (b))]) cx hk hw cn_RX4_9 (c_bit a) hl.1 rfl rfl (Nat.le_of_ble_eq_true rfl) ⟨by decide, by decide⟩ ⟨Nat.zero_le _, Nat.zero_le _⟩ dX4_init_8 ?_
  refine lv_iload hx hb dX4_init_11 (lv_at hl 4 rfl) ?_
  refine x_rdSN (av := [.int (b_)]) (rest := [.int (s_bit a), .ref (lo (b))]) cx hk hw cn_RX4_9 (c_bit b_) hl.1 rfl rfl (Nat.le_of_ble_eq_true rfl) ⟨by decide, by decide⟩ ⟨Nat.zero_le _, Nat.zero_le _⟩ dX4_init_13 ?_
  refine lv_ior hx hb dX4_init_16 ?_
  refine lv_iload hx hb dX4_init_17 (lv_at hl 5 rfl) ?_
  refine x_rdSN (av := [.int (c)]) (rest := [.int ((s_bit a) ||| (s_bit b_)), .ref (lo (b))]) cx hk hw cn_RX4_9 (c_bit c) hl.1 rfl rfl (Nat.le_of_ble_eq_true rfl) ⟨by decide, by decide⟩ ⟨Nat.zero_le _, Nat.zero_le _⟩ dX4_init_19 ?_
  refine lv_ior hx hb dX4_init_22 ?_
  rw [ho_]
  refine x_putS (v := .int (nI o)) cx hk hW (hob1) p_RX4_13_2 (fun _ => hnm.trans rfl) (by simp) rfl rfl dX4_init_23 (fun H locs hz2 hW => ?_)
  have hw := hW.1
  refine lv_aload_n hx hb dX4_init_26 rfl (lv_at hl 0 rfl) ?_
  refine lv_iconst (v := nI 3) hx hb dX4_init_27 rfl ?_
  have hob3_0 := x_wat hW (t := b) (e := some (.inr (2, [.int (nI o), .null, .int (nI k), .ref (lo (tb)), .int (nI 0), .int (nI 0)]))) (va_up_self _ _ _)
  refine x_newI (b + 1) cx hk hW hA ((va_up_ne _ _ (by omega)).trans ((ho1 _ (by omega)).trans (hn_ 1 (by decide) (by decide)))) w_98 (by decide) (by decide) (by decide) dX4_init_28 (fun lo3 H hlo3 hW => ?_)
  have hre := (hlo3 b (by omega)).symm
  (try rw [hre] at hl)
  (try rw [hre] at hW)
  (try rw [hre])
  (try rw [hre] at hob3_0)
  have hre := (hlo3 tb (by omega)).symm
  (try rw [hre] at hl)
  (try rw [hre] at hW)
  (try rw [hre])
  (try rw [hre] at hob3_0)
  have hw := hW.1
  refine lv_dup hx hb dX4_init_30 rfl ?_
  refine lv_iconst (v := nI 0) hx hb dX4_init_31 rfl ?_
  refine lv_iload_n hx hb dX4_init_32 rfl (lv_at hl 3 rfl) ?_
  refine x_iastN cx hk hW (va_up_self _ _ _) (by decide) (by decide) dX4_init_33 (fun H locs hW => ?_)
  have hw := hW.1
  refine lv_dup hx hb dX4_init_34 rfl ?_
  refine lv_iconst (v := nI 1) hx hb dX4_init_35 rfl ?_
  refine lv_iload hx hb dX4_init_36 (lv_at hl 4 rfl) ?_
  refine x_iastN cx hk hW (va_up_self _ _ _) (by decide) (by decide) dX4_init_38 (fun H locs hW => ?_)
  have hw := hW.1
  refine lv_dup hx hb dX4_init_39 rfl ?_
  refine lv_iconst (v := nI 2) hx hb dX4_init_40 rfl ?_
  refine lv_iload hx hb dX4_init_41 (lv_at hl 5 rfl) ?_
  refine x_iastN cx hk hW (va_up_self _ _ _) (by decide) (by decide) dX4_init_43 (fun H locs hW => ?_)
  have hw := hW.1
  refine x_putS (v := .ref (lo3 (b + 1))) cx hk hW ((va_up_ne _ _ (by omega)).trans ((va_up_ne _ _ (by omega)).trans ((va_up_ne _ _ (by omega)).trans ((va_up_ne _ _ (by omega)).trans (hob3_0))))) p_RX4_19_2 (fun _ => hnm.trans rfl) (by simp) rfl rfl dX4_init_44 (fun H locs hz4 hW => ?_)
  have hw := hW.1
  exact y_vret cx hW hr hlk ⟨by decide, by decide⟩ dX4_init_47 (by rw [← hpo]; exact ⟨rfl, va_up_self _ _ _, (va_up_ne _ _ (by omega)).trans (va_up_self _ _ _), ⟨fun i hi => ⟨(va_up_ne _ _ (by omega)).trans ((va_up_ne _ _ (by omega)).trans ((va_up_ne _ _ (by omega)).trans ((va_up_ne _ _ (by omega)).trans ((va_up_ne _ _ (by omega)).trans ((va_up_ne _ _ (by omega)).trans ((ho1 i (by omega)).trans (rfl))))))), hlo3 i (by omega)⟩, hlo3 b (by omega)⟩, hlo3 tb (by omega)⟩)
set_option maxHeartbeats 4000000 in
set_option maxRecDepth 100000 in
theorem k_ord3 {l : Launch} {G : x_G} {lo : x_L} {co : x_C} (b tb k : Nat) (a b_ c : Int32) (o : Nat) (hb_ : co b = some (.inr (3, [.int (nI 0), .null, .int (nI 0), .null, .int (nI 0)]))) (hn_ : ∀ i, 1 ≤ i → i < 2 → co (b + i) = none) (htb : tb < b ∨ b + 2 ≤ tb) (ho_ : s_bit a ||| s_bit b_ ||| s_bit c = nI o) : x_Wr l G lo (co) yX4_init cX4_init 6 none 2 1 3 [.ref (lo (b)), .int (nI k), .ref (lo (tb)), .int (a), .int (b_), .int (c)] (fun (v : Option Value) (lo1 : x_L) (co1 : x_C) => v = none ∧ co1 b = some (.inr (3, [.int (nI o), .ref (lo1 (b + 1)), .int (nI k), .ref (lo1 tb), .int (nI 0)])) ∧ co1 (b + 1) = some (.inl (G.2 0, 3, .inl (upd (upd (upd (fun _ => nI 0) 0 a) 1 b_) 2 c))) ∧ ctr lo lo1 co co1 b 2 ∧ lo1 tb = lo tb) := by
  refine x_wenter RX4 rfl (by decide) (Nat.le_of_ble_eq_true rfl) ?_
  intro pp ee ss mm bb mt cd ls AA cx hk hW hA hr hlk hnm hl
  have hl : lv_has ls 6 [(0, .ref (lo (b))), (1, .int (nI k)), (2, .ref (lo (tb))), (3, .int (a)), (4, .int (b_)), (5, .int (c))] := hl
  generalize hav : ([.ref (lo (b)), .int (nI k), .ref (lo (tb)), .int (a), .int (b_), .int (c)] : List Value).toArray = av at cx ⊢
  generalize hpo : (fun (v : Option Value) (lo1 : x_L) (co1 : x_C) => v = none ∧ co1 b = some (.inr (3, [.int (nI o), .ref (lo1 (b + 1)), .int (nI k), .ref (lo1 tb), .int (nI 0)])) ∧ co1 (b + 1) = some (.inl (G.2 0, 3, .inl (upd (upd (upd (fun _ => nI 0) 0 a) 1 b_) 2 c))) ∧ ctr lo lo1 co co1 b 2 ∧ lo1 tb = lo tb) = po
  have hx := cx.1
  have hb := cx.2.1
  have hown := cx.2.2.2.1
  have hts := cx.2.2.2.2
  have hw := hW.1
  refine lv_aload_n hx hb dX4_init_0 rfl (lv_at hl 0 rfl) ?_
  refine lv_iload_n hx hb dX4_init_1 rfl (lv_at hl 1 rfl) ?_
  refine lv_aload_n hx hb dX4_init_2 rfl (lv_at hl 2 rfl) ?_
  refine y_wrI (av := [.int (nI k), .ref (lo (tb))]) (rest := []) cx hk hW hA ci_RX4_3 (k_aid3 b tb k hb_) hl.1 rfl rfl (Nat.le_of_ble_eq_true rfl) ⟨by decide, by decide⟩ ⟨by decide, by decide⟩ dX4_init_3 (fun v_ lo1 co1 H locs hq_ hW => ?_)
  obtain ⟨hv_, hlo_, hob1, ho1⟩ := hq_
  have hlo2_ := hlo_.symm
  subst hv_ hlo2_
  have hw := hW.1
  refine lv_aload_n hx hb dX4_init_6 rfl (lv_at hl 0 rfl) ?_
  refine lv_iload_n hx hb dX4_init_7 rfl (lv_at hl 3 rfl) ?_
  refine x_rdSN (av := [.int (a)]) (rest := [.ref (lo (b))]) cx hk hw cn_RX4_9 (c_bit a) hl.1 rfl rfl (Nat.le_of_ble_eq_true rfl) ⟨by decide, by decide⟩ ⟨Nat.zero_le _, Nat.zero_le _⟩ dX4_init_8 ?_
  refine lv_iload hx hb dX4_init_11 (lv_at hl 4 rfl) ?_
  refine x_rdSN (av := [.int (b_)]) (rest := [.int (s_bit a), .ref (lo (b))]) cx hk hw cn_RX4_9 (c_bit b_) hl.1 rfl rfl (Nat.le_of_ble_eq_true rfl) ⟨by decide, by decide⟩ ⟨Nat.zero_le _, Nat.zero_le _⟩ dX4_init_13 ?_
  refine lv_ior hx hb dX4_init_16 ?_
  refine lv_iload hx hb dX4_init_17 (lv_at hl 5 rfl) ?_
  refine x_rdSN (av := [.int (c)]) (rest := [.int ((s_bit a) ||| (s_bit b_)), .ref (lo (b))]) cx hk hw cn_RX4_9 (c_bit c) hl.1 rfl rfl (Nat.le_of_ble_eq_true rfl) ⟨by decide, by decide⟩ ⟨Nat.zero_le _, Nat.zero_le _⟩ dX4_init_19 ?_
  refine lv_ior hx hb dX4_init_22 ?_
  rw [ho_]
  refine x_putS (v := .int (nI o)) cx hk hW (hob1) p_RX4_13_3 (fun _ => hnm.trans rfl) (by simp) rfl rfl dX4_init_23 (fun H locs hz2 hW => ?_)
  have hw := hW.1
  refine lv_aload_n hx hb dX4_init_26 rfl (lv_at hl 0 rfl) ?_
  refine lv_iconst (v := nI 3) hx hb dX4_init_27 rfl ?_
  have hob3_0 := x_wat hW (t := b) (e := some (.inr (3, [.int (nI o), .null, .int (nI k), .ref (lo (tb)), .int (nI 0)]))) (va_up_self _ _ _)
  refine x_newI (b + 1) cx hk hW hA ((va_up_ne _ _ (by omega)).trans ((ho1 _ (by omega)).trans (hn_ 1 (by decide) (by decide)))) w_98 (by decide) (by decide) (by decide) dX4_init_28 (fun lo3 H hlo3 hW => ?_)
  have hre := (hlo3 b (by omega)).symm
  (try rw [hre] at hl)
  (try rw [hre] at hW)
  (try rw [hre])
  (try rw [hre] at hob3_0)
  have hre := (hlo3 tb (by omega)).symm
  (try rw [hre] at hl)
  (try rw [hre] at hW)
  (try rw [hre])
  (try rw [hre] at hob3_0)
  have hw := hW.1
  refine lv_dup hx hb dX4_init_30 rfl ?_
  refine lv_iconst (v := nI 0) hx hb dX4_init_31 rfl ?_
  refine lv_iload_n hx hb dX4_init_32 rfl (lv_at hl 3 rfl) ?_
  refine x_iastN cx hk hW (va_up_self _ _ _) (by decide) (by decide) dX4_init_33 (fun H locs hW => ?_)
  have hw := hW.1
  refine lv_dup hx hb dX4_init_34 rfl ?_
  refine lv_iconst (v := nI 1) hx hb dX4_init_35 rfl ?_
  refine lv_iload hx hb dX4_init_36 (lv_at hl 4 rfl) ?_
  refine x_iastN cx hk hW (va_up_self _ _ _) (by decide) (by decide) dX4_init_38 (fun H locs hW => ?_)
  have hw := hW.1
  refine lv_dup hx hb dX4_init_39 rfl ?_
  refine lv_iconst (v := nI 2) hx hb dX4_init_40 rfl ?_
  refine lv_iload hx hb dX4_init_41 (lv_at hl 5 rfl) ?_
  refine x_iastN cx hk hW (va_up_self _ _ _) (by decide) (by decide) dX4_init_43 (fun H locs hW => ?_)
  have hw := hW.1
  refine x_putS (v := .ref (lo3 (b + 1))) cx hk hW ((va_up_ne _ _ (by omega)).trans ((va_up_ne _ _ (by omega)).trans ((va_up_ne _ _ (by omega)).trans ((va_up_ne _ _ (by omega)).trans (hob3_0))))) p_RX4_19_3 (fun _ => hnm.trans rfl) (by simp) rfl rfl dX4_init_44 (fun H locs hz4 hW => ?_)
  have hw := hW.1
  exact y_vret cx hW hr hlk ⟨by decide, by decide⟩ dX4_init_47 (by rw [← hpo]; exact ⟨rfl, va_up_self _ _ _, (va_up_ne _ _ (by omega)).trans (va_up_self _ _ _), ⟨fun i hi => ⟨(va_up_ne _ _ (by omega)).trans ((va_up_ne _ _ (by omega)).trans ((va_up_ne _ _ (by omega)).trans ((va_up_ne _ _ (by omega)).trans ((va_up_ne _ _ (by omega)).trans ((va_up_ne _ _ (by omega)).trans ((ho1 i (by omega)).trans (rfl))))))), hlo3 i (by omega)⟩, hlo3 b (by omega)⟩, hlo3 tb (by omega)⟩)
set_option maxHeartbeats 4000000 in
set_option maxRecDepth 100000 in
theorem k_ord4 {l : Launch} {G : x_G} {lo : x_L} {co : x_C} (b tb k : Nat) (a b_ c : Int32) (o : Nat) (hb_ : co b = some (.inr (4, [.int (nI 0), .null, .int (nI 0), .null, .int (nI 0), .int (nI 0), .int (nI 0), .int (nI 0)]))) (hn_ : ∀ i, 1 ≤ i → i < 2 → co (b + i) = none) (htb : tb < b ∨ b + 2 ≤ tb) (ho_ : s_bit a ||| s_bit b_ ||| s_bit c = nI o) : x_Wr l G lo (co) yX4_init cX4_init 6 none 2 1 3 [.ref (lo (b)), .int (nI k), .ref (lo (tb)), .int (a), .int (b_), .int (c)] (fun (v : Option Value) (lo1 : x_L) (co1 : x_C) => v = none ∧ co1 b = some (.inr (4, [.int (nI o), .ref (lo1 (b + 1)), .int (nI k), .ref (lo1 tb), .int (nI 0), .int (nI 0), .int (nI 0), .int (nI 0)])) ∧ co1 (b + 1) = some (.inl (G.2 0, 3, .inl (upd (upd (upd (fun _ => nI 0) 0 a) 1 b_) 2 c))) ∧ ctr lo lo1 co co1 b 2 ∧ lo1 tb = lo tb) := by
  refine x_wenter RX4 rfl (by decide) (Nat.le_of_ble_eq_true rfl) ?_
  intro pp ee ss mm bb mt cd ls AA cx hk hW hA hr hlk hnm hl
  have hl : lv_has ls 6 [(0, .ref (lo (b))), (1, .int (nI k)), (2, .ref (lo (tb))), (3, .int (a)), (4, .int (b_)), (5, .int (c))] := hl
  generalize hav : ([.ref (lo (b)), .int (nI k), .ref (lo (tb)), .int (a), .int (b_), .int (c)] : List Value).toArray = av at cx ⊢
  generalize hpo : (fun (v : Option Value) (lo1 : x_L) (co1 : x_C) => v = none ∧ co1 b = some (.inr (4, [.int (nI o), .ref (lo1 (b + 1)), .int (nI k), .ref (lo1 tb), .int (nI 0), .int (nI 0), .int (nI 0), .int (nI 0)])) ∧ co1 (b + 1) = some (.inl (G.2 0, 3, .inl (upd (upd (upd (fun _ => nI 0) 0 a) 1 b_) 2 c))) ∧ ctr lo lo1 co co1 b 2 ∧ lo1 tb = lo tb) = po
  have hx := cx.1
  have hb := cx.2.1
  have hown := cx.2.2.2.1
  have hts := cx.2.2.2.2
  have hw := hW.1
  refine lv_aload_n hx hb dX4_init_0 rfl (lv_at hl 0 rfl) ?_
  refine lv_iload_n hx hb dX4_init_1 rfl (lv_at hl 1 rfl) ?_
  refine lv_aload_n hx hb dX4_init_2 rfl (lv_at hl 2 rfl) ?_
  refine y_wrI (av := [.int (nI k), .ref (lo (tb))]) (rest := []) cx hk hW hA ci_RX4_3 (k_aid4 b tb k hb_) hl.1 rfl rfl (Nat.le_of_ble_eq_true rfl) ⟨by decide, by decide⟩ ⟨by decide, by decide⟩ dX4_init_3 (fun v_ lo1 co1 H locs hq_ hW => ?_)
  obtain ⟨hv_, hlo_, hob1, ho1⟩ := hq_
  have hlo2_ := hlo_.symm
  subst hv_ hlo2_
  have hw := hW.1
  refine lv_aload_n hx hb dX4_init_6 rfl (lv_at hl 0 rfl) ?_
  refine lv_iload_n hx hb dX4_init_7 rfl (lv_at hl 3 rfl) ?_
  refine x_rdSN (av := [.int (a)]) (rest := [.ref (lo (b))]) cx hk hw cn_RX4_9 (c_bit a) hl.1 rfl rfl (Nat.le_of_ble_eq_true rfl) ⟨by decide, by decide⟩ ⟨Nat.zero_le _, Nat.zero_le _⟩ dX4_init_8 ?_
  refine lv_iload hx hb dX4_init_11 (lv_at hl 4 rfl) ?_
  refine x_rdSN (av := [.int (b_)]) (rest := [.int (s_bit a), .ref (lo (b))]) cx hk hw cn_RX4_9 (c_bit b_) hl.1 rfl rfl (Nat.le_of_ble_eq_true rfl) ⟨by decide, by decide⟩ ⟨Nat.zero_le _, Nat.zero_le _⟩ dX4_init_13 ?_
  refine lv_ior hx hb dX4_init_16 ?_
  refine lv_iload hx hb dX4_init_17 (lv_at hl 5 rfl) ?_
  refine x_rdSN (av := [.int (c)]) (rest := [.int ((s_bit a) ||| (s_bit b_)), .ref (lo (b))]) cx hk hw cn_RX4_9 (c_bit c) hl.1 rfl rfl (Nat.le_of_ble_eq_true rfl) ⟨by decide, by decide⟩ ⟨Nat.zero_le _, Nat.zero_le _⟩ dX4_init_19 ?_
  refine lv_ior hx hb dX4_init_22 ?_
  rw [ho_]
  refine x_putS (v := .int (nI o)) cx hk hW (hob1) p_RX4_13_4 (fun _ => hnm.trans rfl) (by simp) rfl rfl dX4_init_23 (fun H locs hz2 hW => ?_)
  have hw := hW.1
  refine lv_aload_n hx hb dX4_init_26 rfl (lv_at hl 0 rfl) ?_
  refine lv_iconst (v := nI 3) hx hb dX4_init_27 rfl ?_
  have hob3_0 := x_wat hW (t := b) (e := some (.inr (4, [.int (nI o), .null, .int (nI k), .ref (lo (tb)), .int (nI 0), .int (nI 0), .int (nI 0), .int (nI 0)]))) (va_up_self _ _ _)
  refine x_newI (b + 1) cx hk hW hA ((va_up_ne _ _ (by omega)).trans ((ho1 _ (by omega)).trans (hn_ 1 (by decide) (by decide)))) w_98 (by decide) (by decide) (by decide) dX4_init_28 (fun lo3 H hlo3 hW => ?_)
  have hre := (hlo3 b (by omega)).symm
  (try rw [hre] at hl)
  (try rw [hre] at hW)
  (try rw [hre])
  (try rw [hre] at hob3_0)
  have hre := (hlo3 tb (by omega)).symm
  (try rw [hre] at hl)
  (try rw [hre] at hW)
  (try rw [hre])
  (try rw [hre] at hob3_0)
  have hw := hW.1
  refine lv_dup hx hb dX4_init_30 rfl ?_
  refine lv_iconst (v := nI 0) hx hb dX4_init_31 rfl ?_
  refine lv_iload_n hx hb dX4_init_32 rfl (lv_at hl 3 rfl) ?_
  refine x_iastN cx hk hW (va_up_self _ _ _) (by decide) (by decide) dX4_init_33 (fun H locs hW => ?_)
  have hw := hW.1
  refine lv_dup hx hb dX4_init_34 rfl ?_
  refine lv_iconst (v := nI 1) hx hb dX4_init_35 rfl ?_
  refine lv_iload hx hb dX4_init_36 (lv_at hl 4 rfl) ?_
  refine x_iastN cx hk hW (va_up_self _ _ _) (by decide) (by decide) dX4_init_38 (fun H locs hW => ?_)
  have hw := hW.1
  refine lv_dup hx hb dX4_init_39 rfl ?_
  refine lv_iconst (v := nI 2) hx hb dX4_init_40 rfl ?_
  refine lv_iload hx hb dX4_init_41 (lv_at hl 5 rfl) ?_
  refine x_iastN cx hk hW (va_up_self _ _ _) (by decide) (by decide) dX4_init_43 (fun H locs hW => ?_)
  have hw := hW.1
  refine x_putS (v := .ref (lo3 (b + 1))) cx hk hW ((va_up_ne _ _ (by omega)).trans ((va_up_ne _ _ (by omega)).trans ((va_up_ne _ _ (by omega)).trans ((va_up_ne _ _ (by omega)).trans (hob3_0))))) p_RX4_19_4 (fun _ => hnm.trans rfl) (by simp) rfl rfl dX4_init_44 (fun H locs hz4 hW => ?_)
  have hw := hW.1
  exact y_vret cx hW hr hlk ⟨by decide, by decide⟩ dX4_init_47 (by rw [← hpo]; exact ⟨rfl, va_up_self _ _ _, (va_up_ne _ _ (by omega)).trans (va_up_self _ _ _), ⟨fun i hi => ⟨(va_up_ne _ _ (by omega)).trans ((va_up_ne _ _ (by omega)).trans ((va_up_ne _ _ (by omega)).trans ((va_up_ne _ _ (by omega)).trans ((va_up_ne _ _ (by omega)).trans ((va_up_ne _ _ (by omega)).trans ((ho1 i (by omega)).trans (rfl))))))), hlo3 i (by omega)⟩, hlo3 b (by omega)⟩, hlo3 tb (by omega)⟩)
set_option maxHeartbeats 4000000 in
set_option maxRecDepth 100000 in
theorem k_leaf3 {l : Launch} {G : x_G} {lo : x_L} {co : x_C} (b tb : Nat) (A : Ad) (a b_ c : Int32) (o : Nat) (hb_ : co b = some (.inr (3, [.int (nI 0), .null, .int (nI 0), .null, .int (nI 0)]))) (hn_ : ∀ i, 1 ≤ i → i < 2 → co (b + i) = none) (htb : tb < b ∨ b + 2 ≤ tb) (ho_ : s_bit a ||| s_bit b_ ||| s_bit c = nI o) (hA0 : A.1 0 = 0) (hA6 : A.1 6 = 0) (hA7 : A.1 7 = o) (hrow_ : ∀ j, j < 3 → (upd (upd (upd (fun _ => nI 0) 0 a) 1 b_) 2 c) j = nO (a_by A j)) : x_Wr l G lo (co) yX3_init cX3_init 5 none 3 1 3 [.ref (lo (b)), .ref (lo (tb)), .int (a), .int (b_), .int (c)] (fun (v : Option Value) (lo1 : x_L) (co1 : x_C) => v = none ∧ isO3 G lo1 co1 b tb A ∧ ctr lo lo1 co co1 b 2 ∧ lo1 tb = lo tb) := by
  refine x_wenter RX3 rfl (by decide) (Nat.le_of_ble_eq_true rfl) ?_
  intro pp ee ss mm bb mt cd ls AA cx hk hW hA hr hlk hnm hl
  have hl : lv_has ls 5 [(0, .ref (lo (b))), (1, .ref (lo (tb))), (2, .int (a)), (3, .int (b_)), (4, .int (c))] := hl
  generalize hav : ([.ref (lo (b)), .ref (lo (tb)), .int (a), .int (b_), .int (c)] : List Value).toArray = av at cx ⊢
  generalize hpo : (fun (v : Option Value) (lo1 : x_L) (co1 : x_C) => v = none ∧ isO3 G lo1 co1 b tb A ∧ ctr lo lo1 co co1 b 2 ∧ lo1 tb = lo tb) = po
  have hx := cx.1
  have hb := cx.2.1
  have hown := cx.2.2.2.1
  have hts := cx.2.2.2.2
  have hw := hW.1
  refine lv_aload_n hx hb dX3_init_0 rfl (lv_at hl 0 rfl) ?_
  refine lv_iconst (v := nI 0) hx hb dX3_init_1 rfl ?_
  refine lv_aload_n hx hb dX3_init_2 rfl (lv_at hl 1 rfl) ?_
  refine lv_iload_n hx hb dX3_init_3 rfl (lv_at hl 2 rfl) ?_
  refine lv_iload_n hx hb dX3_init_4 rfl (lv_at hl 3 rfl) ?_
  refine lv_iload hx hb dX3_init_5 (lv_at hl 4 rfl) ?_
  refine y_wrI (av := [.int (nI 0), .ref (lo (tb)), .int (a), .int (b_), .int (c)]) (rest := []) cx hk hW hA ci_RX3_3 (k_ord3 b tb 0 a b_ c o hb_ hn_ htb ho_) hl.1 rfl rfl (Nat.le_of_ble_eq_true rfl) ⟨by decide, by decide⟩ ⟨by decide, by decide⟩ dX3_init_7 (fun v_ lo1 co1 H locs hq_ hW => ?_)
  obtain ⟨hv_, hob1, hrw1, hct1, htb1⟩ := hq_
  subst hv_
  have hw := hW.1
  rw [← hct1.2] at hl
  have hW := hW.rerow (hrw1) hrow_
  exact y_vret cx hW hr hlk ⟨by decide, by decide⟩ dX3_init_10 (by rw [← hpo]; exact ⟨rfl, ⟨by rw [hA0, hA6, hA7]; exact (va_up_ne _ _ (by omega)).trans (hob1), va_up_self _ _ _⟩, ⟨fun i hi => ⟨(va_up_ne _ _ (by omega)).trans ((hct1.1 i (by omega)).1.trans (rfl)), (hct1.1 i (by omega)).2⟩, hct1.2⟩, htb1⟩)
set_option maxHeartbeats 4000000 in
set_option maxRecDepth 100000 in
theorem k_leaf1 {l : Launch} {G : x_G} {lo : x_L} {co : x_C} (b tb : Nat) (A : Ad) (a b_ c : Int32) (o : Nat) (hb_ : co b = some (.inr (1, [.int (nI 0), .null, .int (nI 0), .null, .int (nI 0)]))) (hn_ : ∀ i, 1 ≤ i → i < 2 → co (b + i) = none) (htb : tb < b ∨ b + 2 ≤ tb) (ho_ : s_bit a ||| s_bit b_ ||| s_bit c = nI o) (hA0 : A.1 0 = 4) (hA6 : A.1 6 = 0) (hA7 : A.1 7 = o) (hrow_ : ∀ j, j < 3 → (upd (upd (upd (fun _ => nI 0) 0 a) 1 b_) 2 c) j = nO (a_by A j)) : x_Wr l G lo (co) yX1_init cX1_init 5 none 3 1 3 [.ref (lo (b)), .ref (lo (tb)), .int (a), .int (b_), .int (c)] (fun (v : Option Value) (lo1 : x_L) (co1 : x_C) => v = none ∧ isO1 G lo1 co1 b tb A ∧ ctr lo lo1 co co1 b 2 ∧ lo1 tb = lo tb) := by
  refine x_wenter RX1 rfl (by decide) (Nat.le_of_ble_eq_true rfl) ?_
  intro pp ee ss mm bb mt cd ls AA cx hk hW hA hr hlk hnm hl
  have hl : lv_has ls 5 [(0, .ref (lo (b))), (1, .ref (lo (tb))), (2, .int (a)), (3, .int (b_)), (4, .int (c))] := hl
  generalize hav : ([.ref (lo (b)), .ref (lo (tb)), .int (a), .int (b_), .int (c)] : List Value).toArray = av at cx ⊢
  generalize hpo : (fun (v : Option Value) (lo1 : x_L) (co1 : x_C) => v = none ∧ isO1 G lo1 co1 b tb A ∧ ctr lo lo1 co co1 b 2 ∧ lo1 tb = lo tb) = po
  have hx := cx.1
  have hb := cx.2.1
  have hown := cx.2.2.2.1
  have hts := cx.2.2.2.2
  have hw := hW.1
  refine lv_aload_n hx hb dX1_init_0 rfl (lv_at hl 0 rfl) ?_
  refine lv_iconst (v := nI 4) hx hb dX1_init_1 rfl ?_
  refine lv_aload_n hx hb dX1_init_2 rfl (lv_at hl 1 rfl) ?_
  refine lv_iload_n hx hb dX1_init_3 rfl (lv_at hl 2 rfl) ?_
  refine lv_iload_n hx hb dX1_init_4 rfl (lv_at hl 3 rfl) ?_
  refine lv_iload hx hb dX1_init_5 (lv_at hl 4 rfl) ?_
  refine y_wrI (av := [.int (nI 4), .ref (lo (tb)), .int (a), .int (b_), .int (c)]) (rest := []) cx hk hW hA ci_RX1_3 (k_ord1 b tb 4 a b_ c o hb_ hn_ htb ho_) hl.1 rfl rfl (Nat.le_of_ble_eq_true rfl) ⟨by decide, by decide⟩ ⟨by decide, by decide⟩ dX1_init_7 (fun v_ lo1 co1 H locs hq_ hW => ?_)
  obtain ⟨hv_, hob1, hrw1, hct1, htb1⟩ := hq_
  subst hv_
  have hw := hW.1
  rw [← hct1.2] at hl
  have hW := hW.rerow (hrw1) hrow_
  exact y_vret cx hW hr hlk ⟨by decide, by decide⟩ dX1_init_10 (by rw [← hpo]; exact ⟨rfl, ⟨by rw [hA0, hA6, hA7]; exact (va_up_ne _ _ (by omega)).trans (hob1), va_up_self _ _ _⟩, ⟨fun i hi => ⟨(va_up_ne _ _ (by omega)).trans ((hct1.1 i (by omega)).1.trans (rfl)), (hct1.1 i (by omega)).2⟩, hct1.2⟩, htb1⟩)
