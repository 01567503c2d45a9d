/-! ArrayList.grow() -/
set_option maxHeartbeats 4000000 in
theorem k_grw0 {l : Launch} {dd mi : Nat} {G : x_G} {lo : x_L} {co : x_C} (b d : Nat) (mc : Int32) (hb_ : co b = some (.inr (0, [.int mc, .ref dd, .int (nI 0)]))) (hd : co d = none) : z_Wr l dd mi G lo co yJx4a65c_grow_d5877 cJx4a65c_grow_d5877 1 (some (.array (.object "java/lang/Object"))) 2 1 10 [.ref (lo b)] (fun v lo1 co1 => v = some (.ref (lo1 d)) ∧ (∀ i, i ≠ d → lo1 i = lo i) ∧ (∀ i, i ≠ d → i ≠ b → co1 i = co i) ∧ co1 b = some (.inr (0, [.int mc, .ref (lo1 d), .int (nI 0)])) ∧ co1 d = some (.inl (G.2 3, 10, .inr (.inr (.inr (.inr (fun _ => none))))))) := by
  refine z_wenter RJx4a65c rfl (by decide) (Nat.le_of_ble_eq_true rfl) ?_
  intro pp ee ss mm bb mt cd ls AA cx hk hZ hW hA hr hlk hnm hl
  have hl : lv_has ls 1 [(0, .ref (lo b))] := hl
  generalize hav : ([.ref (lo b)] : List Value).toArray = av at cx ⊢
  have hx := cx.1
  have hb := cx.2.1
  refine lv_aload_n hx hb dJx4a65c_grow_d5877_0 rfl (lv_at hl 0 rfl) ?_
  refine lv_aload_n hx hb dJx4a65c_grow_d5877_1 rfl (lv_at hl 0 rfl) ?_
  refine x_get (v := .int (nI 0)) cx hk hW.1 hb_ f_RJx4a65c_48_0 rfl dJx4a65c_grow_d5877_2 ?_
  refine lv_iconst (v := nI 1) hx hb dJx4a65c_grow_d5877_5 rfl ?_
  refine x_iaddN cx dJx4a65c_grow_d5877_6 ?_
  refine z_wrV (av := [.int (nI 1)]) (rest := []) hZ cx hk hW hA hb_ cv_RJx4a65c_69_0 (k_grow0 b d mc hb_ hd) hl.1 rfl rfl (Nat.le_of_ble_eq_true rfl) ⟨by decide, by decide⟩ ⟨by decide, by decide⟩ dJx4a65c_grow_d5877_7 (fun v_ lo1 co1 H locs hq_ hW => ?_)
  obtain ⟨hv_, hq_⟩ := hq_
  subst hv_
  exact y_aret cx hW hr (Or.inr ⟨_, rfl⟩) hlk ⟨by decide, by decide⟩ (Or.inr ⟨_, rfl⟩) dJx4a65c_grow_d5877_10 ⟨rfl, hq_⟩
set_option maxHeartbeats 4000000 in
theorem k_grw1 {l : Launch} {dd mi : Nat} {G : x_G} {lo : x_L} {co : x_C} (b d u cap : Nat) (mc : Int32) (f : Nat → Option Nat) (hb_ : co b = some (.inr (0, [.int mc, .ref (lo d), .int (nI cap)]))) (hd : co d = some (.inl (G.2 3, cap, .inr (.inr (.inr (.inr f)))))) (hu : co u = none) (h1 : 10 ≤ cap) (h2 : cap < 35) (hel : z_els lo co f cap) : z_Wr l dd mi G lo co yJx4a65c_grow_d5877 cJx4a65c_grow_d5877 1 (some (.array (.object "java/lang/Object"))) 4 1 (cap + max 1 (cap / 2)) [.ref (lo b)] (fun v lo1 co1 => v = some (.ref (lo1 d)) ∧ (∀ i, i ≠ d → i ≠ u → lo1 i = lo i) ∧ (∀ i, i ≠ d → i ≠ u → i ≠ b → co1 i = co i) ∧ co1 b = some (.inr (0, [.int mc, .ref (lo1 d), .int (nI cap)])) ∧ co1 d = some (.inl (G.2 3, cap + max 1 (cap / 2), .inr (.inr (.inr (.inr (va_cpy f (fun _ => none) 0 0 cap))))))) := by
  refine z_wenter RJx4a65c rfl (by decide) (Nat.le_of_ble_eq_true rfl) ?_
  intro pp ee ss mm bb mt cd ls AA cx hk hZ hW hA hr hlk hnm hl
  have hl : lv_has ls 1 [(0, .ref (lo b))] := hl
  generalize hav : ([.ref (lo b)] : List Value).toArray = av at cx ⊢
  have hx := cx.1
  have hb := cx.2.1
  refine lv_aload_n hx hb dJx4a65c_grow_d5877_0 rfl (lv_at hl 0 rfl) ?_
  refine lv_aload_n hx hb dJx4a65c_grow_d5877_1 rfl (lv_at hl 0 rfl) ?_
  refine x_get (v := .int (nI cap)) cx hk hW.1 hb_ f_RJx4a65c_48_0 rfl dJx4a65c_grow_d5877_2 ?_
  refine lv_iconst (v := nI 1) hx hb dJx4a65c_grow_d5877_5 rfl ?_
  refine x_iaddN cx dJx4a65c_grow_d5877_6 ?_
  refine z_wrV (av := [.int (nI (cap + 1))]) (rest := []) hZ cx hk hW hA hb_ cv_RJx4a65c_69_0 (k_grow1 b d u cap mc f hb_ hd hu h1 h2 hel) hl.1 rfl rfl (Nat.le_of_ble_eq_true rfl) ⟨Nat.le_of_ble_eq_true rfl, Nat.le_of_ble_eq_true rfl⟩ ⟨Nat.le_refl 1, by show 0 + _ ≤ _; exact Nat.le_of_eq (Nat.zero_add _)⟩ dJx4a65c_grow_d5877_7 (fun v_ lo1 co1 H locs hq_ hW => ?_)
  obtain ⟨hv_, hq_⟩ := hq_
  subst hv_
  exact y_aret cx hW hr (Or.inr ⟨_, rfl⟩) hlk ⟨Nat.le_refl 1, by show 0 + _ ≤ _; exact Nat.le_of_eq (Nat.zero_add _)⟩ (Or.inr ⟨_, rfl⟩) dJx4a65c_grow_d5877_10 ⟨rfl, hq_⟩
