/-! ArrayList.add(E, Object[], int): the row is full -/
set_option maxHeartbeats 4000000 in
theorem k_put1 {l : Launch} {dd mi : Nat} {G : x_G} {lo : x_L} {co : x_C} (b d u w cap ci : Nat) (mc : Int32) (f : Nat → Option Nat) (fs : List Value) {C : String} {T : u_T} {N : Nat} (hb_ : co b = some (.inr (0, [.int mc, .ref (lo d), .int (nI cap)]))) (hd : co d = some (.inl (G.2 3, cap, .inr (.inr (.inr (.inr f)))))) (hu : co u = none) (h1 : 10 ≤ cap) (h2 : cap < 35) (hel : z_els lo co f cap) (hw_ : co w = some (.inr (ci, fs))) (hwb : w ≠ b) (hc : vwCl[ci]? = some (C, T, N)) (hca : (C, "java/lang/Object") ∈ x_nC) : z_Wr l dd mi G lo co yJx4a65c_add_72be8 cJx4a65c_add_72be8 4 none 5 1 60 [.ref (lo b), .ref (lo w), .ref (lo d), .int (nI cap)] (fun v lo1 co1 => v = none ∧ (∀ i, i ≠ d → i ≠ u → lo1 i = lo i) ∧ (∀ i, i ≠ d → i ≠ u → i ≠ b → co1 i = co i) ∧ co1 b = some (.inr (0, [.int mc, .ref (lo1 d), .int (nI (cap + 1))])) ∧ co1 d = some (.inl (G.2 3, cap + max 1 (cap / 2), .inr (.inr (.inr (.inr (va_up (va_cpy f (fun _ => none) 0 0 cap) cap (some (lo w))))))))) := by
  refine z_wenter RJx4a65c rfl (by decide) (Nat.le_of_ble_eq_true rfl) ?_
  intro pp ee ss mm bb mt cd ls AA cx hk hZ hW hA hr hlk hnm hl
  have hl : lv_has ls 4 [(0, .ref (lo b)), (1, .ref (lo w)), (2, .ref (lo d)), (3, .int (nI cap))] := hl
  generalize hav : ([.ref (lo b), .ref (lo w), .ref (lo d), .int (nI cap)] : List Value).toArray = av at cx ⊢
  have hx := cx.1
  have hb := cx.2.1
  have hbd : b ≠ d := fun q => by rw [q, hd] at hb_; cases hb_
  have hwd : w ≠ d := fun q => by rw [q, hd] at hw_; cases hw_
  have hbu : b ≠ u := fun q => by rw [q, hu] at hb_; cases hb_
  have hwu : w ≠ u := fun q => by rw [q, hu] at hw_; cases hw_
  have hdu : d ≠ u := fun q => by rw [q, hu] at hd; cases hd
  have hcl : (nI cap).toNatClampNeg = cap := nI_clamp (by omega)
  refine lv_iload_n hx hb dJx4a65c_add_72be8_0 rfl (lv_at hl 3 rfl) ?_
  refine lv_aload_n hx hb dJx4a65c_add_72be8_1 rfl (lv_at hl 2 rfl) ?_
  refine x_alenO cx hk hW.1 hd dJx4a65c_add_72be8_2 ?_
  refine x_icmp_ne (tgt := 11) cx dJx4a65c_add_72be8_3 (by decide) (by omega) (fun q => absurd rfl q) (fun _ => ?_)
  refine lv_aload_n hx hb dJx4a65c_add_72be8_6 rfl (lv_at hl 0 rfl) ?_
  refine z_wrV (av := []) (rest := []) hZ cx hk hW hA hb_ cv_RJx4a65c_129_0 (k_grw1 b d u cap mc f hb_ hd hu h1 h2 hel) hl.1 rfl rfl (Nat.le_of_ble_eq_true rfl) ⟨by decide, by decide⟩ ⟨by decide, by show 0 + _ ≤ 60; omega⟩ dJx4a65c_add_72be8_7 (fun v_ lo1 co1 H locs hq_ hW => ?_)
  obtain ⟨hv_, o1, o2, o3, o4⟩ := hq_
  subst hv_
  rw [← o1 b hbd hbu, ← o1 w hwd hwu] at hl
  refine lv_astore_n (lv' := [(2, .ref (lo1 d)), (0, .ref (lo1 b)), (1, .ref (lo1 w)), (3, .int (nI cap))]) hx hb dJx4a65c_add_72be8_10 rfl hl (by decide) rfl (fun ls hl => ?_)
  refine lv_aload_n hx hb dJx4a65c_add_72be8_11 rfl (lv_at hl 0 rfl) ?_
  refine lv_iload_n hx hb dJx4a65c_add_72be8_12 rfl (lv_at hl 3 rfl) ?_
  refine lv_aload_n hx hb dJx4a65c_add_72be8_13 rfl (lv_at hl 2 rfl) ?_
  refine x_astM 3 cx hk hW o4 rfl (x_any hk hW.1 ((o2 w hwd hwu hwb).trans hw_) hc hca) (vp_in_nI (by omega) (by omega)) dJx4a65c_add_72be8_14 (fun H locs hW => ?_)
  rw [hcl, o1 w hwd hwu] at hW
  refine lv_aload_n hx hb dJx4a65c_add_72be8_15 rfl (lv_at hl 1 rfl) ?_
  refine lv_iload_n hx hb dJx4a65c_add_72be8_16 rfl (lv_at hl 3 rfl) ?_
  refine lv_iconst (v := nI 1) hx hb dJx4a65c_add_72be8_17 rfl ?_
  refine x_iaddN cx dJx4a65c_add_72be8_18 ?_
  refine x_putS (v := .int (nI (cap + 1))) cx hk hW ((va_up_ne _ _ hbd).trans o3) p_RJx4a65c_48_0 (fun q => by cases q) (by simp) rfl rfl dJx4a65c_add_72be8_19 (fun H locs hz hW => ?_)
  exact y_vret cx hW hr hlk ⟨by decide, by show 0 + _ ≤ 60; omega⟩ dJx4a65c_add_72be8_22 ⟨rfl, o1, fun i q1 q2 q3 => (va_up_ne _ _ q3).trans ((va_up_ne _ _ q1).trans (o2 i q1 q2 q3)), va_up_self _ _ _, (va_up_ne _ _ (Ne.symm hbd)).trans (va_up_self _ _ _)⟩
