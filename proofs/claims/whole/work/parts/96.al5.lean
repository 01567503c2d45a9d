/-! ArrayList.add(E, Object[], int): room is left -/
set_option maxHeartbeats 4000000 in
theorem k_put2 {l : Launch} {dd mi : Nat} {G : x_G} {lo : x_L} {co : x_C} (b d w cap n ci : Nat) (mc : Int32) (f : Nat → Option Nat) (fs : List Value) {C : String} {T : u_T} {N : Nat} (hb_ : co b = some (.inr (0, [.int mc, .ref (lo d), .int (nI n)]))) (hd : co d = some (.inl (G.2 3, cap, .inr (.inr (.inr (.inr f)))))) (hw_ : co w = some (.inr (ci, fs))) (hc : vwCl[ci]? = some (C, T, N)) (hca : (C, "java/lang/Object") ∈ x_nC) (h1 : n < cap) (h2 : cap < 60) : z_Wr l dd mi G lo co yJx4a65c_add_72be8 cJx4a65c_add_72be8 4 none 5 1 60 [.ref (lo b), .ref (lo w), .ref (lo d), .int (nI n)] (fun v lo1 co1 => v = none ∧ lo1 = lo ∧ (∀ i, i ≠ d → i ≠ b → co1 i = co i) ∧ co1 b = some (.inr (0, [.int mc, .ref (lo1 d), .int (nI (n + 1))])) ∧ co1 d = some (.inl (G.2 3, cap, .inr (.inr (.inr (.inr (va_up f n (some (lo w))))))))) := by
  refine z_wenter RJx4a65c rfl (by decide) (Nat.le_of_ble_eq_true rfl) ?_
  intro pp ee ss mm bb mt cd ls AA cx hk hZ hW hA hr hlk hnm hl
  have hl : lv_has ls 4 [(0, .ref (lo b)), (1, .ref (lo w)), (2, .ref (lo d)), (3, .int (nI n))] := hl
  generalize hav : ([.ref (lo b), .ref (lo w), .ref (lo d), .int (nI n)] : List Value).toArray = av at cx ⊢
  have hx := cx.1
  have hb := cx.2.1
  have hbd : b ≠ d := fun q => by rw [q, hd] at hb_; cases hb_
  have hcl : (nI n).toNatClampNeg = n := nI_clamp (by omega)
  refine lv_iload_n hx hb dJx4a65c_add_72be8_0 rfl (lv_at hl 3 rfl) ?_
  refine lv_aload_n hx hb dJx4a65c_add_72be8_1 rfl (lv_at hl 2 rfl) ?_
  refine x_alenO cx hk hW.1 hd dJx4a65c_add_72be8_2 ?_
  refine x_icmp_ne (tgt := 11) cx dJx4a65c_add_72be8_3 (by decide) (by omega) (fun _ => ?_) (fun q => absurd q (by omega))
  refine lv_aload_n hx hb dJx4a65c_add_72be8_11 rfl (lv_at hl 2 rfl) ?_
  refine lv_iload_n hx hb dJx4a65c_add_72be8_12 rfl (lv_at hl 3 rfl) ?_
  refine lv_aload_n hx hb dJx4a65c_add_72be8_13 rfl (lv_at hl 1 rfl) ?_
  refine x_astM 3 cx hk hW hd rfl (x_any hk hW.1 hw_ hc hca) (vp_in_nI h1 (by omega)) dJx4a65c_add_72be8_14 (fun H locs hW => ?_)
  rw [hcl] at hW
  refine lv_aload_n hx hb dJx4a65c_add_72be8_15 rfl (lv_at hl 0 rfl) ?_
  refine lv_iload_n hx hb dJx4a65c_add_72be8_16 rfl (lv_at hl 3 rfl) ?_
  refine lv_iconst (v := nI 1) hx hb dJx4a65c_add_72be8_17 rfl ?_
  refine x_iaddN cx dJx4a65c_add_72be8_18 ?_
  refine x_putS (v := .int (nI (n + 1))) cx hk hW ((va_up_ne _ _ hbd).trans hb_) p_RJx4a65c_48_0 (fun q => by cases q) (by simp) rfl rfl dJx4a65c_add_72be8_19 (fun H locs hz hW => ?_)
  exact y_vret cx hW hr hlk ⟨by decide, by decide⟩ dJx4a65c_add_72be8_22 ⟨rfl, rfl, fun i q1 q2 => (va_up_ne _ _ q2).trans (va_up_ne _ _ q1), va_up_self _ _ _, (va_up_ne _ _ (Ne.symm hbd)).trans (va_up_self _ _ _)⟩
