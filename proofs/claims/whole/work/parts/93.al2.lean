/-! ArrayList.grow(int): the first row -/
set_option maxHeartbeats 4000000 in
theorem k_grow0 {l : Launch} {dd mi : Nat} {G : x_G} {lo : x_L} {co : x_C} (b d : Nat) (mc : Int32) (hb_ : co b = some (.inr (0, [.int mc, .ref dd, .int (nI 0)]))) (hd : co d = none) : z_Wr l dd mi G lo co yJx4a65c_grow_92f84 cJx4a65c_grow_92f84 4 (some (.array (.object "java/lang/Object"))) 1 1 10 [.ref (lo b), .int (nI 1)] (fun v lo1 co1 => v = some (.ref (lo1 d)) ∧ (∀ i, i ≠ d → lo1 i = lo i) ∧ (∀ i, i ≠ d → i ≠ b → co1 i = co i) ∧ co1 b = some (.inr (0, [.int mc, .ref (lo1 d), .int (nI 0)])) ∧ co1 d = some (.inl (G.2 3, 10, .inr (.inr (.inr (.inr (fun _ => none))))))) := by
  refine z_wenter RJx4a65c rfl (by decide) (Nat.le_of_ble_eq_true rfl) ?_
  intro pp ee ss mm bb mt cd ls AA cx hk hZ hW hA hr hlk hnm hl
  have hl : lv_has ls 4 [(0, .ref (lo b)), (1, .int (nI 1))] := hl
  generalize hav : ([.ref (lo b), .int (nI 1)] : List Value).toArray = av at cx ⊢
  have hx := cx.1
  have hb := cx.2.1
  have hbd : b ≠ d := fun q => by rw [q, hd] at hb_; cases hb_
  refine lv_aload_n hx hb dJx4a65c_grow_92f84_0 rfl (lv_at hl 0 rfl) ?_
  refine x_get (v := .ref dd) cx hk hW.1 hb_ f_RJx4a65c_9_0 rfl dJx4a65c_grow_92f84_1 ?_
  refine z_alen hZ cx hW dJx4a65c_grow_92f84_4 ?_
  refine lv_istore_n (lv' := [(2, .int (nI 0)), (0, .ref (lo b)), (1, .int (nI 1))]) hx hb dJx4a65c_grow_92f84_5 rfl hl (by decide) rfl (fun ls hl => ?_)
  refine lv_iload_n hx hb dJx4a65c_grow_92f84_6 rfl (lv_at hl 0 rfl) ?_
  refine lv_if_gt (tgt := 20) hx hb dJx4a65c_grow_92f84_7 (by decide) (fun q => absurd q (by decide)) (fun _ => ?_)
  refine lv_aload_n hx hb dJx4a65c_grow_92f84_10 rfl (lv_at hl 1 rfl) ?_
  refine x_get (v := .ref dd) cx hk hW.1 hb_ f_RJx4a65c_9_0 rfl dJx4a65c_grow_92f84_11 ?_
  refine z_gets hZ cx hW w_45 dJx4a65c_grow_92f84_14 ?_
  refine lv_acmp_eq (rx := some dd) (ry := some dd) (tgt := 45) hx hb dJx4a65c_grow_92f84_17 (by decide) (fun _ => ?_) (fun q => absurd rfl q)
  refine lv_aload_n hx hb dJx4a65c_grow_92f84_45 rfl (lv_at hl 1 rfl) ?_
  refine lv_bipush (v := nI 10) hx hb dJx4a65c_grow_92f84_46 rfl ?_
  refine lv_iload_n hx hb dJx4a65c_grow_92f84_48 rfl (lv_at hl 2 rfl) ?_
  refine x_mmax cx hl.1 w_370 (by omega) w_247 w_8 w_248 ⟨Nat.le_of_ble_eq_true rfl, Nat.le_of_ble_eq_true rfl⟩ ⟨Nat.zero_le _, Nat.zero_le _⟩ dJx4a65c_grow_92f84_49 ?_
  rw [show max 10 1 = 10 from rfl]
  refine x_newA 3 d cx hk hW hA hd rfl w_371 hZ.2.2.2.1 (by decide) (by decide) (by decide) dJx4a65c_grow_92f84_52 (fun lo1 H hlo1 hW => ?_)
  refine lv_dup_x1 hx hb dJx4a65c_grow_92f84_55 rfl rfl ?_
  rw [(hlo1 b hbd).symm]
  refine x_putS (v := .ref (lo1 d)) cx hk hW ((va_up_ne _ _ hbd).trans hb_) p_RJx4a65c_9_0 (fun q => by cases q) (by simp) rfl rfl dJx4a65c_grow_92f84_56 (fun H locs hz hW => ?_)
  exact y_aret cx hW hr (Or.inr ⟨_, rfl⟩) hlk ⟨by decide, by decide⟩ (Or.inr ⟨_, rfl⟩) dJx4a65c_grow_92f84_59 ⟨rfl, hlo1, fun i h1 h2 => (va_up_ne _ _ h2).trans (va_up_ne _ _ h1), va_up_self _ _ _, (va_up_ne _ _ (Ne.symm hbd)).trans (va_up_self _ _ _)⟩
