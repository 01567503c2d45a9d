/-! ArrayList.grow(int): a full row -/
theorem al_nat : ∀ c : Nat, c < 35 → 10 ≤ c → (0 < nI c ∧ nI (c + 1) - nI c = nI 1 ∧ nI c >>> (nI 1 &&& 31) = nI (c / 2)) := by decide
set_option maxHeartbeats 4000000 in
theorem k_grow1 {l : Launch} {dd mi : Nat} {G : x_G} {lo : x_L} {co : x_C} (b d u cap : Nat) (mc : Int32) (f : Nat → Option Nat) (hb_ : co b = some (.inr (0, [.int mc, .ref (lo d), .int (nI cap)]))) (hd : co d = some (.inl (G.2 3, cap, .inr (.inr (.inr (.inr f)))))) (hu : co u = none) (h1 : 10 ≤ cap) (h2 : cap < 35) (hel : z_els lo co f cap) : z_Wr l dd mi G lo co yJx4a65c_grow_92f84 cJx4a65c_grow_92f84 4 (some (.array (.object "java/lang/Object"))) 3 1 (cap + max 1 (cap / 2)) [.ref (lo b), .int (nI (cap + 1))] (fun v lo1 co1 => v = some (.ref (lo1 d)) ∧ (∀ i, i ≠ d → i ≠ u → lo1 i = lo i) ∧ (∀ i, i ≠ d → i ≠ u → i ≠ b → co1 i = co i) ∧ co1 b = some (.inr (0, [.int mc, .ref (lo1 d), .int (nI cap)])) ∧ co1 d = some (.inl (G.2 3, cap + max 1 (cap / 2), .inr (.inr (.inr (.inr (va_cpy f (fun _ => none) 0 0 cap))))))) := by
  refine z_wenter RJx4a65c rfl (by decide) (Nat.le_of_ble_eq_true rfl) ?_
  intro pp ee ss mm bb mt cd ls AA cx hk hZ hW hA hr hlk hnm hl
  have hl : lv_has ls 4 [(0, .ref (lo b)), (1, .int (nI (cap + 1)))] := hl
  generalize hav : ([.ref (lo b), .int (nI (cap + 1))] : List Value).toArray = av at cx ⊢
  have hx := cx.1
  have hb := cx.2.1
  have hbd : b ≠ d := fun q => by rw [q, hd] at hb_; cases hb_
  have hbu : b ≠ u := fun q => by rw [q, hu] at hb_; cases hb_
  have hdu : d ≠ u := fun q => by rw [q, hu] at hd; cases hd
  obtain ⟨p1, p2, p3⟩ := al_nat cap h2 h1
  have hmx : max 1 (cap / 2) = cap / 2 := Nat.max_eq_right (by omega)
  refine lv_aload_n hx hb dJx4a65c_grow_92f84_0 rfl (lv_at hl 0 rfl) ?_
  refine x_get (v := .ref (lo d)) cx hk hW.1 hb_ f_RJx4a65c_9_0 rfl dJx4a65c_grow_92f84_1 ?_
  refine x_alenO cx hk hW.1 hd dJx4a65c_grow_92f84_4 ?_
  refine lv_istore_n (lv' := [(2, .int (nI cap)), (0, .ref (lo b)), (1, .int (nI (cap + 1)))]) hx hb dJx4a65c_grow_92f84_5 rfl hl (by decide) rfl (fun ls hl => ?_)
  refine lv_iload_n hx hb dJx4a65c_grow_92f84_6 rfl (lv_at hl 0 rfl) ?_
  refine lv_if_gt (tgt := 20) hx hb dJx4a65c_grow_92f84_7 (by decide) (fun _ => ?_) (fun q => absurd p1 q)
  refine lv_iload_n hx hb dJx4a65c_grow_92f84_20 rfl (lv_at hl 0 rfl) ?_
  refine lv_iload_n hx hb dJx4a65c_grow_92f84_21 rfl (lv_at hl 2 rfl) ?_
  refine lv_iload_n hx hb dJx4a65c_grow_92f84_22 rfl (lv_at hl 0 rfl) ?_
  refine lv_isub hx hb dJx4a65c_grow_92f84_23 ?_
  refine lv_iload_n hx hb dJx4a65c_grow_92f84_24 rfl (lv_at hl 0 rfl) ?_
  refine lv_iconst (v := nI 1) hx hb dJx4a65c_grow_92f84_25 rfl ?_
  refine lv_ishr hx hb dJx4a65c_grow_92f84_26 ?_
  rw [p2, p3]
  refine x_rdS (av := [.int (nI cap), .int (nI 1), .int (nI (cap / 2))]) (rest := []) cx hk hW.1 cs_RJx4a65c_73 (c_newLen cap 1 (cap / 2) (by omega) (by decide) (by omega) (by decide)) hl.1 rfl rfl (Nat.le_of_ble_eq_true rfl) ⟨Nat.le_of_ble_eq_true rfl, Nat.le_of_ble_eq_true rfl⟩ ⟨Nat.zero_le _, Nat.zero_le _⟩ dJx4a65c_grow_92f84_27 ?_
  refine lv_istore_n (lv' := [(3, .int (nI (cap + max 1 (cap / 2)))), (2, .int (nI cap)), (0, .ref (lo b)), (1, .int (nI (cap + 1)))]) hx hb dJx4a65c_grow_92f84_30 rfl hl (by decide) rfl (fun ls hl => ?_)
  refine lv_aload_n hx hb dJx4a65c_grow_92f84_31 rfl (lv_at hl 2 rfl) ?_
  refine lv_aload_n hx hb dJx4a65c_grow_92f84_32 rfl (lv_at hl 2 rfl) ?_
  refine x_get (v := .ref (lo d)) cx hk hW.1 hb_ f_RJx4a65c_9_0 rfl dJx4a65c_grow_92f84_33 ?_
  refine lv_iload_n hx hb dJx4a65c_grow_92f84_36 rfl (lv_at hl 0 rfl) ?_
  refine z_wrS (av := [.ref (lo d), .int (nI (cap + max 1 (cap / 2)))]) (rest := [.ref (lo b)]) hZ cx hk hW hA cs_RJx4a65c_66 (k_copy2 d u (cap + max 1 (cap / 2)) cap f hd hu (by omega) (by omega) hel) hl.1 rfl rfl (Nat.le_of_ble_eq_true rfl) ⟨Nat.le_of_ble_eq_true rfl, Nat.le_of_ble_eq_true rfl⟩ ⟨Nat.le_refl 1, by show 0 + _ ≤ _; exact Nat.le_of_eq (Nat.zero_add _)⟩ dJx4a65c_grow_92f84_37 (fun v_ lo1 co1 H locs hq_ hW => ?_)
  obtain ⟨hv_, ho_, hu_⟩ := hq_
  subst hv_
  refine lv_dup_x1 hx hb dJx4a65c_grow_92f84_40 rfl rfl ?_
  rw [(ho_ b hbu).1.symm]
  refine x_putS (v := .ref (lo1 u)) cx hk hW ((ho_ b hbu).2.trans hb_) p_RJx4a65c_9_0 (fun q => by cases q) (by simp) rfl rfl dJx4a65c_grow_92f84_41 (fun H locs hz hW => ?_)
  have hW := hW.retag ((va_up_ne _ _ (Ne.symm hbu)).trans hu_) hdu
  refine y_aret cx hW hr (Or.inr ⟨_, rfl⟩) hlk ⟨Nat.le_refl 1, by show 0 + _ ≤ _; exact Nat.le_of_eq (Nat.zero_add _)⟩ (Or.inr ⟨_, rfl⟩) dJx4a65c_grow_92f84_44 ⟨by rw [va_up_self], fun i q1 q2 => (va_up_ne _ _ q1).trans (ho_ i q2).1, fun i q1 q2 q3 => (va_up_ne _ _ q1).trans ((va_up_ne _ _ q2).trans ((va_up_ne _ _ q3).trans (ho_ i q2).2)), ?_, va_up_self _ _ _⟩
  rw [va_up_self]
  exact (va_up_ne _ _ hbd).trans ((va_up_ne _ _ hbu).trans (va_up_self _ _ _))
