/-! IndexDesk.enlist -/
theorem ad_obj {G : x_G} {lo : x_L} {co : x_C} {b tb : Nat} {A : Ad} (h : isAd G lo co b tb A) : ∃ (ci : Nat) (fs : List Value) (C : String) (T : u_T) (N : Nat), co b = some (.inr (ci, fs)) ∧ vwCl[ci]? = some (C, T, N) ∧ (C, "java/lang/Object") ∈ x_nC := by
  rcases h with ⟨-, h⟩ | ⟨-, h⟩ | ⟨-, h⟩ | ⟨-, h⟩ | ⟨-, h⟩
  · exact ⟨1, _, RX1, _, _, h.1, rfl, by simp [x_nC]⟩
  · exact ⟨2, _, RX2, _, _, h.1, rfl, by simp [x_nC]⟩
  · exact ⟨3, _, RX3, _, _, h.1, rfl, by simp [x_nC]⟩
  · exact ⟨4, _, RX5, _, _, h.1, rfl, by simp [x_nC]⟩
  · exact ⟨7, _, RX8, _, _, h, rfl, by simp [x_nC]⟩
set_option maxHeartbeats 8000000 in
theorem dw_enlist {l : Launch} {mi : Nat} {G : x_G} {lo lo0 : x_L} {co co0 : x_C} (dd : Nat) (S : St) (X : Sc) (k : Nat) (e : Nat × Ad) (hd : isDk G lo0 co0 dd S X) (hS : Sok S) (hk0 : sn S 1 = k) (h21 : k < 12) (he : e.1 < 4) (h14 : co0 14 = none) (had : isAd G lo co (tA k) (tT e.1) (bA (addA S e) k)) (fl : ∀ i, (i < tA k ∨ tA k + 2 ≤ i) → lo i = lo0 i) (fc : ∀ i, (i < tA k ∨ tA k + 2 ≤ i) → co i = co0 i) : z_Wr l dd mi G lo (co) yX10_enlist cX10_enlist 2 (some .int) 7 1 60 [.ref (lo (0)), .ref (lo (tA k))] (fun (v : Option Value) (lo1 : x_L) (co1 : x_C) => v = some (.int (nI k)) ∧ lo1 0 = lo 0 ∧ isDk G lo1 co1 dd (addA S e) X) := by
  refine z_wenter RX10 rfl (by decide) (Nat.le_of_ble_eq_true rfl) ?_
  intro pp ee ss mm bb mt cd ls AA cx hk hZ hW hA hr hlk hnm hl
  have hl : lv_has ls 2 [(0, .ref (lo (0))), (1, .ref (lo (tA k)))] := hl
  generalize hav : ([.ref (lo (0)), .ref (lo (tA k))] : List Value).toArray = av at cx ⊢
  have hx := cx.1
  have hb := cx.2.1
  have hd0 : co 0 = some (.inr (9, [.ref (lo 1), .ref (lo 2), .ref (lo 4), .ref (lo 6)])) := by
    rw [fc 0 (by unfold tA; omega), fl 1 (by unfold tA; omega), fl 2 (by unfold tA; omega), fl 4 (by unfold tA; omega), fl 6 (by unfold tA; omega)]
    exact hd.1
  refine lv_aload_n hx hb dX10_enlist_0 rfl (lv_at hl 0 rfl) ?_
  refine x_get (v := .ref (lo (4))) cx hk hW.1 hd0 f_RX10_22_9 rfl dX10_enlist_1 ?_
  refine lv_aload_n hx hb dX10_enlist_4 rfl (lv_at hl 1 rfl) ?_
  have hL : isL G lo co dd 4 5 k (fun q => lo0 (tA q)) := by
    have := hd.L4
    rw [hk0] at this
    exact this.of (fc 4 (by unfold tA; omega)) (fc 5 (by unfold tA; omega)) (fl 5 (by unfold tA; omega)) (fun _ _ => rfl)
  have hel : ∀ i, i < k → ∃ (x ci : Nat) (fs : List Value) (C : String) (T : u_T) (N : Nat), lo0 (tA i) = lo x ∧ x ≠ 4 ∧ co x = some (.inr (ci, fs)) ∧ vwCl[ci]? = some (C, T, N) ∧ (C, "java/lang/Object") ∈ x_nC := fun i hi => by
    obtain ⟨ci, fs, C, T, N, a1, a2, a3⟩ := ad_obj (hd.A (a := i) (by omega))
    exact ⟨tA i, ci, fs, C, T, N, (fl _ (by unfold tA; omega)).symm, by unfold tA; omega, (fc _ (by unfold tA; omega)).trans a1, a2, a3⟩
  obtain ⟨mc3, ev3, hl3⟩ := hL.obj
  obtain ⟨ci, fs, C, T, N, a1, a2, a3⟩ := ad_obj had
  refine z_wrV (t := 4) (av := [.ref (lo (tA k))]) (rest := []) hZ cx hk hW hA hl3 cv_RX10_91_0 (k_add 4 5 14 (tA k) k ci _ fs hL (by omega) ((fc 14 (by unfold tA; omega)).trans h14) a1 (by unfold tA; omega) a2 a3 hel) hl.1 rfl rfl (Nat.le_of_ble_eq_true rfl) ⟨by decide, by decide⟩ ⟨by decide, by decide⟩ dX10_enlist_5 (fun v_ lo3 co3 H locs hq_ hW => ?_)
  obtain ⟨hv_, o1, o2, o3⟩ := hq_
  subst hv_
  refine lv_pop hx hb dX10_enlist_8 rfl ?_
  have hdk : isDk G lo3 co3 dd (addA S e) X := dk_addA hd hS hk0 h21 (had.of (fun i hi => o2 _ (by unfold tA; omega) (by unfold tA; omega) (by unfold tA; omega)) (fun i hi => o1 _ (by unfold tA; omega) (by unfold tA; omega)) (o1 _ (by unfold tT; omega) (by unfold tT; omega))) (o3.of rfl rfl rfl (fun q hq => by rw [o1 _ (by unfold tA; omega) (by unfold tA; omega)])) (fun i h1 h2 h3 h4 => (o2 i h2 h3 h1).trans (fc i h4)) (fun i h1 h2 h3 => (o1 i h1 h2).trans (fl i h3))
  have g0 : lo3 0 = lo 0 := o1 0 (by decide) (by decide)
  rw [← g0] at hl
  have hn9 : sn (addA S e) 1 = k + 1 := by show va_up S.2.2.2 1 (sn S 1 + 1) 1 = _; rw [va_up_self, hk0]
  obtain ⟨mc4, ev4, hl4⟩ := hdk.L4.obj
  rw [hn9] at hl4
  refine lv_aload_n hx hb dX10_enlist_9 rfl (lv_at hl 0 rfl) ?_
  refine x_get (v := .ref (lo3 (4))) cx hk hW.1 (hdk.1) f_RX10_22_9 rfl dX10_enlist_10 ?_
  refine x_rdV (av := []) (rest := []) cx hk hW.1 hl4 cv_RX10_76_0 (l_size 4 mc4 ev4 (k + 1) hl4) hl.1 rfl rfl (Nat.le_of_ble_eq_true rfl) ⟨by decide, by decide⟩ ⟨by decide, by decide⟩ dX10_enlist_13 ?_
  refine lv_iconst (v := nI 1) hx hb dX10_enlist_16 rfl ?_
  refine x_isubN cx (by omega) dX10_enlist_17 ?_
  exact y_iret cx hW hr hlk ⟨by decide, by decide⟩ dX10_enlist_18 ⟨rfl, g0, hdk⟩
