/-! ArrayList.add(E) -/
theorem isL_push {q : Nat → Option Nat} {g : Nat → Nat} {n v : Nat} (h : ∀ i, i < n → q i = some (g i)) : ∀ i, i < n + 1 → va_up q n (some v) i = some (if i = n then v else g i) := by
  intro i hi
  by_cases e : i = n
  · rw [e, va_up_self, if_pos rfl]
  · rw [va_up_ne _ _ e, if_neg e, h i (by omega)]
set_option maxHeartbeats 4000000 in
theorem k_add {l : Launch} {dd mi : Nat} {G : x_G} {lo : x_L} {co : x_C} (b d u w n ci : Nat) (g : Nat → Nat) (fs : List Value) {C : String} {T : u_T} {N : Nat} (h : isL G lo co dd b d n g) (hn : n < 24) (hu : co u = none) (hw_ : co w = some (.inr (ci, fs))) (hwb : w ≠ b) (hc : vwCl[ci]? = some (C, T, N)) (hca : (C, "java/lang/Object") ∈ x_nC) (hel : ∀ i, i < n → ∃ (x ci : Nat) (fs : List Value) (C : String) (T : u_T) (N : Nat), g i = lo x ∧ x ≠ b ∧ co x = some (.inr (ci, fs)) ∧ vwCl[ci]? = some (C, T, N) ∧ (C, "java/lang/Object") ∈ x_nC) : z_Wr l dd mi G lo co yJx4a65c_add_9ea2d cJx4a65c_add_9ea2d 2 (some .boolean) 6 1 60 [.ref (lo b), .ref (lo w)] (fun v lo1 co1 => v = some (.int (bI true)) ∧ (∀ i, i ≠ d → i ≠ u → lo1 i = lo i) ∧ (∀ i, i ≠ d → i ≠ u → i ≠ b → co1 i = co i) ∧ isL G lo1 co1 dd b d (n + 1) (fun q => if q = n then lo w else g q)) := by
  refine z_wenter RJx4a65c rfl (by decide) (Nat.le_of_ble_eq_true rfl) ?_
  intro pp ee ss mm bb mt cd ls AA cx hk hZ hW hA hr hlk hnm hl
  have hl : lv_has ls 2 [(0, .ref (lo b)), (1, .ref (lo w))] := hl
  generalize hav : ([.ref (lo b), .ref (lo w)] : List Value).toArray = av at cx ⊢
  have hx := cx.1
  have hb := cx.2.1
  obtain ⟨mc, ⟨h0, hb_, hd⟩ | ⟨cap, q, h1, h2, h3, h4, hb_, hd⟩⟩ := h
  · subst h0
    have hbd : b ≠ d := fun q => by rw [q, hd] at hb_; cases hb_
    refine lv_aload_n hx hb dJx4a65c_add_9ea2d_0 rfl (lv_at hl 0 rfl) ?_
    refine lv_dup hx hb dJx4a65c_add_9ea2d_1 rfl ?_
    refine x_get (v := .int mc) cx hk hW.1 hb_ f_RJx4a65c_63_0 rfl dJx4a65c_add_9ea2d_2 ?_
    refine lv_iconst (v := nI 1) hx hb dJx4a65c_add_9ea2d_5 rfl ?_
    refine lv_iadd hx hb dJx4a65c_add_9ea2d_6 ?_
    refine x_putS (v := .int (mc + nI 1)) cx hk hW hb_ p_RJx4a65c_63_0 (fun q => by cases q) (by simp) rfl rfl dJx4a65c_add_9ea2d_7 (fun H locs hz hW => ?_)
    refine lv_aload_n hx hb dJx4a65c_add_9ea2d_10 rfl (lv_at hl 0 rfl) ?_
    refine lv_aload_n hx hb dJx4a65c_add_9ea2d_11 rfl (lv_at hl 1 rfl) ?_
    refine lv_aload_n hx hb dJx4a65c_add_9ea2d_12 rfl (lv_at hl 0 rfl) ?_
    refine x_get (v := .ref (dd)) cx hk hW.1 (va_up_self _ _ _) f_RJx4a65c_9_0 rfl dJx4a65c_add_9ea2d_13 ?_
    refine lv_aload_n hx hb dJx4a65c_add_9ea2d_16 rfl (lv_at hl 0 rfl) ?_
    refine x_get (v := .int (nI 0)) cx hk hW.1 (va_up_self _ _ _) f_RJx4a65c_48_0 rfl dJx4a65c_add_9ea2d_17 ?_
    refine z_wrV (av := [.ref (lo w), .ref (dd), .int (nI 0)]) (rest := []) hZ cx hk hW hA (va_up_self _ _ _) cv_RJx4a65c_131_0 (k_put0 b d w ci _ fs (va_up_self _ _ _) ((va_up_ne _ _ (Ne.symm hbd)).trans hd) ((va_up_ne _ _ hwb).trans hw_) hwb hc hca) hl.1 rfl rfl (Nat.le_of_ble_eq_true rfl) ⟨by decide, by decide⟩ ⟨by decide, by decide⟩ dJx4a65c_add_9ea2d_20 (fun v_ lo1 co1 H locs hq_ hW => ?_)
    obtain ⟨hv_, o1, o2, o3, o4⟩ := hq_
    subst hv_
    refine lv_iconst (v := nI 1) hx hb dJx4a65c_add_9ea2d_23 rfl ?_
    exact y_zret true cx hW hr hlk ⟨by decide, by decide⟩ dJx4a65c_add_9ea2d_24 rfl ⟨rfl, fun i q1 _ => o1 i q1, fun i q1 _ q3 => (o2 i q1 q3).trans (va_up_ne _ _ q3), mc + nI 1, Or.inr ⟨10, _, by decide, by decide, by decide, isL_push (fun i q => absurd q (Nat.not_lt_zero i)), o3, o4⟩⟩
  · have hbd : b ≠ d := fun q => by rw [q, hd] at hb_; cases hb_
    have hbu : b ≠ u := fun q => by rw [q, hu] at hb_; cases hb_
    have hdu : d ≠ u := fun q => by rw [q, hu] at hd; cases hd
    refine lv_aload_n hx hb dJx4a65c_add_9ea2d_0 rfl (lv_at hl 0 rfl) ?_
    refine lv_dup hx hb dJx4a65c_add_9ea2d_1 rfl ?_
    refine x_get (v := .int mc) cx hk hW.1 hb_ f_RJx4a65c_63_0 rfl dJx4a65c_add_9ea2d_2 ?_
    refine lv_iconst (v := nI 1) hx hb dJx4a65c_add_9ea2d_5 rfl ?_
    refine lv_iadd hx hb dJx4a65c_add_9ea2d_6 ?_
    refine x_putS (v := .int (mc + nI 1)) cx hk hW hb_ p_RJx4a65c_63_0 (fun q => by cases q) (by simp) rfl rfl dJx4a65c_add_9ea2d_7 (fun H locs hz hW => ?_)
    refine lv_aload_n hx hb dJx4a65c_add_9ea2d_10 rfl (lv_at hl 0 rfl) ?_
    refine lv_aload_n hx hb dJx4a65c_add_9ea2d_11 rfl (lv_at hl 1 rfl) ?_
    refine lv_aload_n hx hb dJx4a65c_add_9ea2d_12 rfl (lv_at hl 0 rfl) ?_
    refine x_get (v := .ref (lo d)) cx hk hW.1 (va_up_self _ _ _) f_RJx4a65c_9_0 rfl dJx4a65c_add_9ea2d_13 ?_
    refine lv_aload_n hx hb dJx4a65c_add_9ea2d_16 rfl (lv_at hl 0 rfl) ?_
    refine x_get (v := .int (nI n)) cx hk hW.1 (va_up_self _ _ _) f_RJx4a65c_48_0 rfl dJx4a65c_add_9ea2d_17 ?_
    rcases Nat.lt_or_ge n cap with hlt | hge
    · refine z_wrV (av := [.ref (lo w), .ref (lo d), .int (nI n)]) (rest := []) hZ cx hk hW hA (va_up_self _ _ _) cv_RJx4a65c_131_0 (k_put2 b d w cap n ci _ q fs (va_up_self _ _ _) ((va_up_ne _ _ (Ne.symm hbd)).trans hd) ((va_up_ne _ _ hwb).trans hw_) hc hca hlt (by omega)) hl.1 rfl rfl (Nat.le_of_ble_eq_true rfl) ⟨by decide, by decide⟩ ⟨by decide, by decide⟩ dJx4a65c_add_9ea2d_20 (fun v_ lo1 co1 H locs hq_ hW => ?_)
      obtain ⟨hv_, o1, o2, o3, o4⟩ := hq_
      subst hv_
      refine lv_iconst (v := nI 1) hx hb dJx4a65c_add_9ea2d_23 rfl ?_
      exact y_zret true cx hW hr hlk ⟨by decide, by decide⟩ dJx4a65c_add_9ea2d_24 rfl ⟨rfl, fun i _ _ => by rw [o1], fun i q1 _ q3 => (o2 i q1 q3).trans (va_up_ne _ _ q3), mc + nI 1, Or.inr ⟨cap, _, hlt, h2, h3, isL_push h4, o3, o4⟩⟩
    · have e : cap = n := by omega
      subst e
      have hels : z_els lo (va_up co b (some (.inr (0, [.int (mc + nI 1), .ref (lo d), .int (nI cap)])))) q cap := by
        intro i hi y hy
        obtain ⟨x, ci, fs, C, T, N, e1, e2, e3, e4, e5⟩ := hel i hi
        rw [h4 i hi] at hy
        cases hy
        exact ⟨x, ci, fs, C, T, N, e1, (va_up_ne _ _ e2).trans e3, e4, e5⟩
      refine z_wrV (av := [.ref (lo w), .ref (lo d), .int (nI cap)]) (rest := []) hZ cx hk hW hA (va_up_self _ _ _) cv_RJx4a65c_131_0 (k_put1 b d u w cap ci _ q fs (va_up_self _ _ _) ((va_up_ne _ _ (Ne.symm hbd)).trans hd) ((va_up_ne _ _ (Ne.symm hbu)).trans hu) h2 (by omega) hels ((va_up_ne _ _ hwb).trans hw_) hwb hc hca) hl.1 rfl rfl (Nat.le_of_ble_eq_true rfl) ⟨by decide, by decide⟩ ⟨by decide, by decide⟩ dJx4a65c_add_9ea2d_20 (fun v_ lo1 co1 H locs hq_ hW => ?_)
      obtain ⟨hv_, o1, o2, o3, o4⟩ := hq_
      subst hv_
      refine lv_iconst (v := nI 1) hx hb dJx4a65c_add_9ea2d_23 rfl ?_
      exact y_zret true cx hW hr hlk ⟨by decide, by decide⟩ dJx4a65c_add_9ea2d_24 rfl ⟨rfl, o1, fun i q1 q2 q3 => (o2 i q1 q2 q3).trans (va_up_ne _ _ q3), mc + nI 1, Or.inr ⟨_, _, by omega, by omega, by omega, isL_push (fun i hi => by show (if 0 ≤ i ∧ i < 0 + cap then q (0 + (i - 0)) else none) = _; rw [if_pos ⟨Nat.zero_le i, by omega⟩, Nat.zero_add, Nat.sub_zero]; exact h4 i hi), o3, o4⟩⟩
