/-! IndexDesk.<init> -/
set_option maxHeartbeats 4000000 in
theorem k_desk {l : Launch} {dd mi : Nat} {G : x_G} {lo : x_L} {co : x_C} (hb_ : co 0 = some (.inr (9, [.null, .null, .null, .null]))) (hn_ : ∀ t, t ≠ 0 → co t = none) : z_Wr l dd mi G lo co yX10_init cX10_init 1 none 4 35 705 [.ref (lo 0)] (fun v lo1 co1 => v = none ∧ lo1 0 = lo 0 ∧ isDk G lo1 co1 dd S0 X0) := by
  refine z_wenter RX10 rfl (by decide) (Nat.le_of_ble_eq_true rfl) ?_
  intro pp ee ss mm bb mt cd ls AA cx hk hZ hW hA hr hlk hnm hl
  have hl : lv_has ls 1 [(0, .ref (lo 0))] := hl
  generalize hav : ([.ref (lo 0)] : List Value).toArray = av at cx ⊢
  have hx := cx.1
  have hb := cx.2.1
  refine lv_aload_n hx hb dX10_init_0 rfl (lv_at hl 0 rfl) ?_
  refine x_oi cx hl.1 w_28 w_29 w_30 ⟨by decide, by decide⟩ dX10_init_1 ?_
  refine lv_aload_n hx hb dX10_init_4 rfl (lv_at hl 0 rfl) ?_
  refine lv_iconst (v := nI 4) hx hb dX10_init_5 rfl ?_
  refine x_newA 2 1 cx hk hW hA (hn_ 1 (by decide)) rfl w_31 hZ.2.2.2.2.1.1 (by decide) (by decide) (by decide) dX10_init_6 (fun lo1 H hlo1 hW => ?_)
  rw [← hlo1 0 (by decide)] at hl ⊢
  refine x_putS (v := .ref (lo1 1)) cx hk hW ((va_up_ne _ _ (by decide)).trans hb_) p_RX10_11_9 (fun _ => hnm.trans rfl) (by simp) rfl rfl dX10_init_9 (fun H locs hz hW => ?_)
  refine lv_aload_n hx hb dX10_init_12 rfl (lv_at hl 0 rfl) ?_
  refine x_new 2 cx hk hW hA ((va_up_ne _ _ (by decide)).trans ((va_up_ne _ _ (by decide)).trans (hn_ 2 (by decide)))) nw_RX10_15 (by decide) (by decide) dX10_init_13 (fun lo2 H hlo2 hW => ?_)
  rw [← hlo2 0 (by decide)] at hl ⊢
  refine lv_dup hx hb dX10_init_16 rfl ?_
  refine z_wrI (t := 2) (av := []) (rest := [.ref (lo2 2), .ref (lo2 0)]) hZ cx hk hW hA ci_RX10_17 (k_arr 2 (va_up_self _ _ _)) hl.1 rfl rfl (Nat.le_of_ble_eq_true rfl) ⟨by decide, by decide⟩ ⟨by decide, by decide⟩ dX10_init_17 (fun v_ lo3 co3 H locs hq_ hW => ?_)
  obtain ⟨hv_, hlo3, o3, f3⟩ := hq_
  have hlo3 := hlo3.symm
  subst hv_ hlo3
  have q0 : co3 0 = some (.inr (9, [.ref (lo1 1), .null, .null, .null])) := (f3 0 (by decide)).trans ((va_up_ne _ _ (by decide)).trans (va_up_self _ _ _))
  have q1 : co3 1 = some (.inl (G.2 2, 4, .inr (.inr (.inr (.inr (fun _ => none)))))) := (f3 1 (by decide)).trans ((va_up_ne _ _ (by decide)).trans ((va_up_ne _ _ (by decide)).trans (va_up_self _ _ _)))
  have qn : ∀ t, 3 ≤ t → co3 t = none := fun t ht => (f3 t (by omega)).trans ((va_up_ne _ _ (by omega)).trans ((va_up_ne _ _ (by omega)).trans ((va_up_ne _ _ (by omega)).trans (hn_ t (by omega)))))
  rw [← hlo2 1 (by decide)] at q0
  have e0 : lo2 0 = lo 0 := (hlo2 0 (by decide)).trans (hlo1 0 (by decide))
  clear f3
  refine x_putS (t := 0) (v := .ref (lo2 2)) cx hk hW q0 p_RX10_18_9 (fun _ => hnm.trans rfl) (by simp) rfl rfl dX10_init_20 (fun H locs hz hW => ?_)
  refine lv_aload_n hx hb dX10_init_23 rfl (lv_at hl 0 rfl) ?_
  refine x_new 4 cx hk hW hA ((va_up_ne _ _ (by decide)).trans (qn 4 (by decide))) nw_RX10_15 (by decide) (by decide) dX10_init_24 (fun lo4 H hlo4 hW => ?_)
  rw [← hlo4 0 (by decide)] at hl ⊢
  refine lv_dup hx hb dX10_init_27 rfl ?_
  refine z_wrI (t := 4) (av := []) (rest := [.ref (lo4 4), .ref (lo4 0)]) hZ cx hk hW hA ci_RX10_17 (k_arr 4 (va_up_self _ _ _)) hl.1 rfl rfl (Nat.le_of_ble_eq_true rfl) ⟨by decide, by decide⟩ ⟨by decide, by decide⟩ dX10_init_28 (fun v_ lo5 co5 H locs hq_ hW => ?_)
  obtain ⟨hv_, hlo5, o5, f5⟩ := hq_
  have hlo5 := hlo5.symm
  subst hv_ hlo5
  have r0 : co5 0 = some (.inr (9, [.ref (lo2 1), .ref (lo2 2), .null, .null])) := (f5 0 (by decide)).trans ((va_up_ne _ _ (by decide)).trans (va_up_self _ _ _))
  have r1 : co5 1 = some (.inl (G.2 2, 4, .inr (.inr (.inr (.inr (fun _ => none)))))) := (f5 1 (by decide)).trans ((va_up_ne _ _ (by decide)).trans ((va_up_ne _ _ (by decide)).trans q1))
  have r2 : co5 2 = some (.inr (0, [.int (nI 0), .ref dd, .int (nI 0)])) := (f5 2 (by decide)).trans ((va_up_ne _ _ (by decide)).trans ((va_up_ne _ _ (by decide)).trans o3))
  have r3 : co5 3 = none := (f5 3 (by decide)).trans ((va_up_ne _ _ (by decide)).trans ((va_up_ne _ _ (by decide)).trans (qn 3 (by decide))))
  have rn : ∀ t, 5 ≤ t → co5 t = none := fun t ht => (f5 t (by omega)).trans ((va_up_ne _ _ (by omega)).trans ((va_up_ne _ _ (by omega)).trans (qn t (by omega))))
  rw [← hlo4 1 (by decide), ← hlo4 2 (by decide)] at r0
  have e1 : lo4 0 = lo 0 := (hlo4 0 (by decide)).trans e0
  clear f5
  refine x_putS (t := 0) (v := .ref (lo4 4)) cx hk hW r0 p_RX10_22_9 (fun _ => hnm.trans rfl) (by simp) rfl rfl dX10_init_31 (fun H locs hz hW => ?_)
  refine lv_aload_n hx hb dX10_init_34 rfl (lv_at hl 0 rfl) ?_
  refine x_new 6 cx hk hW hA ((va_up_ne _ _ (by decide)).trans (rn 6 (by decide))) nw_RX10_25 (by decide) (by decide) dX10_init_35 (fun lo6 H hlo6 hW => ?_)
  rw [← hlo6 0 (by decide)] at hl ⊢
  refine lv_dup hx hb dX10_init_38 rfl ?_
  refine z_wrIN (t := 6) (av := []) (rest := [.ref (lo6 6), .ref (lo6 0)]) hZ cx hk hW hA ci_RX10_27 (k_scales (va_up_self _ _ _) (fun t h1 h2 => (va_up_ne _ _ (by omega)).trans ((va_up_ne _ _ (by omega)).trans (rn t (by omega))))) hl.1 rfl rfl (Nat.le_of_ble_eq_true rfl) ⟨by decide, by decide⟩ ⟨by decide, by decide⟩ dX10_init_39 (fun v_ lo7 co7 H locs hq_ hW => ?_)
  obtain ⟨hv_, hlo7, f7, hs⟩ := hq_
  subst hv_
  rw [← hlo7 0 (by decide)] at hl
  show W _ _ _ _ _ _ _ _ _ _ _ _ _ _ _ (F0 _ _ _ [.ref (lo6 6), .ref (lo6 0)])
  rw [← hlo7 6 (by decide), ← hlo7 0 (by decide)]
  have s0 : co7 0 = some (.inr (9, [.ref (lo7 1), .ref (lo7 2), .ref (lo7 4), .null])) := by
    rw [f7 0 (by decide), va_up_ne _ _ (by decide), va_up_self, hlo7 1 (by decide), hlo7 2 (by decide), hlo7 4 (by decide), hlo6 1 (by decide), hlo6 2 (by decide), hlo6 4 (by decide)]
    rfl
  have old : ∀ t, t ≠ 0 → t < 6 ∨ 60 ≤ t → co7 t = co5 t := fun t h1 h2 => (f7 t h2).trans ((va_up_ne _ _ (by omega)).trans (va_up_ne _ _ h1))
  refine x_putS (t := 0) (v := .ref (lo7 6)) cx hk hW s0 p_RX10_28_9 (fun _ => hnm.trans rfl) (by simp) rfl rfl dX10_init_42 (fun H locs hz hW => ?_)
  have nw : ∀ t, t ≠ 0 → t < 6 ∨ 60 ≤ t → va_up co7 0 (some (.inr (9, [.ref (lo7 1), .ref (lo7 2), .ref (lo7 4), .ref (lo7 6)]))) t = co5 t := fun t h1 h2 => (va_up_ne _ _ h1).trans (old t h1 h2)
  refine y_vret cx hW hr hlk ⟨by decide, by decide⟩ dX10_init_45 ⟨rfl, rfl, va_up_self _ _ _, ⟨_, (nw 1 (by decide) (by decide)).trans r1, fun t _ => rfl⟩, ⟨nI 0, Or.inl ⟨rfl, (nw 2 (by decide) (by decide)).trans r2, (nw 3 (by decide) (by decide)).trans r3⟩⟩, ⟨nI 0, Or.inl ⟨rfl, (nw 4 (by decide) (by decide)).trans o5, (nw 5 (by decide) (by decide)).trans (rn 5 (by decide))⟩⟩, ?_, fun t _ h => absurd h (Nat.lt_irrefl 0), fun q h => absurd h (Nat.not_lt_zero q), fun q h => absurd h (Nat.not_lt_zero q), fun t h1 _ i h2 => ?_, fun q _ h1 i h2 => ?_, fun q _ h1 i h2 => ?_⟩
  · have up : ∀ t, t ≠ 0 → va_up co7 0 (some (.inr (9, [.ref (lo7 1), .ref (lo7 2), .ref (lo7 4), .ref (lo7 6)]))) t = co7 t := fun t h => va_up_ne _ _ h
    obtain ⟨s1, s2, ⟨f, s3, s3'⟩, s4, s5, s6, ⟨g, s7, s7'⟩, s8, s9⟩ := hs
    exact ⟨(up _ (by decide)).trans s1, (up _ (by decide)).trans s2, ⟨f, (up _ (by decide)).trans s3, s3'⟩, (up _ (by decide)).trans s4, (up _ (by decide)).trans s5, (up _ (by decide)).trans s6, ⟨g, (up _ (by decide)).trans s7, s7'⟩, fun a ha => (up _ (by unfold tC; omega)).trans (s8 a ha), fun a ha => (up _ (by unfold tL; omega)).trans (s9 a ha)⟩
  · exact (nw _ (by unfold tT; omega) (by unfold tT; omega)).trans (rn _ (by unfold tT; omega))
  · exact (nw _ (by unfold tQ; omega) (by unfold tQ; omega)).trans (rn _ (by unfold tQ; omega))
  · exact (nw _ (by unfold tA; omega) (by unfold tA; omega)).trans (rn _ (by unfold tA; omega))
