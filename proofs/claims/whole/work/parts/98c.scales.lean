/-! Scales.<init> -/
def X0 : Sc := (fun _ => nI 0, lN 0, fun _ _ => nI 0)
theorem x_lsc (lo : x_L) (sz : Nat) : ∃ lo1 : x_L, lo1 7 = sz ∧ lo1 8 = sz + 1 ∧ (∀ i, i < 12 → lo1 (20 + i) = sz + 1 + 1 + i) ∧ lo1 9 = sz + 14 ∧ lo1 10 = sz + 15 ∧ lo1 11 = sz + 16 ∧ lo1 12 = sz + 17 ∧ (∀ i, i < 13 → lo1 (40 + i) = sz + 17 + 1 + i) ∧ ∀ t, (t < 7 ∨ 60 ≤ t) → lo1 t = lo t := by
  refine ⟨fun t => if t = 7 then sz else if t = 8 then sz + 1 else if 20 ≤ t ∧ t < 32 then sz + 2 + (t - 20) else if t = 9 then sz + 14 else if t = 10 then sz + 15 else if t = 11 then sz + 16 else if t = 12 then sz + 17 else if 40 ≤ t ∧ t < 53 then sz + 18 + (t - 40) else lo t, by simp, by simp, fun i hi => ?_, by simp, by simp, by simp, by simp, fun i hi => ?_, fun t ht => ?_⟩
  · show (if 20 + i = 7 then _ else _) = _
    rw [if_neg (by omega), if_neg (by omega), if_pos ⟨by omega, by omega⟩]
    omega
  · show (if 40 + i = 7 then _ else _) = _
    rw [if_neg (by omega), if_neg (by omega), if_neg (by omega), if_neg (by omega), if_neg (by omega), if_neg (by omega), if_neg (by omega), if_pos ⟨by omega, by omega⟩]
    omega
  · show (if t = 7 then _ else _) = _
    rw [if_neg (by omega), if_neg (by omega), if_neg (by omega), if_neg (by omega), if_neg (by omega), if_neg (by omega), if_neg (by omega), if_neg (by omega)]
set_option maxHeartbeats 4000000 in
theorem k_scales {l : Launch} {dd mi : Nat} {G : x_G} {lo : x_L} {co : x_C} (hb_ : co 6 = some (.inr (6, [.int (nI 0), .int (nI 0), .null, .null, .null, .null, .null, .null, .int (nI 0), .long (lN 0)]))) (hn_ : ∀ t, 7 ≤ t → t < 60 → co t = none) : z_Wr l dd mi G lo co yX7_init cX7_init 1 none 1 31 685 [.ref (lo 6)] (fun v lo1 co1 => v = none ∧ (∀ t, (t < 7 ∨ 60 ≤ t) → lo1 t = lo t) ∧ (∀ t, (t < 6 ∨ 60 ≤ t) → co1 t = co t) ∧ isSc G lo1 co1 X0) := by
  refine z_wenter RX7 rfl (by decide) (Nat.le_of_ble_eq_true rfl) ?_
  intro pp ee ss mm bb mt cd ls AA cx hk hZ hW hA hr hlk hnm hl
  have hl : lv_has ls 1 [(0, .ref (lo 6))] := hl
  generalize hav : ([.ref (lo 6)] : List Value).toArray = av at cx ⊢
  have hx := cx.1
  have hb := cx.2.1
  obtain ⟨lo1, h7, h8, hC, h9, h10, h11, h12, hL, hlo⟩ := x_lsc lo ss.heap.size
  have hW := hW.relo (lo1 := lo1) (fun i hi => hlo i (by
    rcases Nat.lt_or_ge i 7 with q | q
    · exact Or.inl q
    · rcases Nat.lt_or_ge i 60 with r | r
      · exact absurd (hn_ i q r) hi
      · exact Or.inr r))
  rw [← hlo 6 (by decide)] at hl
  have hz : ss.heap.size = ss.heap.size + 0 := rfl
  refine lv_aload_n hx hb dX7_init_0 rfl (lv_at hl 0 rfl) ?_
  refine x_oi cx hl.1 w_64 w_29 w_30 ⟨by decide, by decide⟩ dX7_init_1 ?_
  refine lv_aload_n hx hb dX7_init_4 rfl (lv_at hl 0 rfl) ?_
  refine lv_bipush (v := nI 24) hx hb dX7_init_5 rfl ?_
  refine x_newIS 7 cx hk hW hA (hn_ 7 (by decide) (by decide)) (h7.trans hz.symm) w_98 (by decide) (by decide) (by decide) dX7_init_7 (fun H hz1 hW => ?_)
  have hz : H.size = ss.heap.size + 1 := hz1.trans (congrArg (· + 1) hz)
  refine x_putS (v := .ref (lo1 7)) cx hk hW ((va_up_ne _ _ (by omega)).trans (hb_)) p_RX7_9_6 (fun _ => hnm.trans rfl) (by simp) rfl rfl dX7_init_9 (fun H locs hz2 hW => ?_)
  have hz : H.size = ss.heap.size + 1 := hz2.trans hz
  refine lv_aload_n hx hb dX7_init_12 rfl (lv_at hl 0 rfl) ?_
  refine lv_bipush (v := nI 12) hx hb dX7_init_13 rfl ?_
  refine lv_bipush (v := nI 24) hx hb dX7_init_15 rfl ?_
  refine x_newMS 8 20 cx hk hZ.2.2.2.2.1.2 hW hA ((va_up_ne _ _ (by omega)).trans ((va_up_ne _ _ (by omega)).trans (hn_ 8 (by decide) (by decide)))) (by decide) (fun i hi => (va_up_ne _ _ (by omega)).trans ((va_up_ne _ _ (by omega)).trans (hn_ _ (by omega) (by omega)))) (h8.trans hz.symm) (fun i hi => by rw [hz]; exact hC i hi) w_65 w_98 (by decide) (by decide) (by decide) (by decide) dX7_init_17 (fun H hz1 hW => ?_)
  rw [hz] at hW
  have hz : H.size = ss.heap.size + 14 := by rw [hz1, hz]
  refine x_putS (v := .ref (lo1 8)) cx hk hW ((va_up_ne _ _ (by omega)).trans ((va_ups_out (by omega)).trans (va_up_self _ _ _))) p_RX7_17_6 (fun _ => hnm.trans rfl) (by simp) rfl rfl dX7_init_21 (fun H locs hz2 hW => ?_)
  have hz : H.size = ss.heap.size + 14 := hz2.trans hz
  refine lv_aload_n hx hb dX7_init_24 rfl (lv_at hl 0 rfl) ?_
  refine lv_bipush (v := nI 12) hx hb dX7_init_25 rfl ?_
  refine x_newIS 9 cx hk hW hA ((va_up_ne _ _ (by omega)).trans ((va_up_ne _ _ (by omega)).trans ((va_ups_out (by omega)).trans ((va_up_ne _ _ (by omega)).trans ((va_up_ne _ _ (by omega)).trans (hn_ 9 (by decide) (by decide))))))) (h9.trans hz.symm) w_98 (by decide) (by decide) (by decide) dX7_init_27 (fun H hz1 hW => ?_)
  have hz : H.size = ss.heap.size + 15 := hz1.trans (congrArg (· + 1) hz)
  refine x_putS (v := .ref (lo1 9)) cx hk hW ((va_up_ne _ _ (by omega)).trans (va_up_self _ _ _)) p_RX7_20_6 (fun _ => hnm.trans rfl) (by simp) rfl rfl dX7_init_29 (fun H locs hz2 hW => ?_)
  have hz : H.size = ss.heap.size + 15 := hz2.trans hz
  refine lv_aload_n hx hb dX7_init_32 rfl (lv_at hl 0 rfl) ?_
  refine lv_bipush (v := nI 12) hx hb dX7_init_33 rfl ?_
  refine x_newIS 10 cx hk hW hA ((va_up_ne _ _ (by omega)).trans ((va_up_ne _ _ (by omega)).trans ((va_up_ne _ _ (by omega)).trans ((va_up_ne _ _ (by omega)).trans ((va_ups_out (by omega)).trans ((va_up_ne _ _ (by omega)).trans ((va_up_ne _ _ (by omega)).trans (hn_ 10 (by decide) (by decide))))))))) (h10.trans hz.symm) w_98 (by decide) (by decide) (by decide) dX7_init_35 (fun H hz1 hW => ?_)
  have hz : H.size = ss.heap.size + 16 := hz1.trans (congrArg (· + 1) hz)
  refine x_putS (v := .ref (lo1 10)) cx hk hW ((va_up_ne _ _ (by omega)).trans (va_up_self _ _ _)) p_RX7_23_6 (fun _ => hnm.trans rfl) (by simp) rfl rfl dX7_init_37 (fun H locs hz2 hW => ?_)
  have hz : H.size = ss.heap.size + 16 := hz2.trans hz
  refine lv_aload_n hx hb dX7_init_40 rfl (lv_at hl 0 rfl) ?_
  refine lv_bipush (v := nI 12) hx hb dX7_init_41 rfl ?_
  refine x_newIS 11 cx hk hW hA ((va_up_ne _ _ (by omega)).trans ((va_up_ne _ _ (by omega)).trans ((va_up_ne _ _ (by omega)).trans ((va_up_ne _ _ (by omega)).trans ((va_up_ne _ _ (by omega)).trans ((va_up_ne _ _ (by omega)).trans ((va_ups_out (by omega)).trans ((va_up_ne _ _ (by omega)).trans ((va_up_ne _ _ (by omega)).trans (hn_ 11 (by decide) (by decide))))))))))) (h11.trans hz.symm) w_98 (by decide) (by decide) (by decide) dX7_init_43 (fun H hz1 hW => ?_)
  have hz : H.size = ss.heap.size + 17 := hz1.trans (congrArg (· + 1) hz)
  refine x_putS (v := .ref (lo1 11)) cx hk hW ((va_up_ne _ _ (by omega)).trans (va_up_self _ _ _)) p_RX7_26_6 (fun _ => hnm.trans rfl) (by simp) rfl rfl dX7_init_45 (fun H locs hz2 hW => ?_)
  have hz : H.size = ss.heap.size + 17 := hz2.trans hz
  refine lv_aload_n hx hb dX7_init_48 rfl (lv_at hl 0 rfl) ?_
  refine lv_bipush (v := nI 13) hx hb dX7_init_49 rfl ?_
  refine lv_bipush (v := nI 24) hx hb dX7_init_51 rfl ?_
  refine x_newMS 12 40 cx hk hZ.2.2.2.2.1.2 hW hA ((va_up_ne _ _ (by omega)).trans ((va_up_ne _ _ (by omega)).trans ((va_up_ne _ _ (by omega)).trans ((va_up_ne _ _ (by omega)).trans ((va_up_ne _ _ (by omega)).trans ((va_up_ne _ _ (by omega)).trans ((va_up_ne _ _ (by omega)).trans ((va_up_ne _ _ (by omega)).trans ((va_ups_out (by omega)).trans ((va_up_ne _ _ (by omega)).trans ((va_up_ne _ _ (by omega)).trans (hn_ 12 (by decide) (by decide))))))))))))) (by decide) (fun i hi => (va_up_ne _ _ (by omega)).trans ((va_up_ne _ _ (by omega)).trans ((va_up_ne _ _ (by omega)).trans ((va_up_ne _ _ (by omega)).trans ((va_up_ne _ _ (by omega)).trans ((va_up_ne _ _ (by omega)).trans ((va_up_ne _ _ (by omega)).trans ((va_up_ne _ _ (by omega)).trans ((va_ups_out (by omega)).trans ((va_up_ne _ _ (by omega)).trans ((va_up_ne _ _ (by omega)).trans (hn_ _ (by omega) (by omega))))))))))))) (h12.trans hz.symm) (fun i hi => by rw [hz]; exact hL i hi) w_65 w_98 (by decide) (by decide) (by decide) (by decide) dX7_init_53 (fun H hz1 hW => ?_)
  rw [hz] at hW
  have hz : H.size = ss.heap.size + 31 := by rw [hz1, hz]
  refine x_putS (v := .ref (lo1 12)) cx hk hW ((va_up_ne _ _ (by omega)).trans ((va_ups_out (by omega)).trans (va_up_self _ _ _))) p_RX7_29_6 (fun _ => hnm.trans rfl) (by simp) rfl rfl dX7_init_57 (fun H locs hz2 hW => ?_)
  have hz : H.size = ss.heap.size + 31 := hz2.trans hz
  refine y_vret cx hW hr hlk ⟨by decide, by decide⟩ dX7_init_60 ⟨rfl, hlo, fun t ht => (va_up_ne _ _ (by omega)).trans ((va_up_ne _ _ (by omega)).trans ((va_ups_out (by omega)).trans ((va_up_ne _ _ (by omega)).trans ((va_up_ne _ _ (by omega)).trans ((va_up_ne _ _ (by omega)).trans ((va_up_ne _ _ (by omega)).trans ((va_up_ne _ _ (by omega)).trans ((va_up_ne _ _ (by omega)).trans ((va_up_ne _ _ (by omega)).trans ((va_up_ne _ _ (by omega)).trans ((va_ups_out (by omega)).trans ((va_up_ne _ _ (by omega)).trans ((va_up_ne _ _ (by omega)).trans (rfl)))))))))))))), va_up_self _ _ _, (va_up_ne _ _ (by omega)).trans ((va_up_ne _ _ (by omega)).trans ((va_ups_out (by omega)).trans ((va_up_ne _ _ (by omega)).trans ((va_up_ne _ _ (by omega)).trans ((va_up_ne _ _ (by omega)).trans ((va_up_ne _ _ (by omega)).trans ((va_up_ne _ _ (by omega)).trans ((va_up_ne _ _ (by omega)).trans ((va_up_ne _ _ (by omega)).trans ((va_up_ne _ _ (by omega)).trans ((va_ups_out (by omega)).trans ((va_up_ne _ _ (by omega)).trans (va_up_self _ _ _))))))))))))), ⟨_, (va_up_ne _ _ (by omega)).trans ((va_up_ne _ _ (by omega)).trans ((va_ups_out (by omega)).trans ((va_up_ne _ _ (by omega)).trans ((va_up_ne _ _ (by omega)).trans ((va_up_ne _ _ (by omega)).trans ((va_up_ne _ _ (by omega)).trans ((va_up_ne _ _ (by omega)).trans ((va_up_ne _ _ (by omega)).trans ((va_up_ne _ _ (by omega)).trans (va_up_self _ _ _)))))))))), fun a ha => ?_⟩, (va_up_ne _ _ (by omega)).trans ((va_up_ne _ _ (by omega)).trans ((va_ups_out (by omega)).trans ((va_up_ne _ _ (by omega)).trans ((va_up_ne _ _ (by omega)).trans ((va_up_ne _ _ (by omega)).trans ((va_up_ne _ _ (by omega)).trans ((va_up_ne _ _ (by omega)).trans (va_up_self _ _ _)))))))), (va_up_ne _ _ (by omega)).trans ((va_up_ne _ _ (by omega)).trans ((va_ups_out (by omega)).trans ((va_up_ne _ _ (by omega)).trans ((va_up_ne _ _ (by omega)).trans ((va_up_ne _ _ (by omega)).trans (va_up_self _ _ _)))))), (va_up_ne _ _ (by omega)).trans ((va_up_ne _ _ (by omega)).trans ((va_ups_out (by omega)).trans ((va_up_ne _ _ (by omega)).trans (va_up_self _ _ _)))), ⟨_, (va_up_ne _ _ (by omega)).trans (va_up_self _ _ _), fun a ha => ?_⟩, fun a ha => ?_, fun a ha => ?_⟩
  · show (if a < 12 then _ else _) = some (lo1 (20 + a))
    rw [if_pos ha, hC a ha]
  · show (if a < 13 then _ else _) = some (lo1 (40 + a))
    rw [if_pos ha, hL a ha]
  · exact (va_up_ne _ _ (by unfold tC; omega)).trans ((va_up_ne _ _ (by unfold tC; omega)).trans ((va_ups_out (by unfold tC; omega)).trans ((va_up_ne _ _ (by unfold tC; omega)).trans ((va_up_ne _ _ (by unfold tC; omega)).trans ((va_up_ne _ _ (by unfold tC; omega)).trans ((va_up_ne _ _ (by unfold tC; omega)).trans ((va_up_ne _ _ (by unfold tC; omega)).trans ((va_up_ne _ _ (by unfold tC; omega)).trans ((va_up_ne _ _ (by unfold tC; omega)).trans ((va_up_ne _ _ (by unfold tC; omega)).trans (va_ups_in (by unfold tC; omega) (by unfold tC; omega))))))))))))
  · exact (va_up_ne _ _ (by unfold tL; omega)).trans ((va_up_ne _ _ (by unfold tL; omega)).trans (va_ups_in (by unfold tL; omega) (by unfold tL; omega)))
