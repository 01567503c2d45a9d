/-! IndexDesk.table -/
theorem x_anyR {s : State} {G : x_G} {lo : x_L} {co : x_C} {H : Heap} {t ci : Nat} {fs : List Value} {C : String} {T : u_T} {N : Nat} (hk : x_K G s) (hw : x_R G lo co H) (ha : co t = some (.inr (ci, fs))) (hc : vwCl[ci]? = some (C, T, N)) : va_Any C s H (lo t) :=
  va_rAny hk.1 (hw.P ha) (q0 := 0) rfl hc (fun comp c0 h1 h2 => by
    have hcls := (hk.1.1 ci _ hc).2
    have e1 : comp = G.1.1 ci := Option.some.inj (h1.symm.trans hcls.1)
    have e2 : c0 = G.1.1 ci := Option.some.inj (h2.symm.trans hcls.1)
    rw [e1, e2]
    exact va_assign hcls)
set_option maxHeartbeats 4000000 in
theorem dw_table {l : Launch} {G : x_G} {lo : x_L} {co : x_C} (dd : Nat) (S : St) (X : Sc) (hd : isDk G lo co dd S X) (hS : Sok S) (t c p : Int32) : x_Wr l G lo (co) yX10_table cX10_table 4 (some .boolean) 2 5 262 [.ref (lo (0)), .int (t), .int (c), .int (p)] (fun (v : Option Value) (lo1 : x_L) (co1 : x_C) => v = some (.int (bI (P_table S t c p).1)) ∧ lo1 0 = lo 0 ∧ ∃ X1, isDk G lo1 co1 dd (P_table S t c p).2 X1) := by
  refine x_wenter RX10 rfl (by decide) (Nat.le_of_ble_eq_true rfl) ?_
  intro pp ee ss mm bb mt cd ls AA cx hk hW hA hr hlk hnm hl
  have hl : lv_has ls 4 [(0, .ref (lo (0))), (1, .int (t)), (2, .int (c)), (3, .int (p))] := hl
  generalize hav : ([.ref (lo (0)), .int (t), .int (c), .int (p)] : List Value).toArray = av at cx ⊢
  generalize hpo : (fun (v : Option Value) (lo1 : x_L) (co1 : x_C) => v = some (.int (bI (P_table S t c p).1)) ∧ lo1 0 = lo 0 ∧ ∃ X1, isDk G lo1 co1 dd (P_table S t c p).2 X1) = po
  have hx := cx.1
  have hb := cx.2.1
  have hw := hW.1
  obtain ⟨ft, hf1, hft⟩ := hd.2.1
  have hbt : s_btw t (nI 0) (nI 3) = x_in 4 t := s_btw_pos (n := 4) (by decide) (by decide)
  refine lv_iload_n hx hb dX10_table_0 rfl (lv_at hl 1 rfl) ?_
  refine lv_iconst (v := nI 0) hx hb dX10_table_1 rfl ?_
  refine lv_iconst (v := nI 3) hx hb dX10_table_2 rfl ?_
  refine x_rdS (av := [.int (t), .int (nI 0), .int (nI 3)]) (rest := []) cx hk hw cs_RX10_32 (c_btw t (nI 0) (nI 3)) hl.1 rfl rfl (Nat.le_of_ble_eq_true rfl) ⟨by decide, by decide⟩ ⟨Nat.zero_le _, Nat.zero_le _⟩ dX10_table_3 ?_
  refine x_if_eq (tgt := 18) cx dX10_table_6 (by decide) (fun h6 => ?_) (fun h6 => ?_)
  · refine lv_iconst (v := nI 0) hx hb dX10_table_18 rfl ?_
    have e : P_table S t c p = (false, S) := by unfold P_table; rw [show x_in 4 t = false from hbt.symm.trans h6]; rfl
    exact y_zret false cx hW hr hlk ⟨by decide, by decide⟩ dX10_table_19 rfl (by rw [← hpo, e]; exact ⟨rfl, rfl, X, hd⟩)
  obtain ⟨t1, ht1, ht3⟩ := x_in_ex (n := 4) (by decide) (hbt.symm.trans h6)
  have ht4 : t.toNatClampNeg = t1 := by rw [ht3, nI_clamp (by omega)]
  have hin : x_in 4 t = true := hbt.symm.trans h6
  rw [ht3] at hl
  refine lv_aload_n hx hb dX10_table_9 rfl (lv_at hl 0 rfl) ?_
  refine x_get (v := .ref (lo (1))) cx hk hw (hd.1) f_RX10_11_9 rfl dX10_table_10 ?_
  refine lv_iload_n hx hb dX10_table_13 rfl (lv_at hl 1 rfl) ?_
  by_cases hT : 0 < (sT S t1).1 1
  · refine x_aaldTN (v := .ref (lo (tT t1))) cx hk hw (hf1) (by omega) (by first | decide | omega) (congrArg va_rf ((hft t1 (by omega)).trans (if_pos hT))) dX10_table_14 ?_
    refine lv_ifnull hx hb dX10_table_15 ?_
    refine lv_iconst (v := nI 0) hx hb dX10_table_18 rfl ?_
    have e : P_table S t c p = (false, S) := by unfold P_table; rw [hin, ht4, show decide ((sT S t1).1 1 = 0) = false from decide_eq_false (by omega)]; rfl
    exact y_zret false cx hW hr hlk ⟨by decide, by decide⟩ dX10_table_19 rfl (by rw [← hpo, e]; exact ⟨rfl, rfl, X, hd⟩)
  refine x_aaldTN (v := .null) cx hk hw (hf1) (by omega) (by first | decide | omega) (congrArg va_rf ((hft t1 (by omega)).trans (if_neg hT))) dX10_table_14 ?_
  refine lv_ifnullN (tgt := 20) hx hb dX10_table_15 (by decide) ?_
  have hT0 : decide ((sT S t1).1 1 = 0) = true := decide_eq_true (by omega)
  refine lv_iload_n hx hb dX10_table_20 rfl (lv_at hl 2 rfl) ?_
  refine lv_iconst (v := nI 1) hx hb dX10_table_21 rfl ?_
  refine lv_iconst (v := nI 4) hx hb dX10_table_22 rfl ?_
  refine x_rdS (av := [.int (c), .int (nI 1), .int (nI 4)]) (rest := []) cx hk hw cs_RX10_32 (c_btw c (nI 1) (nI 4)) hl.1 rfl rfl (Nat.le_of_ble_eq_true rfl) ⟨by decide, by decide⟩ ⟨Nat.zero_le _, Nat.zero_le _⟩ dX10_table_23 ?_
  refine x_if_eq (tgt := 39) cx dX10_table_26 (by decide) (fun h26 => ?_) (fun h26 => ?_)
  · refine lv_iconst (v := nI 0) hx hb dX10_table_39 rfl ?_
    have e : P_table S t c p = (false, S) := by unfold P_table; rw [hin, ht4, hT0, h26]; rfl
    exact y_zret false cx hW hr hlk ⟨by decide, by decide⟩ dX10_table_40 rfl (by rw [← hpo, e]; exact ⟨rfl, rfl, X, hd⟩)
  refine lv_iload_n hx hb dX10_table_29 rfl (lv_at hl 3 rfl) ?_
  refine lv_iconst (v := nI 2) hx hb dX10_table_30 rfl ?_
  refine lv_bipush (v := nI 8) hx hb dX10_table_31 rfl ?_
  refine x_rdS (av := [.int (p), .int (nI 2), .int (nI 8)]) (rest := []) cx hk hw cs_RX10_32 (c_btw p (nI 2) (nI 8)) hl.1 rfl rfl (Nat.le_of_ble_eq_true rfl) ⟨by decide, by decide⟩ ⟨Nat.zero_le _, Nat.zero_le _⟩ dX10_table_33 ?_
  refine x_if_ne (tgt := 41) cx dX10_table_36 (by decide) (fun h36 => ?_) (fun h36 => ?_)
  case refine_2 =>
    refine lv_iconst (v := nI 0) hx hb dX10_table_39 rfl ?_
    have e : P_table S t c p = (false, S) := by unfold P_table; rw [hin, ht4, hT0, h26, h36]; rfl
    exact y_zret false cx hW hr hlk ⟨by decide, by decide⟩ dX10_table_40 rfl (by rw [← hpo, e]; exact ⟨rfl, rfl, X, hd⟩)
  obtain ⟨c1, hc1b, hc1a, hc1e⟩ := nI_tc (x := c) (a := 1) (b := 4) (by decide) (by decide) h26
  obtain ⟨p1, hp1b, hp1a, hp1e⟩ := nI_tc (x := p) (a := 2) (b := 8) (by decide) (by decide) h36
  have e : P_table S t c p = (true, setT S t1 (newT t1 c1 p1)) := by
    unfold P_table
    rw [hin, ht4, hT0, h26, h36, hc1e, hp1e, nI_clamp (by omega), nI_clamp (by omega)]
    rfl
  rw [hc1e, hp1e] at hl
  have hnone : ∀ i, i < 5 → co (tT t1 + i) = none := fun i hi => hd.2.2.2.2.2.2.2.2.1 t1 ht1 (by omega) i hi
  refine lv_aload_n hx hb dX10_table_41 rfl (lv_at hl 0 rfl) ?_
  refine x_get (v := .ref (lo (1))) cx hk hw (hd.1) f_RX10_11_9 rfl dX10_table_42 ?_
  refine lv_iload_n hx hb dX10_table_45 rfl (lv_at hl 1 rfl) ?_
  refine x_new (tT t1) cx hk hW hA (hnone 0 (by decide)) nw_RX10_9 (by decide) (by decide) dX10_table_46 (fun lo1 H hlo1 hW => ?_)
  have e1 : lo1 1 = lo 1 := hlo1 1 (by unfold tT; omega)
  have e0 : lo1 0 = lo 0 := hlo1 0 (by unfold tT; omega)
  rw [← e1]
  rw [← e0] at hl
  refine lv_dup hx hb dX10_table_49 rfl ?_
  refine lv_iload_n hx hb dX10_table_50 rfl (lv_at hl 1 rfl) ?_
  refine lv_iload_n hx hb dX10_table_51 rfl (lv_at hl 2 rfl) ?_
  refine lv_iload_n hx hb dX10_table_52 rfl (lv_at hl 3 rfl) ?_
  refine y_wrI (t := tT t1) (av := [.int (nI t1), .int (nI c1), .int (nI p1)]) (rest := [.ref (lo1 (tT t1)), .int (nI t1), .ref (lo1 1)]) cx hk hW hA ci_RX10_36 (k_table (tT t1) (va_up_self _ _ _) (fun i h1 h2 => (va_up_ne _ _ (by omega)).trans (hnone i h2)) t1 c1 p1) hl.1 rfl rfl (Nat.le_of_ble_eq_true rfl) ⟨by decide, by decide⟩ ⟨by decide, by decide⟩ dX10_table_53 (fun v_ lo2 co2 H locs hq_ hW => ?_)
  obtain ⟨hv_, htb, hc2, hb2⟩ := hq_
  subst hv_
  have e2 : lo2 1 = lo1 1 := (hc2 1 (by unfold tT; omega)).2
  have e3 : lo2 0 = lo1 0 := (hc2 0 (by unfold tT; omega)).2
  show W _ _ _ _ _ _ _ _ _ _ _ _ _ _ _ (F0 _ _ _ [.ref (lo1 (tT t1)), .int (nI t1), .ref (lo1 1)])
  rw [← e2, ← hb2]
  have q1 : co2 1 = some (.inl (G.2 2, 4, .inr (.inr (.inr (.inr ft))))) := (hc2 1 (by unfold tT; omega)).1.trans ((va_up_ne _ _ (by unfold tT; omega)).trans hf1)
  refine x_astM 2 cx hk hW q1 rfl (x_anyR hk hW.1 htb.1 rfl) (vp_in_nI (by omega) (by omega)) dX10_table_56 (fun H locs hW => ?_)
  rw [nI_clamp (show t1 < 2 ^ 31 by omega)] at hW
  refine lv_iconst (v := nI 1) hx hb dX10_table_57 rfl ?_
  refine y_zret true cx hW hr hlk ⟨by decide, by decide⟩ dX10_table_58 rfl ?_
  rw [← hpo, e]
  refine ⟨rfl, e3.trans e0, X, dk_newT hd hS ht1 hc1a ?_ (va_up_self _ _ _) (fun u hu => ?_) (fun i h1 h2 => (va_up_ne _ _ h1).trans ((hc2 i h2).1.trans (va_up_ne _ _ (by omega)))) (fun i h1 => (hc2 i h1).2.trans (hlo1 i (by omega))) (by omega)⟩
  · exact htb.of (fun i hi => va_up_ne _ _ (by unfold tT; omega)) (fun _ _ => rfl)
  · by_cases q : u = t1
    · rw [q, va_up_self, if_pos rfl]
    · rw [va_up_ne _ _ q, if_neg q]
      exact hft u hu
