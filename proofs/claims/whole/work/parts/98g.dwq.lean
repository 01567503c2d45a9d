/-! IndexDesk.question -/
set_option maxHeartbeats 8000000 in
theorem dw_question {l : Launch} {mi : Nat} {G : x_G} {lo : x_L} {co : x_C} (dd : Nat) (S : St) (X : Sc) (hd : isDk G lo co dd S X) (hS : Sok S) (t w a n : Int32) : z_Wr l dd mi G lo (co) yX10_question cX10_question 6 (some .int) 7 4 75 [.ref (lo (0)), .int (t), .int (w), .int (a), .int (n)] (fun (v : Option Value) (lo1 : x_L) (co1 : x_C) => v = some (.int (P_question S t w a n).1) ∧ lo1 0 = lo 0 ∧ ∃ X1, isDk G lo1 co1 dd (P_question S t w a n).2 X1) := by
  refine z_wenter RX10 rfl (by decide) (Nat.le_of_ble_eq_true rfl) ?_
  intro pp ee ss mm bb mt cd ls AA cx hk hZ hW hA hr hlk hnm hl
  have hl : lv_has ls 6 [(0, .ref (lo (0))), (1, .int (t)), (2, .int (w)), (3, .int (a)), (4, .int (n))] := hl
  generalize hav : ([.ref (lo (0)), .int (t), .int (w), .int (a), .int (n)] : List Value).toArray = av at cx ⊢
  generalize hpo : (fun (v : Option Value) (lo1 : x_L) (co1 : x_C) => v = some (.int (P_question S t w a n).1) ∧ lo1 0 = lo 0 ∧ ∃ X1, isDk G lo1 co1 dd (P_question S t w a n).2 X1) = po
  have hx := cx.1
  have hb := cx.2.1
  have hW := hW.drop 14
  have h14 : va_up co 14 none 14 = none := va_up_self _ _ _
  have hd := dk_free hd hS
  generalize va_up co 14 none = co at hW h14 hd
  have hw := hW.1
  have hj : x_J lo co := hW.2.1.1
  obtain ⟨s1, s2, s3, s4, s5, s6⟩ := id hS
  obtain ⟨mcq, evq, hq0⟩ := hd.L2.obj
  have bad : P_question S t w a n = (-1, S) → ∀ x : Int32, x = -1 → po (some (.int x)) lo co := fun e x hxx => by
    rw [← hpo, e, hxx]; exact ⟨rfl, rfl, X, hd⟩
  refine lv_aload_n hx hb dX10_question_0 rfl (lv_at hl 0 rfl) ?_
  refine lv_iload_n hx hb dX10_question_1 rfl (lv_at hl 1 rfl) ?_
  refine x_rdV (av := [.int (t)]) (rest := []) cx hk hw (hd.1) cv_RX10_39_9 (d_tableAt dd S X hd hj hS t) hl.1 rfl rfl (Nat.le_of_ble_eq_true rfl) ⟨by decide, by decide⟩ ⟨Nat.zero_le _, Nat.zero_le _⟩ dX10_question_2 ?_
  by_cases hc_t : m_isT S t = true
  case neg =>
    rw [d_tab_0 hc_t]
    refine lv_astoreN (lv' := [(5, .null), (0, .ref (lo (0))), (1, .int (t)), (2, .int (w)), (3, .int (a)), (4, .int (n))]) hx hb dX10_question_5 hl (by decide) rfl (fun ls hl => ?_)
    refine lv_aloadN hx hb dX10_question_7 (lv_at hl 0 rfl) ?_
    refine lv_ifnullN (tgt := 24) hx hb dX10_question_9 (by decide) ?_
    refine lv_iconst (v := -1) hx hb dX10_question_24 rfl ?_
    exact y_iret cx hW hr hlk ⟨by decide, by decide⟩ dX10_question_25 (bad (by unfold P_question; rw [if_neg (fun z => hc_t z.2.1)]) _ rfl)
  obtain ⟨t1, ht1, ht2, ht3⟩ := m_isT_ex hc_t
  have hTt := (s1 _ ht1).1 ht2
  have htt := hd.T ht1 ht2
  have ht4 : t.toNatClampNeg = t1 := by rw [ht3, nI_clamp (by omega)]
  rw [d_tab_1 hc_t ht3 ht1]
  refine lv_astore (lv' := [(5, .ref (lo (tT t1))), (0, .ref (lo (0))), (1, .int (t)), (2, .int (w)), (3, .int (a)), (4, .int (n))]) hx hb dX10_question_5 hl (by decide) rfl (fun ls hl => ?_)
  refine lv_aload hx hb dX10_question_7 (lv_at hl 0 rfl) ?_
  refine lv_ifnull hx hb dX10_question_9 ?_
  refine lv_aload_n hx hb dX10_question_12 rfl (lv_at hl 1 rfl) ?_
  refine x_get (v := .ref (lo (2))) cx hk hw (hd.1) f_RX10_18_9 rfl dX10_question_13 ?_
  refine x_rdV (av := []) (rest := []) cx hk hw hq0 cv_RX10_76_0 (l_size 2 mcq evq (sn S 0) hq0) hl.1 rfl rfl (Nat.le_of_ble_eq_true rfl) ⟨by decide, by decide⟩ ⟨Nat.zero_le _, Nat.zero_le _⟩ dX10_question_16 ?_
  refine lv_bipush (v := nI 24) hx hb dX10_question_19 rfl ?_
  refine x_icmp_lt (tgt := 26) cx dX10_question_21 (by decide) (by omega) (fun h21 => ?_) (fun h21 => ?_)
  case refine_2 =>
    refine lv_iconst (v := -1) hx hb dX10_question_24 rfl ?_
    exact y_iret cx hW hr hlk ⟨by decide, by decide⟩ dX10_question_25 (bad (by unfold P_question; rw [if_neg (fun z => z.1 (by omega))]) _ rfl)
  refine lv_aload hx hb dX10_question_26 (lv_at hl 0 rfl) ?_
  refine lv_iload_n hx hb dX10_question_28 rfl (lv_at hl 3 rfl) ?_
  refine x_rdV (av := [.int (w)]) (rest := []) cx hk hw htt.1 cv_RX10_79_8 (c_t_hall (tT t1) (sT S t1) htt w) hl.1 rfl rfl (Nat.le_of_ble_eq_true rfl) ⟨by decide, by decide⟩ ⟨Nat.zero_le _, Nat.zero_le _⟩ dX10_question_29 ?_
  have hall : t_hall (sT S t1) w = x_in (2 ^ (sT S t1).1 1) w := t_hall_x (by have := hTt.2.1; omega)
  refine x_if_eq (tgt := 55) cx dX10_question_32 (by decide) (fun h32 => ?_) (fun h32 => ?_)
  · refine lv_iconst (v := -1) hx hb dX10_question_55 rfl ?_
    exact y_iret cx hW hr hlk ⟨by decide, by decide⟩ dX10_question_56 (bad (by unfold P_question; rw [if_neg (fun z => by have := z.2.2.1; rw [ht4, ← hall, h32] at this; cases this)]) _ rfl)
  refine lv_aload hx hb dX10_question_35 (lv_at hl 0 rfl) ?_
  refine lv_iload_n hx hb dX10_question_37 rfl (lv_at hl 4 rfl) ?_
  refine x_rdV (av := [.int (a)]) (rest := []) cx hk hw htt.1 cv_RX10_83_8 (c_t_hon (tT t1) (sT S t1) htt a) hl.1 rfl rfl (Nat.le_of_ble_eq_true rfl) ⟨by decide, by decide⟩ ⟨Nat.zero_le _, Nat.zero_le _⟩ dX10_question_38 ?_
  refine x_if_eq (tgt := 55) cx dX10_question_41 (by decide) (fun h41 => ?_) (fun h41 => ?_)
  · refine lv_iconst (v := -1) hx hb dX10_question_55 rfl ?_
    exact y_iret cx hW hr hlk ⟨by decide, by decide⟩ dX10_question_56 (bad (by unfold P_question; rw [if_neg (fun z => by have := z.2.2.2.1; rw [ht4, h41] at this; cases this)]) _ rfl)
  refine lv_iload hx hb dX10_question_44 (lv_at hl 5 rfl) ?_
  refine lv_iconst (v := nI 1) hx hb dX10_question_46 rfl ?_
  refine lv_bipush (v := nI 100) hx hb dX10_question_47 rfl ?_
  refine x_rdS (av := [.int (n), .int (nI 1), .int (nI 100)]) (rest := []) cx hk hw cs_RX10_32 (c_btw n (nI 1) (nI 100)) hl.1 rfl rfl (Nat.le_of_ble_eq_true rfl) ⟨by decide, by decide⟩ ⟨Nat.zero_le _, Nat.zero_le _⟩ dX10_question_49 ?_
  refine x_if_ne (tgt := 57) cx dX10_question_52 (by decide) (fun h52 => ?_) (fun h52 => ?_)
  case refine_2 =>
    refine lv_iconst (v := -1) hx hb dX10_question_55 rfl ?_
    exact y_iret cx hW hr hlk ⟨by decide, by decide⟩ dX10_question_56 (bad (by unfold P_question; rw [if_neg (fun z => by have := z.2.2.2.2; rw [h52] at this; cases this)]) _ rfl)
  obtain ⟨w1, hw1, hw1e⟩ := x_in_ex (n := 2 ^ (sT S t1).1 1) (Nat.lt_of_le_of_lt (Nat.pow_le_pow_right (by decide) hTt.2.1) (by decide)) (hall.symm.trans h32)
  obtain ⟨n1, hn1b, hn1a, hn1e⟩ := nI_tc (x := n) (a := 1) (b := 100) (by decide) (by decide) h52
  obtain ⟨ha1, ha2⟩ := cO_hon hTt.2.1 h41
  have hwlt : w1 < 2 ^ 31 := Nat.lt_trans hw1 (Nat.lt_of_le_of_lt (Nat.pow_le_pow_right (by decide) hTt.2.1) (by decide))
  generalize hk0 : sn S 0 = k at h21 hq0
  have e : P_question S t w a n = (nI k, addQ S (t1, newQ w1 n1 (cO a))) := by
    unfold P_question
    rw [if_pos ⟨by omega, hc_t, by rw [ht4, ← hall]; exact h32, by rw [ht4]; exact h41, h52⟩, ht4, hw1e, hn1e, nI_clamp hwlt, nI_clamp (by omega), hk0]
  rw [hw1e, hn1e, ← ha1] at hl
  have hnone : ∀ i, i < 3 → co (tQ k + i) = none := fun i hi => hd.2.2.2.2.2.2.2.2.2.1 k (by omega) h21 i hi
  refine lv_aload_n hx hb dX10_question_57 rfl (lv_at hl 1 rfl) ?_
  refine x_get (v := .ref (lo (2))) cx hk hw (hd.1) f_RX10_18_9 rfl dX10_question_58 ?_
  refine x_new (tQ k) cx hk hW hA (hnone 0 (by decide)) nw_RX10_86 (by decide) (by decide) dX10_question_61 (fun lo1 H hlo1 hW => ?_)
  have e0 : lo1 0 = lo 0 := hlo1 0 (by unfold tQ; omega)
  have e2 : lo1 2 = lo 2 := hlo1 2 (by unfold tQ; omega)
  have e5 : lo1 (tT t1) = lo (tT t1) := hlo1 _ (by unfold tT tQ; omega)
  rw [← e2]
  rw [← e0, ← e5] at hl
  refine lv_dup hx hb dX10_question_64 rfl ?_
  refine lv_aload hx hb dX10_question_65 (lv_at hl 0 rfl) ?_
  refine lv_iload_n hx hb dX10_question_67 rfl (lv_at hl 3 rfl) ?_
  refine lv_iload_n hx hb dX10_question_68 rfl (lv_at hl 4 rfl) ?_
  refine lv_iload hx hb dX10_question_69 (lv_at hl 5 rfl) ?_
  refine y_wrI (t := tQ k) (av := [.ref (lo1 (tT t1)), .int (nI w1), .int (nO (cO a)), .int (nI n1)]) (rest := [.ref (lo1 (tQ k)), .ref (lo1 2)]) cx hk hW hA ci_RX10_88 (k_question (tQ k) (tT t1) (va_up_self _ _ _) (fun i h1 h2 => (va_up_ne _ _ (by omega)).trans (hnone i h2)) (by unfold tT tQ; omega) w1 (cO a) n1) hl.1 rfl rfl (Nat.le_of_ble_eq_true rfl) ⟨by decide, by decide⟩ ⟨by decide, by decide⟩ dX10_question_71 (fun v_ lo2 co2 H locs hq_ hW => ?_)
  obtain ⟨hv_, hqn, hc2, hb2⟩ := hq_
  subst hv_
  have f0 : lo2 0 = lo1 0 := (hc2 0 (by unfold tQ; omega)).2
  have f2 : lo2 2 = lo1 2 := (hc2 2 (by unfold tQ; omega)).2
  have fl : ∀ i, (i < tQ k ∨ tQ k + 3 ≤ i) → lo2 i = lo i := fun i h => (hc2 i h).2.trans (hlo1 i (by omega))
  have fc : ∀ i, (i < tQ k ∨ tQ k + 3 ≤ i) → co2 i = co i := fun i h => (hc2 i h).1.trans (va_up_ne _ _ (by omega))
  show W _ _ _ _ _ _ _ _ _ _ _ _ _ _ _ (F0 _ _ _ [.ref (lo1 (tQ k)), .ref (lo1 2)])
  rw [← f2, ← hb2]
  rw [← f0] at hl
  have hL : isL G lo2 co2 dd 2 3 k (fun q => lo (tQ q)) := by
    have := hd.L2
    rw [hk0] at this
    exact this.of (fc 2 (by unfold tQ; omega)) (fc 3 (by unfold tQ; omega)) (fl 3 (by unfold tQ; omega)) (fun _ _ => rfl)
  have hel : ∀ i, i < k → ∃ (x ci : Nat) (fs : List Value) (C : String) (T : u_T) (N : Nat), lo (tQ i) = lo2 x ∧ x ≠ 2 ∧ co2 x = some (.inr (ci, fs)) ∧ vwCl[ci]? = some (C, T, N) ∧ (C, "java/lang/Object") ∈ x_nC := fun i hi => by
    have hqi := hd.Q (q := i) (by omega)
    exact ⟨tQ i, 5, _, RX6, _, _, (fl _ (by unfold tQ; omega)).symm, by unfold tQ; omega, (fc _ (by unfold tQ; omega)).trans hqi.1, rfl, by simp [x_nC]⟩
  obtain ⟨mc3, ev3, hl3⟩ := hL.obj
  refine z_wrV (t := 2) (av := [.ref (lo2 (tQ k))]) (rest := []) hZ cx hk hW hA hl3 cv_RX10_91_0 (k_add 2 3 14 (tQ k) k 5 _ _ hL h21 ((fc 14 (by unfold tQ; omega)).trans h14) hqn.1 (by unfold tQ; omega) rfl (by simp [x_nC]) hel) hl.1 rfl rfl (Nat.le_of_ble_eq_true rfl) ⟨by decide, by decide⟩ ⟨by decide, by decide⟩ dX10_question_74 (fun v_ lo3 co3 H locs hq_ hW => ?_)
  obtain ⟨hv_, o1, o2, o3⟩ := hq_
  subst hv_
  refine lv_pop hx hb dX10_question_77 rfl ?_
  have hdk : isDk G lo3 co3 dd (addQ S (t1, newQ w1 n1 (cO a))) X := dk_addQ hd hS hk0 h21 (hqn.of (fun i hi => o2 _ (by unfold tQ; omega) (by unfold tQ; omega) (by unfold tQ; omega)) (fun i hi => o1 _ (by unfold tQ; omega) (by unfold tQ; omega)) (o1 _ (by unfold tT; omega) (by unfold tT; omega))) (o3.of rfl rfl rfl (fun q hq => by rw [o1 _ (by unfold tQ; omega) (by unfold tQ; omega)])) (fun i h1 h2 h3 h4 => (o2 i h2 h3 h1).trans (fc i h4)) (fun i h1 h2 h3 => (o1 i h1 h2).trans (fl i h3))
  have g0 : lo3 0 = lo2 0 := o1 0 (by decide) (by decide)
  rw [← g0] at hl
  have hn9 : sn (addQ S (t1, newQ w1 n1 (cO a))) 0 = k + 1 := by show va_up S.2.2.2 0 (sn S 0 + 1) 0 = _; rw [va_up_self, hk0]
  obtain ⟨mc4, ev4, hl4⟩ := hdk.L2.obj
  rw [hn9] at hl4
  refine lv_aload_n hx hb dX10_question_78 rfl (lv_at hl 1 rfl) ?_
  refine x_get (v := .ref (lo3 (2))) cx hk hW.1 (hdk.1) f_RX10_18_9 rfl dX10_question_79 ?_
  refine x_rdV (av := []) (rest := []) cx hk hW.1 hl4 cv_RX10_76_0 (l_size 2 mc4 ev4 (k + 1) hl4) hl.1 rfl rfl (Nat.le_of_ble_eq_true rfl) ⟨by decide, by decide⟩ ⟨by decide, by decide⟩ dX10_question_82 ?_
  refine lv_iconst (v := nI 1) hx hb dX10_question_85 rfl ?_
  refine x_isubN cx (by omega) dX10_question_86 ?_
  refine y_iret cx hW hr hlk ⟨by decide, by decide⟩ dX10_question_87 ?_
  rw [← hpo, e]
  exact ⟨rfl, g0.trans (f0.trans e0), X, hdk⟩
