set_option maxHeartbeats 4000000 in
set_option maxRecDepth 100000 in
theorem s_wn {l : Launch} {G : x_G} {lo : x_L} {co : x_C} (S : St) (X : Sc) (hS : Sok S) (hs : isSc G lo co X) (hL : Lok S X) (e : Nat → Nat) (he60 : ∀ q, q < sn S 0 → e q ≤ 60) (he : Lrow S X 0 e) : x_Rd l G lo co yX7_weighNothing cX7_weighNothing 4 (some .long) 1 [.ref (lo (6))] (some (.long (lN (sq S e (sn S 0))))) := by
  refine x_enter RX7 rfl (by decide) (Nat.le_of_ble_eq_true rfl) ?_
  intro pp ee ss mm bb mt cd ls cx hk hw hr hlk hl
  have hl : lv_has ls 4 [(0, .ref (lo (6)))] := hl
  generalize hav : ([.ref (lo (6))] : List Value).toArray = av at cx ⊢
  generalize hvv : (some (.long (lN (sq S e (sn S 0)))) : Option Value) = vv
  have hx := cx.1
  have hb := cx.2.1
  have hown := cx.2.2.2.1
  have hts := cx.2.2.2.2
  obtain ⟨s1, s2, s3, s4, s5, s6⟩ := id hS
  have h6 := hs.1
  rw [hL.1, hL.2.1] at h6
  obtain ⟨f8, hc8, hf8⟩ := hs.2.2.1
  obtain ⟨f12, hc12, hf12⟩ := hs.2.2.2.2.2.2.1
  have hb12 := Sok.b12 hS
  refine lv_lconst (v := lN 0) hx hb dX7_weighNothing_0 rfl ?_
  refine lv_lstore_n (lv' := [(1, .long (lN 0)), (0, .ref (lo (6)))]) hx hb dX7_weighNothing_1 rfl hl (by decide) rfl (fun ls hl => ?_)
  refine lv_iconst (v := nI 0) hx hb dX7_weighNothing_2 rfl ?_
  refine lv_istore_n (lv' := [(3, .int (nI 0)), (1, .long (lN 0)), (0, .ref (lo (6)))]) hx hb dX7_weighNothing_3 rfl hl (by decide) rfl (fun ls hl => ?_)
  have L4_1 : ∀ (n_ : Nat) (f : Nat) (k : Nat), (k ≤ sn S 0) → (f = sq S e k) → sn S 0 - k < n_ → ∀ (ls : Array Slot), lv_has ls 4 [(3, .int (nI k)), (1, .long (lN f)), (0, .ref (lo (6)))] → x_w l 1 pp ee ss mm av bb mt cd vv 4 ls [] := by
    intro n_
    induction n_ with
    | zero => intro f k hv hf hm_ ls hl; exact absurd hm_ (Nat.not_lt_zero _)
    | succ n_ ih4_1 =>
      intro f k hv hf hm_ ls hl
      refine lv_iload_n hx hb dX7_weighNothing_4 rfl (lv_at hl 0 rfl) ?_
      refine lv_aload_n hx hb dX7_weighNothing_5 rfl (lv_at hl 2 rfl) ?_
      refine x_get (v := .int (nI (sn S 0))) cx hk hw (h6) f_RX7_44_6 rfl dX7_weighNothing_6 ?_
      refine x_icmp_ge (tgt := 38) cx dX7_weighNothing_9 (by decide) (by omega) (fun h9_2 => ?_) (fun h9_2 => ?_)
      · skip
        refine lv_lload_n hx hb dX7_weighNothing_38 rfl (lv_at hl 1 rfl) ?_
        exact x_lret cx hr hlk dX7_weighNothing_39 ((congrArg (fun z => some (Value.long (lN z))) (show f = sq S e (sn S 0) from by rw [hf, show k = sn S 0 by omega])).trans hvv)
      · skip
        have hw100 := wq_le hS (q := k) (by omega)
        have he6 := he60 k (by omega)
        refine lv_lload_n hx hb dX7_weighNothing_12 rfl (lv_at hl 1 rfl) ?_
        refine lv_aload_n hx hb dX7_weighNothing_13 rfl (lv_at hl 2 rfl) ?_
        refine x_get (v := .ref (lo (7))) cx hk hw (h6) f_RX7_9_6 rfl dX7_weighNothing_14 ?_
        refine lv_iload_n hx hb dX7_weighNothing_17 rfl (lv_at hl 0 rfl) ?_
        refine x_ialdE (x := nI (wq S k)) cx hk hw (hs.2.1) (by omega) (by decide) (hL.2.2.1 k (by omega)) dX7_weighNothing_18 ?_
        refine x_i2lN cx dX7_weighNothing_19 (by omega) ?_
        refine lv_aload_n hx hb dX7_weighNothing_20 rfl (lv_at hl 2 rfl) ?_
        refine x_get (v := .ref (lo (12))) cx hk hw (h6) f_RX7_29_6 rfl dX7_weighNothing_21 ?_
        refine lv_iconst (v := nI 0) hx hb dX7_weighNothing_24 rfl ?_
        refine x_aaldIN cx hk hw (hc12) (by omega) (by first | decide | omega) (congrArg va_rf (hf12 0 (by omega))) dX7_weighNothing_25 ?_
        refine lv_iload_n hx hb dX7_weighNothing_26 rfl (lv_at hl 0 rfl) ?_
        refine x_ialdE (x := nI (e k)) cx hk hw ((hs.2.2.2.2.2.2.2.2 0 (by omega))) (by omega) (by decide) (he k (by omega)) dX7_weighNothing_27 ?_
        refine x_i2lN cx dX7_weighNothing_28 (by omega) ?_
        refine x_lmulN cx dX7_weighNothing_29 ?_
        refine x_laddN cx dX7_weighNothing_30 ?_
        refine lv_lstore_n (lv' := [(1, .long (lN (f + ((wq S k) * (e k))))), (3, .int (nI k)), (0, .ref (lo (6)))]) hx hb dX7_weighNothing_31 rfl hl (by decide) rfl (fun ls hl => ?_)
        refine lv_iinc (v := nI (k + 1)) (lv' := [(3, .int (nI (k + 1))), (1, .long (lN (f + ((wq S k) * (e k))))), (0, .ref (lo (6)))]) hx hb dX7_weighNothing_32 hl (k := 1) rfl (nI_add _ 1) (by decide) rfl (fun ls hl => ?_)
        refine lv_goto (tgt := 4) hx hb dX7_weighNothing_35 (by decide) ?_
        exact ih4_1 (f + ((wq S k) * (e k))) (k + 1) (by omega) (by rw [hf]; rfl) (by omega) _ (lv_sub hl [0, 1, 2] rfl)
  exact L4_1 (_ + 1) 0 0 (by omega) (by rfl) (Nat.lt_succ_self _) _ (lv_sub hl [0, 1, 2] rfl)
set_option maxHeartbeats 4000000 in
set_option maxRecDepth 100000 in
theorem s_sv {l : Launch} {G : x_G} {lo : x_L} {co : x_C} (S : St) (X : Sc) (hS : Sok S) (hs : isSc G lo co X) (hL : Lok S X) (e : Nat → Nat) (he60 : ∀ q, q < sn S 0 → e q ≤ 60) (n a : Nat) (he : Lrow S X n e) (hn_ : n < 13) (ha_ : a < sn S 1) : x_Rd l G lo co yX7_savedBy cX7_savedBy 6 (some .long) 2 [.ref (lo (6)), .int (nI a), .ref (lo (tL n))] (some (.long (lN (svN S a e (sn S 0)) - lN (m_kc S a)))) := by
  refine x_enter RX7 rfl (by decide) (Nat.le_of_ble_eq_true rfl) ?_
  intro pp ee ss mm bb mt cd ls cx hk hw hr hlk hl
  have hl : lv_has ls 6 [(0, .ref (lo (6))), (1, .int (nI a)), (2, .ref (lo (tL n)))] := hl
  generalize hav : ([.ref (lo (6)), .int (nI a), .ref (lo (tL n))] : List Value).toArray = av at cx ⊢
  generalize hvv : (some (.long (lN (svN S a e (sn S 0)) - lN (m_kc S a))) : Option Value) = vv
  have hx := cx.1
  have hb := cx.2.1
  have hown := cx.2.2.2.1
  have hts := cx.2.2.2.2
  obtain ⟨s1, s2, s3, s4, s5, s6⟩ := id hS
  have h6 := hs.1
  rw [hL.1, hL.2.1] at h6
  obtain ⟨f8, hc8, hf8⟩ := hs.2.2.1
  obtain ⟨f12, hc12, hf12⟩ := hs.2.2.2.2.2.2.1
  have hb12 := Sok.b12 hS
  have hkc := m_kc_le hS ha_
  refine lv_aload_n hx hb dX7_savedBy_0 rfl (lv_at hl 0 rfl) ?_
  refine x_get (v := .ref (lo (10))) cx hk hw (h6) f_RX7_23_6 rfl dX7_savedBy_1 ?_
  refine lv_iload_n hx hb dX7_savedBy_4 rfl (lv_at hl 1 rfl) ?_
  refine x_ialdE (x := nI (m_kc S a)) cx hk hw (hs.2.2.2.2.1) (by omega) (by decide) ((hL.2.2.2 a (by omega)).2.1) dX7_savedBy_5 ?_
  refine lv_ineg hx hb dX7_savedBy_6 ?_
  refine lv_i2l hx hb dX7_savedBy_7 rfl ?_
  refine lv_lstore_n (lv' := [(3, .long ((-(nI (m_kc S a))).toInt64)), (0, .ref (lo (6))), (1, .int (nI a)), (2, .ref (lo (tL n)))]) hx hb dX7_savedBy_8 rfl hl (by decide) rfl (fun ls hl => ?_)
  refine lv_iconst (v := nI 0) hx hb dX7_savedBy_9 rfl ?_
  refine lv_istore (lv' := [(5, .int (nI 0)), (3, .long ((-(nI (m_kc S a))).toInt64)), (0, .ref (lo (6))), (1, .int (nI a)), (2, .ref (lo (tL n)))]) hx hb dX7_savedBy_10 hl (by decide) rfl (fun ls hl => ?_)
  have L12_1 : ∀ (n_ : Nat) (f : Int64) (k : Nat), (k ≤ sn S 0) → (f = lN (svN S a e k) - lN (m_kc S a)) → sn S 0 - k < n_ → ∀ (ls : Array Slot), lv_has ls 6 [(5, .int (nI k)), (3, .long (f)), (0, .ref (lo (6))), (1, .int (nI a)), (2, .ref (lo (tL n)))] → x_w l 2 pp ee ss mm av bb mt cd vv 12 ls [] := by
    intro n_
    induction n_ with
    | zero => intro f k hv hf hm_ ls hl; exact absurd hm_ (Nat.not_lt_zero _)
    | succ n_ ih12_1 =>
      intro f k hv hf hm_ ls hl
      refine lv_iload hx hb dX7_savedBy_12 (lv_at hl 0 rfl) ?_
      refine lv_aload_n hx hb dX7_savedBy_14 rfl (lv_at hl 2 rfl) ?_
      refine x_get (v := .int (nI (sn S 0))) cx hk hw (h6) f_RX7_44_6 rfl dX7_savedBy_15 ?_
      refine x_icmp_ge (tgt := 58) cx dX7_savedBy_18 (by decide) (by omega) (fun h18_2 => ?_) (fun h18_2 => ?_)
      · skip
        refine lv_lload_n hx hb dX7_savedBy_58 rfl (lv_at hl 1 rfl) ?_
        exact x_lret cx hr hlk dX7_savedBy_59 ((congrArg (fun z => some (Value.long z)) (show f = lN (svN S a e (sn S 0)) - lN (m_kc S a) from by rw [hf, show k = sn S 0 by omega])).trans hvv)
      · skip
        have hw100 := wq_le hS (q := k) (by omega)
        have he6 := he60 k (by omega)
        have hcs := cst_le hS (a := a) (q := k) (by omega) ha_
        refine lv_lload_n hx hb dX7_savedBy_21 rfl (lv_at hl 1 rfl) ?_
        refine lv_aload_n hx hb dX7_savedBy_22 rfl (lv_at hl 2 rfl) ?_
        refine x_get (v := .ref (lo (7))) cx hk hw (h6) f_RX7_9_6 rfl dX7_savedBy_23 ?_
        refine lv_iload hx hb dX7_savedBy_26 (lv_at hl 0 rfl) ?_
        refine x_ialdE (x := nI (wq S k)) cx hk hw (hs.2.1) (by omega) (by decide) (hL.2.2.1 k (by omega)) dX7_savedBy_28 ?_
        refine x_i2lN cx dX7_savedBy_29 (by omega) ?_
        refine lv_iconst (v := nI 0) hx hb dX7_savedBy_30 rfl ?_
        refine lv_aload_n hx hb dX7_savedBy_31 rfl (lv_at hl 4 rfl) ?_
        refine lv_iload hx hb dX7_savedBy_32 (lv_at hl 0 rfl) ?_
        refine x_ialdE (x := nI (e k)) cx hk hw ((hs.2.2.2.2.2.2.2.2 n (by omega))) (by omega) (by decide) (he k (by omega)) dX7_savedBy_34 ?_
        refine lv_aload_n hx hb dX7_savedBy_35 rfl (lv_at hl 2 rfl) ?_
        refine x_get (v := .ref (lo (8))) cx hk hw (h6) f_RX7_17_6 rfl dX7_savedBy_36 ?_
        refine lv_iload_n hx hb dX7_savedBy_39 rfl (lv_at hl 3 rfl) ?_
        refine x_aaldIN cx hk hw (hc8) (by omega) (by first | decide | omega) (congrArg va_rf (hf8 a (by omega))) dX7_savedBy_40 ?_
        refine lv_iload hx hb dX7_savedBy_41 (lv_at hl 0 rfl) ?_
        refine x_ialdE (x := nI (cst S a k)) cx hk hw ((hs.2.2.2.2.2.2.2.1 a (by omega))) (by omega) (by decide) ((hL.2.2.2 a (by omega)).2.2.2 k (by omega)) dX7_savedBy_43 ?_
        refine lv_isub hx hb dX7_savedBy_44 ?_
        refine x_mmaxD cx hl.1 w_725 (by omega) w_247 w_8 w_248 ⟨Nat.le_of_ble_eq_true rfl, Nat.le_of_ble_eq_true rfl⟩ ⟨Nat.zero_le _, Nat.zero_le _⟩ dX7_savedBy_45 ?_
        refine x_i2lN cx dX7_savedBy_48 (by omega) ?_
        refine x_lmulN cx dX7_savedBy_49 ?_
        refine lv_ladd hx hb dX7_savedBy_50 ?_
        refine lv_lstore_n (lv' := [(3, .long (f + (lN ((wq S k) * ((e k) - (cst S a k)))))), (5, .int (nI k)), (0, .ref (lo (6))), (1, .int (nI a)), (2, .ref (lo (tL n)))]) hx hb dX7_savedBy_51 rfl hl (by decide) rfl (fun ls hl => ?_)
        refine lv_iinc (v := nI (k + 1)) (lv' := [(5, .int (nI (k + 1))), (3, .long (f + (lN ((wq S k) * ((e k) - (cst S a k)))))), (0, .ref (lo (6))), (1, .int (nI a)), (2, .ref (lo (tL n)))]) hx hb dX7_savedBy_52 hl (k := 1) rfl (nI_add _ 1) (by decide) rfl (fun ls hl => ?_)
        refine lv_goto (tgt := 12) hx hb dX7_savedBy_55 (by decide) ?_
        exact ih12_1 (f + (lN ((wq S k) * ((e k) - (cst S a k))))) (k + 1) (by omega) (by rw [hf, ← lN_mul, lN_acc]; rfl) (by omega) _ (lv_sub hl [0, 1, 2, 3, 4] rfl)
  exact L12_1 (_ + 1) ((-(nI (m_kc S a))).toInt64) 0 (by omega) (by exact lN_neg (by omega)) (Nat.lt_succ_self _) _ (lv_sub hl [0, 1, 2, 3, 4] rfl)
set_option maxHeartbeats 4000000 in
set_option maxRecDepth 100000 in
theorem s_fits {l : Launch} {G : x_G} {lo : x_L} {co : x_C} (S : St) (X : Sc) (hS : Sok S) (hs : isSc G lo co X) (hL : Lok S X) (a s r : Nat) (ha_ : a < sn S 1) (hs_ : s < 2 ^ 31) (hr_ : r < 2 ^ 31) : x_Rd l G lo co yX7_fits cX7_fits 4 (some .boolean) 2 [.ref (lo (6)), .int (nI a), .int (nI s), .int (nI r)] (some (.int (bI (!s.testBit a && decide (m_sp S a ≤ r) && decide (d_rivs S a &&& s = 0))))) := by
  refine x_enter RX7 rfl (by decide) (Nat.le_of_ble_eq_true rfl) ?_
  intro pp ee ss mm bb mt cd ls cx hk hw hr hlk hl
  have hl : lv_has ls 4 [(0, .ref (lo (6))), (1, .int (nI a)), (2, .int (nI s)), (3, .int (nI r))] := hl
  generalize hav : ([.ref (lo (6)), .int (nI a), .int (nI s), .int (nI r)] : List Value).toArray = av at cx ⊢
  generalize hvv : (some (.int (bI (!s.testBit a && decide (m_sp S a ≤ r) && decide (d_rivs S a &&& s = 0)))) : Option Value) = vv
  have hx := cx.1
  have hb := cx.2.1
  have hown := cx.2.2.2.1
  have hts := cx.2.2.2.2
  obtain ⟨s1, s2, s3, s4, s5, s6⟩ := id hS
  have h6 := hs.1
  rw [hL.1, hL.2.1] at h6
  obtain ⟨f8, hc8, hf8⟩ := hs.2.2.1
  obtain ⟨f12, hc12, hf12⟩ := hs.2.2.2.2.2.2.1
  have hb12 := Sok.b12 hS
  have hsp := m_sp_le hS ha_
  have hrl := d_rivs_lt S a
  have hal : d_rivs S a &&& s ≤ s := Nat.and_le_right
  refine lv_iload_n hx hb dX7_fits_0 rfl (lv_at hl 1 rfl) ?_
  refine lv_iload_n hx hb dX7_fits_1 rfl (lv_at hl 2 rfl) ?_
  refine x_rdSN (av := [.int (nI a), .int (nI s)]) (rest := []) cx hk hw cn_RX7_97 (c_isIn a s (by omega) (by omega)) hl.1 rfl rfl (Nat.le_of_ble_eq_true rfl) ⟨by decide, by decide⟩ ⟨Nat.zero_le _, Nat.zero_le _⟩ dX7_fits_2 ?_
  refine x_if_ne (tgt := 33) cx dX7_fits_5 (by decide) (fun h5_1 => ?_) (fun h5_1 => ?_)
  · skip
    refine lv_iconst (v := nI 0) hx hb dX7_fits_33 rfl ?_
    exact x_zretF (b := !s.testBit a && decide (m_sp S a ≤ r) && decide (d_rivs S a &&& s = 0)) cx hr hlk dX7_fits_34 (by first | (simp [*]; done) | (simp_all; done) | (simp [*]; omega)) hvv
  · skip
    refine lv_aload_n hx hb dX7_fits_8 rfl (lv_at hl 0 rfl) ?_
    refine x_get (v := .ref (lo (9))) cx hk hw (h6) f_RX7_20_6 rfl dX7_fits_9 ?_
    refine lv_iload_n hx hb dX7_fits_12 rfl (lv_at hl 1 rfl) ?_
    refine x_ialdE (x := nI (m_sp S a)) cx hk hw (hs.2.2.2.1) (by omega) (by decide) ((hL.2.2.2 a (by omega)).1) dX7_fits_13 ?_
    refine lv_iload_n hx hb dX7_fits_14 rfl (lv_at hl 3 rfl) ?_
    refine x_icmp_gt (tgt := 33) cx dX7_fits_15 (by decide) (by omega) (fun h15_2 => ?_) (fun h15_2 => ?_)
    · skip
      refine lv_iconst (v := nI 0) hx hb dX7_fits_33 rfl ?_
      exact x_zretF (b := !s.testBit a && decide (m_sp S a ≤ r) && decide (d_rivs S a &&& s = 0)) cx hr hlk dX7_fits_34 (by first | (simp [*]; done) | (simp_all; done) | (simp [*]; omega)) hvv
    · skip
      refine lv_aload_n hx hb dX7_fits_18 rfl (lv_at hl 0 rfl) ?_
      refine x_get (v := .ref (lo (11))) cx hk hw (h6) f_RX7_26_6 rfl dX7_fits_19 ?_
      refine lv_iload_n hx hb dX7_fits_22 rfl (lv_at hl 1 rfl) ?_
      refine x_ialdE (x := nI (d_rivs S a)) cx hk hw (hs.2.2.2.2.2.1) (by omega) (by decide) ((hL.2.2.2 a (by omega)).2.2.1) dX7_fits_23 ?_
      refine lv_iload_n hx hb dX7_fits_24 rfl (lv_at hl 2 rfl) ?_
      refine x_iandB cx dX7_fits_25 ?_
      refine x_ifN_ne (tgt := 33) cx dX7_fits_26 (by decide) (by omega) (fun h26_3 => ?_) (fun h26_3 => ?_)
      · skip
        refine lv_iconst (v := nI 0) hx hb dX7_fits_33 rfl ?_
        exact x_zretF (b := !s.testBit a && decide (m_sp S a ≤ r) && decide (d_rivs S a &&& s = 0)) cx hr hlk dX7_fits_34 (by first | (simp [*]; done) | (simp_all; done) | (simp [*]; omega)) hvv
      · skip
        refine lv_iconst (v := nI 1) hx hb dX7_fits_29 rfl ?_
        refine lv_goto (tgt := 34) hx hb dX7_fits_30 (by decide) ?_
        exact x_zretT (b := !s.testBit a && decide (m_sp S a ≤ r) && decide (d_rivs S a &&& s = 0)) cx hr hlk dX7_fits_34 (by first | (simp [*]; done) | (simp_all; done) | (simp [*]; omega)) hvv
set_option maxHeartbeats 4000000 in
set_option maxRecDepth 100000 in
theorem g_settle {l : Launch} {G : x_G} {lo : x_L} {co : x_C} (S : St) (X : Sc) (hS : Sok S) (hs : isSc G lo co X) (hL : Lok S X) (e : Nat → Nat) (he60 : ∀ q, q < sn S 0 → e q ≤ 60) (a : Nat) (inc : Bool) (he : Lrow S X a e) (ha_ : a < sn S 1) : x_Wr l G lo (co) yX7_settle cX7_settle 4 none 2 0 0 [.ref (lo (6)), .int (nI a), .int (bI (inc))] (fun (v : Option Value) (lo1 : x_L) (co1 : x_C) => v = none ∧ lo1 = lo ∧ isSc G lo co1 (sX X (40 + (a + 1)) (ovr (sn S 0) (fun q_ => if inc = true then min (e q_) (cst S a q_) else e q_) (X.2.2 (40 + (a + 1))))) ∧ ofr co co1 6 47) := by
  refine x_wenter RX7 rfl (by decide) (Nat.le_of_ble_eq_true rfl) ?_
  intro pp ee ss mm bb mt cd ls AA cx hk hW hA hr hlk hnm hl
  have hl : lv_has ls 4 [(0, .ref (lo (6))), (1, .int (nI a)), (2, .int (bI (inc)))] := hl
  generalize hav : ([.ref (lo (6)), .int (nI a), .int (bI (inc))] : List Value).toArray = av at cx ⊢
  generalize hpo : (fun (v : Option Value) (lo1 : x_L) (co1 : x_C) => v = none ∧ lo1 = lo ∧ isSc G lo co1 (sX X (40 + (a + 1)) (ovr (sn S 0) (fun q_ => if inc = true then min (e q_) (cst S a q_) else e q_) (X.2.2 (40 + (a + 1))))) ∧ ofr co co1 6 47) = po
  have hx := cx.1
  have hb := cx.2.1
  have hown := cx.2.2.2.1
  have hts := cx.2.2.2.2
  have hw := hW.1
  suffices key_ : ∀ (H : Heap) (locs : List Loc), x_D AA G ss.heap lo (co) H locs → x_ww l 2 0 0 pp ee ss mm av bb mt cd G po AA H locs 0 0 0 ls [] from key_ _ _ hW
  intro H locs hW
  have hw := hW.1
  obtain ⟨s1, s2, s3, s4, s5, s6⟩ := id hS
  have h6 := hs.1
  rw [hL.1, hL.2.1] at h6
  obtain ⟨f8, hc8, hf8⟩ := hs.2.2.1
  obtain ⟨f12, hc12, hf12⟩ := hs.2.2.2.2.2.2.1
  have hb12 := Sok.b12 hS
  refine lv_iconst (v := nI 0) hx hb dX7_settle_0 rfl ?_
  refine lv_istore_n (lv' := [(3, .int (nI 0)), (0, .ref (lo (6))), (1, .int (nI a)), (2, .int (bI (inc)))]) hx hb dX7_settle_1 rfl hl (by decide) rfl (fun ls hl => ?_)
  have L2_1 : ∀ (n_ : Nat) (k : Nat) (cw1 : x_C), (k ≤ sn S 0) → (isSc G lo cw1 (sX X (40 + (a + 1)) (ovr k (fun q_ => if inc = true then min (e q_) (cst S a q_) else e q_) (X.2.2 (40 + (a + 1)))))) → (ofr co cw1 6 47) → sn S 0 - k < n_ → ∀ (H : Heap) (locs : List Loc) (ls : Array Slot), x_D AA G ss.heap lo cw1 H locs → lv_has ls 4 [(3, .int (nI k)), (0, .ref (lo (6))), (1, .int (nI a)), (2, .int (bI (inc)))] → x_ww l 2 0 0 pp ee ss mm av bb mt cd G po AA H locs 0 0 2 ls [] := by
    intro n_
    induction n_ with
    | zero => intro k cw1 hv hsk hof hm_ H locs ls hW hl; exact absurd hm_ (Nat.not_lt_zero _)
    | succ n_ ih2_1 =>
      intro k cw1 hv hsk hof hm_1 H locs ls hW hl
      have hw := hW.1
      have h6k := hsk.1
      rw [(Lok.row (k := a + 1) (f := ovr k (fun q_ => if inc = true then min (e q_) (cst S a q_) else e q_) (X.2.2 (40 + (a + 1)))) hS hL).1, (Lok.row (k := a + 1) (f := ovr k (fun q_ => if inc = true then min (e q_) (cst S a q_) else e q_) (X.2.2 (40 + (a + 1)))) hS hL).2.1] at h6k
      obtain ⟨f8k, hc8k, hf8k⟩ := hsk.2.2.1
      obtain ⟨f12k, hc12k, hf12k⟩ := hsk.2.2.2.2.2.2.1
      have hek : Lrow S (sX X (40 + (a + 1)) (ovr k (fun q_ => if inc = true then min (e q_) (cst S a q_) else e q_) (X.2.2 (40 + (a + 1))))) a e := fun q hq => by rw [sX_ne (by omega)]; exact he q hq
      refine lv_iload_n hx hb dX7_settle_2 rfl (lv_at hl 0 rfl) ?_
      refine lv_aload_n hx hb dX7_settle_3 rfl (lv_at hl 1 rfl) ?_
      refine x_get (v := .int (nI (sn S 0))) cx hk hw (h6k) f_RX7_44_6 rfl dX7_settle_4 ?_
      refine x_icmp_ge (tgt := 60) cx dX7_settle_7 (by decide) (by omega) (fun h7_2 => ?_) (fun h7_2 => ?_)
      · skip
        exact y_vret cx hW hr hlk ⟨by decide, by decide⟩ dX7_settle_60 (by rw [← hpo]; exact ⟨rfl, rfl, by rw [show sn S 0 = k by omega]; exact hsk, hof⟩)
      · skip
        have hw100 := wq_le hS (q := k) (by omega)
        have he6 := he60 k (by omega)
        have hcs := cst_le hS (a := a) (q := k) (by omega) ha_
        refine lv_aload_n hx hb dX7_settle_10 rfl (lv_at hl 1 rfl) ?_
        refine x_get (v := .ref (lo (12))) cx hk hw (h6k) f_RX7_29_6 rfl dX7_settle_11 ?_
        refine lv_iload_n hx hb dX7_settle_14 rfl (lv_at hl 2 rfl) ?_
        refine lv_iconst (v := nI 1) hx hb dX7_settle_15 rfl ?_
        refine x_iaddN cx dX7_settle_16 ?_
        refine x_aaldIN cx hk hw (hc12k) (by omega) (by first | decide | omega) (congrArg va_rf (hf12k (a + 1) (by omega))) dX7_settle_17 ?_
        refine lv_iload_n hx hb dX7_settle_18 rfl (lv_at hl 0 rfl) ?_
        refine lv_iload_n hx hb dX7_settle_19 rfl (lv_at hl 3 rfl) ?_
        have J53_3 : ∀ (y3_s0 : Nat) (ey3_s0 : y3_s0 = if inc = true then (min (e k) (cst S a k)) else (e k)) (ls : Array Slot), lv_has ls 4 [(3, .int (nI k)), (0, .ref (lo (6))), (1, .int (nI a)), (2, .int (bI (inc)))] → x_ww l 2 0 0 pp ee ss mm av bb mt cd G po AA H locs 0 0 53 ls [.int (nI y3_s0), .int (nI k), .ref (lo (tL (a + 1)))] := by
          intro y3_s0 ey3_s0 ls hl
          have dy3_s0 : (inc = true ∧ (y3_s0 = (min (e k) (cst S a k)))) ∨ (¬ (inc = true) ∧ (y3_s0 = (e k))) := by rw [ey3_s0]; repeat' (first | (exact rfl) | (split <;> first | (refine Or.inl ⟨by assumption, ?_⟩) | (refine Or.inr ⟨by assumption, ?_⟩)))
          refine sc_stL cx hk hW hsk (by omega) (by omega) dX7_settle_53 (fun co4 H locs hs4 ho4 hW => ?_)
          have hw := hW.1
          refine lv_iinc (v := nI (k + 1)) (lv' := [(3, .int (nI (k + 1))), (0, .ref (lo (6))), (1, .int (nI a)), (2, .int (bI (inc)))]) hx hb dX7_settle_54 hl (k := 0) rfl (nI_add _ 1) (by decide) rfl (fun ls hl => ?_)
          refine lv_goto (tgt := 2) hx hb dX7_settle_57 (by decide) ?_
          exact ih2_1 (k + 1) _ (by omega) (by have h_ := hs4; rw [sX_at, ovr_s (by assumption), sX_sX] at h_; exact h_) (by exact (hof).tr ho4) (by omega) _ _ _ hW (lv_sub hl [0, 1, 2, 3] rfl)
        refine x_if_eq (tgt := 45) cx dX7_settle_20 (by decide) (fun h20_5 => ?_) (fun h20_5 => ?_)
        · skip
          refine lv_aload_n hx hb dX7_settle_45 rfl (lv_at hl 1 rfl) ?_
          refine x_get (v := .ref (lo (12))) cx hk hw (h6k) f_RX7_29_6 rfl dX7_settle_46 ?_
          refine lv_iload_n hx hb dX7_settle_49 rfl (lv_at hl 2 rfl) ?_
          refine x_aaldIN cx hk hw (hc12k) (by omega) (by first | decide | omega) (congrArg va_rf (hf12k a (by omega))) dX7_settle_50 ?_
          refine lv_iload_n hx hb dX7_settle_51 rfl (lv_at hl 0 rfl) ?_
          refine x_ialdE (x := nI (e k)) cx hk hw ((hsk.2.2.2.2.2.2.2.2 a (by omega))) (by omega) (by decide) (hek k (by omega)) dX7_settle_52 ?_
          exact J53_3 (e k) (by rw [if_neg (fun q => Bool.noConfusion (h20_5.symm.trans q))]) _ (lv_sub hl [0, 1, 2, 3] rfl)
        · skip
          refine lv_aload_n hx hb dX7_settle_23 rfl (lv_at hl 1 rfl) ?_
          refine x_get (v := .ref (lo (12))) cx hk hw (h6k) f_RX7_29_6 rfl dX7_settle_24 ?_
          refine lv_iload_n hx hb dX7_settle_27 rfl (lv_at hl 2 rfl) ?_
          refine x_aaldIN cx hk hw (hc12k) (by omega) (by first | decide | omega) (congrArg va_rf (hf12k a (by omega))) dX7_settle_28 ?_
          refine lv_iload_n hx hb dX7_settle_29 rfl (lv_at hl 0 rfl) ?_
          refine x_ialdE (x := nI (e k)) cx hk hw ((hsk.2.2.2.2.2.2.2.2 a (by omega))) (by omega) (by decide) (hek k (by omega)) dX7_settle_30 ?_
          refine lv_aload_n hx hb dX7_settle_31 rfl (lv_at hl 1 rfl) ?_
          refine x_get (v := .ref (lo (8))) cx hk hw (h6k) f_RX7_17_6 rfl dX7_settle_32 ?_
          refine lv_iload_n hx hb dX7_settle_35 rfl (lv_at hl 2 rfl) ?_
          refine x_aaldIN cx hk hw (hc8k) (by omega) (by first | decide | omega) (congrArg va_rf (hf8k a (by omega))) dX7_settle_36 ?_
          refine lv_iload_n hx hb dX7_settle_37 rfl (lv_at hl 0 rfl) ?_
          refine x_ialdE (x := nI (cst S a k)) cx hk hw ((hsk.2.2.2.2.2.2.2.1 a (by omega))) (by omega) (by decide) (((Lok.row hS hL).2.2.2 a (by omega)).2.2.2 k (by omega)) dX7_settle_38 ?_
          refine x_mmin cx hl.1 w_606 (by omega) w_244 w_8 w_245 ⟨Nat.le_of_ble_eq_true rfl, Nat.le_of_ble_eq_true rfl⟩ ⟨Nat.zero_le _, Nat.zero_le _⟩ dX7_settle_39 ?_
          refine lv_goto (tgt := 53) hx hb dX7_settle_42 (by decide) ?_
          exact J53_3 (min (e k) (cst S a k)) (by rw [if_pos h20_5]) _ (lv_sub hl [0, 1, 2, 3] rfl)
  exact L2_1 (_ + 1) 0 _ (by omega) (by rw [ovr_0, sX_id]; exact hs) (by exact ofr.rf _ _ _) (Nat.lt_succ_self _) _ _ _ hW (lv_sub hl [0, 1, 2, 3] rfl)
