/-! ArrayList's growing: newLength, the two copyOf -/
set_option maxHeartbeats 4000000 in
theorem c_newLen {l : Launch} {G : x_G} {lo : x_L} {co : x_C} (a b c : Nat) (ha : a < 2 ^ 20) (hb_ : b < 2 ^ 20) (hc : c < 2 ^ 20) (h0 : 0 < b) : x_Rd l G lo co yJ8_newLength_cabcc cJ8_newLength_cabcc 4 (some .int) 1 [.int (nI a), .int (nI b), .int (nI c)] (some (.int (nI (a + max b c)))) := by
  refine x_enter RJ8 rfl (by decide) (Nat.le_of_ble_eq_true rfl) ?_
  intro pp ee ss mm bb mt cd ls cx hk hw hr hlk hl
  have hl : lv_has ls 4 [(0, .int (nI a)), (1, .int (nI b)), (2, .int (nI c))] := hl
  generalize hav : ([.int (nI a), .int (nI b), .int (nI c)] : List Value).toArray = av at cx ⊢
  generalize hvv : (some (.int (nI (a + max b c))) : Option Value) = vv
  have hx := cx.1
  have hb := cx.2.1
  have hown := cx.2.2.2.1
  have hts := cx.2.2.2.2
  have hm : 0 < max b c := Nat.lt_of_lt_of_le h0 (Nat.le_max_left _ _)
  have hM : max b c < 2 ^ 20 := Nat.max_lt.mpr ⟨hb_, hc⟩
  refine lv_iload_n hx hb dJ8_newLength_cabcc_0 rfl (lv_at hl 0 rfl) ?_
  refine lv_iload_n hx hb dJ8_newLength_cabcc_1 rfl (lv_at hl 1 rfl) ?_
  refine lv_iload_n hx hb dJ8_newLength_cabcc_2 rfl (lv_at hl 2 rfl) ?_
  refine x_mmax cx hl.1 w_337 (by omega) w_247 w_8 w_248 ⟨Nat.le_of_ble_eq_true rfl, Nat.le_of_ble_eq_true rfl⟩ ⟨Nat.zero_le _, Nat.zero_le _⟩ dJ8_newLength_cabcc_3 ?_
  refine x_iaddN cx dJ8_newLength_cabcc_6 ?_
  refine lv_istore_n (lv' := [(3, .int (nI (a + max b c))), (0, .int (nI a)), (1, .int (nI b)), (2, .int (nI c))]) hx hb dJ8_newLength_cabcc_7 rfl hl (by decide) rfl (fun ls hl => ?_)
  refine lv_iconst (v := nI 0) hx hb dJ8_newLength_cabcc_8 rfl ?_
  refine lv_iload_n hx hb dJ8_newLength_cabcc_9 rfl (lv_at hl 0 rfl) ?_
  refine x_icmp_ge (tgt := 21) cx dJ8_newLength_cabcc_10 (by decide) (by omega) (fun q => absurd q (by omega)) (fun q => ?_)
  refine lv_iload_n hx hb dJ8_newLength_cabcc_13 rfl (lv_at hl 0 rfl) ?_
  refine lv_ldc (v := nI 2147483639) hx hb hown (hts _ w_338) dJ8_newLength_cabcc_14 ?_
  refine x_icmp_gt (tgt := 21) cx dJ8_newLength_cabcc_16 (by decide) (by omega) (fun q => absurd q (by omega)) (fun q => ?_)
  refine lv_iload_n hx hb dJ8_newLength_cabcc_19 rfl (lv_at hl 0 rfl) ?_
  exact x_iret cx hr hlk dJ8_newLength_cabcc_20 hvv
/-- what lies in the first n places are objects of the world -/
def z_els (lo : x_L) (co : x_C) (f : Nat → Option Nat) (n : Nat) : Prop := ∀ i, i < n → ∀ y, f i = some y → ∃ (w ci : Nat) (fs : List Value) (C : String) (T : u_T) (N : Nat), y = lo w ∧ co w = some (.inr (ci, fs)) ∧ vwCl[ci]? = some (C, T, N) ∧ (C, "java/lang/Object") ∈ x_nC
set_option maxHeartbeats 4000000 in
theorem k_copy3 {l : Launch} {dd mi : Nat} {G : x_G} {lo : x_L} {co : x_C} (t u n n0 : Nat) (f : Nat → Option Nat) (ha : co t = some (.inl (G.2 3, n0, .inr (.inr (.inr (.inr f)))))) (hu : co u = none) (hn : n0 ≤ n) (hn2 : n < 2 ^ 20) (hel : z_els lo co f n0) : z_Wr l dd mi G lo co yJ7_copyOf_6403c cJ7_copyOf_6403c 4 (some (.array (.object "java/lang/Object"))) 1 1 n [.ref (lo t), .int (nI n), .ref mi] (fun v lo1 co1 => v = some (.ref (lo1 u)) ∧ (∀ i, i ≠ u → lo1 i = lo i ∧ co1 i = co i) ∧ co1 u = some (.inl (G.2 3, n, .inr (.inr (.inr (.inr (va_cpy f (fun _ => none) 0 0 n0))))))) := by
  refine z_wenter RJ7 rfl (by decide) (Nat.le_of_ble_eq_true rfl) ?_
  intro pp ee ss mm bb mt cd ls AA cx hk hZ hW hA hr hlk hnm hl
  have hl : lv_has ls 4 [(0, .ref (lo t)), (1, .int (nI n)), (2, .ref mi)] := hl
  generalize hav : ([.ref (lo t), .int (nI n), .ref mi] : List Value).toArray = av at cx ⊢
  have hx := cx.1
  have hb := cx.2.1
  have htu : t ≠ u := fun q => by rw [q, hu] at ha; cases ha
  refine lv_aload_n hx hb dJ7_copyOf_6403c_0 rfl (lv_at hl 2 rfl) ?_
  refine z_ldcM hZ cx w_363 dJ7_copyOf_6403c_1 ?_
  refine lv_acmp_ne (rx := some mi) (ry := some mi) (tgt := 13) hx hb dJ7_copyOf_6403c_3 (by decide) (fun q => absurd rfl q) (fun _ => ?_)
  refine lv_iload_n hx hb dJ7_copyOf_6403c_6 rfl (lv_at hl 1 rfl) ?_
  refine x_newA 3 u cx hk hW hA hu rfl w_365 hZ.2.2.2.1 hn2 (Nat.le_refl 1) (by show 0 + n ≤ n; omega) dJ7_copyOf_6403c_7 (fun lo1 H hlo1 hW => ?_)
  have hre := (hlo1 t htu).symm
  rw [hre] at hl
  refine lv_goto (tgt := 24) hx hb dJ7_copyOf_6403c_10 (by decide) ?_
  refine lv_astore_n (lv' := [(3, .ref (lo1 u)), (0, .ref (lo1 t)), (1, .int (nI n)), (2, .ref mi)]) hx hb dJ7_copyOf_6403c_24 rfl hl (by decide) rfl (fun ls hl => ?_)
  refine lv_aload_n hx hb dJ7_copyOf_6403c_25 rfl (lv_at hl 1 rfl) ?_
  refine lv_iconst (v := nI 0) hx hb dJ7_copyOf_6403c_26 rfl ?_
  refine lv_aload_n hx hb dJ7_copyOf_6403c_27 rfl (lv_at hl 0 rfl) ?_
  refine lv_iconst (v := nI 0) hx hb dJ7_copyOf_6403c_28 rfl ?_
  refine lv_aload_n hx hb dJ7_copyOf_6403c_29 rfl (lv_at hl 1 rfl) ?_
  have hat := (va_up_ne co (some (.inl (G.2 3, n, .inr (.inr (.inr (.inr (fun _ => none))))))) htu).trans ha
  refine x_alenO cx hk hW.1 hat dJ7_copyOf_6403c_30 ?_
  refine lv_iload_n hx hb dJ7_copyOf_6403c_31 rfl (lv_at hl 2 rfl) ?_
  refine x_mmin cx hl.1 w_366 (by omega) w_244 w_8 w_245 ⟨Nat.le_of_ble_eq_true rfl, Nat.le_of_ble_eq_true rfl⟩ ⟨Nat.le_refl 1, by show 0 + n ≤ n; omega⟩ dJ7_copyOf_6403c_32 ?_
  rw [Nat.min_eq_left hn]
  refine x_copyO hZ cx hk hW hl.1 w_367 hat (va_up_self _ _ _) (by omega) (Nat.le_refl n0) hn (fun i hi y hy => ?_) (Nat.le_of_ble_eq_true rfl) (Nat.le_of_ble_eq_true rfl) dJ7_copyOf_6403c_35 (fun H locs hW => ?_)
  · obtain ⟨w, ci, fs, C, T, N, e1, e2, e3, e4⟩ := hel i hi y hy
    have hwu : w ≠ u := fun q => by rw [q, hu] at e2; cases e2
    rw [e1, ← hlo1 w hwu]
    exact x_any hk hW.1 ((va_up_ne _ _ hwu).trans e2) e3 e4
  refine lv_aload_n hx hb dJ7_copyOf_6403c_38 rfl (lv_at hl 0 rfl) ?_
  exact y_aret cx hW hr (Or.inr ⟨_, rfl⟩) hlk ⟨Nat.le_refl 1, by show 0 + n ≤ n; omega⟩ (Or.inr ⟨_, rfl⟩) dJ7_copyOf_6403c_39 ⟨rfl, fun i hi => ⟨hlo1 i hi, (va_up_ne _ _ hi).trans (va_up_ne _ _ hi)⟩, va_up_self _ _ _⟩
set_option maxHeartbeats 4000000 in
theorem k_copy2 {l : Launch} {dd mi : Nat} {G : x_G} {lo : x_L} {co : x_C} (t u n n0 : Nat) (f : Nat → Option Nat) (ha : co t = some (.inl (G.2 3, n0, .inr (.inr (.inr (.inr f)))))) (hu : co u = none) (hn : n0 ≤ n) (hn2 : n < 2 ^ 20) (hel : z_els lo co f n0) : z_Wr l dd mi G lo co yJ7_copyOf_1904c cJ7_copyOf_1904c 2 (some (.array (.object "java/lang/Object"))) 2 1 n [.ref (lo t), .int (nI n)] (fun v lo1 co1 => v = some (.ref (lo1 u)) ∧ (∀ i, i ≠ u → lo1 i = lo i ∧ co1 i = co i) ∧ co1 u = some (.inl (G.2 3, n, .inr (.inr (.inr (.inr (va_cpy f (fun _ => none) 0 0 n0))))))) := by
  refine z_wenter RJ7 rfl (by decide) (Nat.le_of_ble_eq_true rfl) ?_
  intro pp ee ss mm bb mt cd ls AA cx hk hZ hW hA hr hlk hnm hl
  have hl : lv_has ls 2 [(0, .ref (lo t)), (1, .int (nI n))] := hl
  generalize hav : ([.ref (lo t), .int (nI n)] : List Value).toArray = av at cx ⊢
  have hx := cx.1
  have hb := cx.2.1
  refine lv_aload_n hx hb dJ7_copyOf_1904c_0 rfl (lv_at hl 0 rfl) ?_
  refine lv_iload_n hx hb dJ7_copyOf_1904c_1 rfl (lv_at hl 1 rfl) ?_
  refine lv_aload_n hx hb dJ7_copyOf_1904c_2 rfl (lv_at hl 0 rfl) ?_
  refine z_getC hZ cx hk hW.1 hl.1 ha w_345 (Nat.le_of_ble_eq_true rfl) (by simp [Value.category]) dJ7_copyOf_1904c_3 ?_
  refine z_wrS (av := [.ref (lo t), .int (nI n), .ref mi]) (rest := []) hZ cx hk hW hA cs_RJ7_300 (k_copy3 t u n n0 f ha hu hn hn2 hel) hl.1 rfl rfl (Nat.le_of_ble_eq_true rfl) ⟨Nat.le_of_ble_eq_true rfl, Nat.le_of_ble_eq_true rfl⟩ ⟨Nat.le_refl 1, by show 0 + n ≤ n; omega⟩ dJ7_copyOf_1904c_6 (fun v_ lo1 co1 H locs hq_ hW => ?_)
  obtain ⟨hv_, ho_, hu_⟩ := hq_
  subst hv_
  exact y_aret cx hW hr (Or.inr ⟨_, rfl⟩) hlk ⟨Nat.le_refl 1, by show 0 + n ≤ n; omega⟩ (Or.inr ⟨_, rfl⟩) dJ7_copyOf_1904c_9 ⟨rfl, ho_, hu_⟩
