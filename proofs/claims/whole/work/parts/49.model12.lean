set_option maxHeartbeats 4000000 in
set_option maxRecDepth 100000 in
theorem w_greedy {l : Launch} {G : x_G} {lo : x_L} (S : St) (m : Nat → Nat → Int32) (hS : Sok S) (hM : Mok S m) (r : Int32) : x_Wr l G lo (mco G lo (nS S) (mS S m)) yX11_greedy cX11_greedy 12 (some .int) 9 0 0 [.ref (lo (0)), .int (r)] (fun (v : Option Value) (lo_ : x_L) (co_ : x_C) => v = some (Value.int (P_greedy S r)) ∧ lo_ = lo ∧ ∃ m1, Mok S m1 ∧ co_ = mco G lo (nS S) (mS S m1)) := by
  refine x_wenter RX11 rfl (by decide) (Nat.le_of_ble_eq_true rfl) ?_
  intro pp ee ss mm bb mt cd ls AA cx hk hW hA hr hlk hnm hl
  have hl : lv_has ls 12 [(0, .ref (lo (0))), (1, .int (r))] := hl
  generalize hav : ([.ref (lo (0)), .int (r)] : List Value).toArray = av at cx ⊢
  generalize hpo : (fun (v : Option Value) (lo_ : x_L) (co_ : x_C) => v = some (Value.int (P_greedy S r)) ∧ lo_ = lo ∧ ∃ m1, Mok S m1 ∧ co_ = mco G lo (nS S) (mS S m1)) = po
  have hx := cx.1
  have hb := cx.2.1
  have hown := cx.2.2.2.1
  have hts := cx.2.2.2.2
  have hw := hW.1
  obtain ⟨s1, s2, s3, s4, s5, s6⟩ := id hS
  have hm := m_isM G lo S m
  have hp1 := Nat.two_pow_pos (sn S 1)
  refine lv_iload_n hx hb dX11_greedy_0 rfl (lv_at hl 1 rfl) ?_
  refine lv_iconst (v := nI 0) hx hb dX11_greedy_1 rfl ?_
  refine lv_sipush (v := nI 10000) hx hb dX11_greedy_2 rfl ?_
  refine x_rdS (av := [.int (r), .int (nI 0), .int (nI 10000)]) (rest := []) cx hk hw cs_RX11_89 (m_lies r (nI 0) (nI 10000)) hl.1 rfl rfl (Nat.le_of_ble_eq_true rfl) ⟨by decide, by decide⟩ ⟨Nat.zero_le _, Nat.zero_le _⟩ dX11_greedy_5 ?_
  refine x_if_ne (tgt := 13) cx dX11_greedy_8 (by decide) (fun h8_1 => ?_) (fun h8_1 => ?_)
  · skip
    obtain ⟨r1, hr1b, hr1a, hr1e⟩ := nI_tc (x := r) (a := 0) (b := 10000) (by decide) (by decide) (by assumption)
    rw [hr1e] at hl
    have hb12 := Sok.b12 hS
    refine lv_aload_n hx hb dX11_greedy_13 rfl (lv_at hl 0 rfl) ?_
    refine y_wrV (av := []) (rest := []) cx hk hW hA (rfl) cv_RX11_211_10 (w_works S m hS hM) hl.1 rfl rfl (Nat.le_of_ble_eq_true rfl) ⟨by decide, by decide⟩ ⟨by decide, by decide⟩ dX11_greedy_14 (fun v_ lo_ co_ H locs hq_ hW => ?_)
    obtain ⟨hv_, hlo_, m1, hM1, hWk1, hco_⟩ := hq_
    have hlo2_ := hlo_.symm
    subst hv_ hlo2_ hco_
    have hw := hW.1
    have hm1 := m_isM G lo S m1
    refine lv_iconst (v := nI 0) hx hb dX11_greedy_17 rfl ?_
    refine lv_istore_n (lv' := [(2, .int (nI 0)), (0, .ref (lo (0))), (1, .int (nI r1))]) hx hb dX11_greedy_18 rfl hl (by decide) rfl (fun ls hl => ?_)
    refine lv_iconst (v := nI 1) hx hb dX11_greedy_19 rfl ?_
    refine lv_istore_n (lv' := [(3, .int (nI 1)), (2, .int (nI 0)), (0, .ref (lo (0))), (1, .int (nI r1))]) hx hb dX11_greedy_20 rfl hl (by decide) rfl (fun ls hl => ?_)
    have L21_2 : ∀ (n_ : Nat) (s : Nat) (mo : Nat) (i : Nat), ((mo = 1 ∧ s = g_it S r1 i ∧ ∀ j, j < i → g_nx S r1 (g_it S r1 j) (sn S 1) ≠ 0) ∨ (mo = 0 ∧ s = g_it S r1 (sn S 1))) → (if mo = 0 then 0 else sn S 1 + 1 - i) < n_ → ∀ (H : Heap) (locs : List Loc) (ls : Array Slot), x_D AA G ss.heap lo (mco G lo (nS S) (mS S m1)) H locs → lv_has ls 12 [(3, .int (nI mo)), (2, .int (nI s)), (0, .ref (lo (0))), (1, .int (nI r1))] → x_ww l 9 0 0 pp ee ss mm av bb mt cd G po AA H locs 0 0 21 ls [] := by
      intro n_
      induction n_ with
      | zero => intro s mo i hinv hm_ H locs ls hW hl; exact absurd hm_ (Nat.not_lt_zero _)
      | succ n_ ih21_2 =>
        intro s mo i hinv hm_ H locs ls hW hl
        have hw := hW.1
        have hmo1 : mo ≤ 1 := by rcases hinv with q | q; omega; omega
        have hmo_ := hm_
        refine lv_iload_n hx hb dX11_greedy_21 rfl (lv_at hl 0 rfl) ?_
        refine x_ifN_eq (tgt := 193) cx dX11_greedy_22 (by decide) (by omega) (fun h22_3 => ?_) (fun h22_3 => ?_)
        · skip
          refine lv_iload_n hx hb dX11_greedy_193 rfl (lv_at hl 1 rfl) ?_
          exact y_iret cx hW hr hlk ⟨by decide, by decide⟩ dX11_greedy_194 (by rw [← hpo]; refine ⟨?_, rfl, m1, hM1, rfl⟩; rw [P_greedy, if_pos (by assumption), hr1e, nI_clamp (by omega)]; rcases hinv with q | q; omega; rw [q.2])
        · skip
          obtain ⟨hs, hall⟩ : s = g_it S r1 i ∧ ∀ j, j < i → g_nx S r1 (g_it S r1 j) (sn S 1) ≠ 0 := by rcases hinv with q | q; exact q.2; exact absurd q.1 (by assumption)
          have hil := g_it_le hall
          have hsl : s < 2 ^ sn S 1 := by rw [hs]; exact g_it_lt r1 i
          refine lv_aload_n hx hb dX11_greedy_25 rfl (lv_at hl 2 rfl) ?_
          refine lv_iload_n hx hb dX11_greedy_26 rfl (lv_at hl 1 rfl) ?_
          refine x_rdV (av := [.int (nI s)]) (rest := []) cx hk hw (rfl) cv_RX11_214_10 (m_totW S m1 hm1 hS hM1 hWk1 s (by omega)) hl.1 rfl rfl (Nat.le_of_ble_eq_true rfl) ⟨by decide, by decide⟩ ⟨Nat.zero_le _, Nat.zero_le _⟩ dX11_greedy_27 ?_
          refine lv_lstore (lv' := [(4, .long (lN (m_tot S s))), (3, .int (nI mo)), (2, .int (nI s)), (0, .ref (lo (0))), (1, .int (nI r1))]) hx hb dX11_greedy_30 hl (by decide) rfl (fun ls hl => ?_)
          refine lv_iconst (v := (-1)) hx hb dX11_greedy_32 rfl ?_
          refine lv_istore (lv' := [(6, .int ((-1))), (4, .long (lN (m_tot S s))), (3, .int (nI mo)), (2, .int (nI s)), (0, .ref (lo (0))), (1, .int (nI r1))]) hx hb dX11_greedy_33 hl (by decide) rfl (fun ls hl => ?_)
          refine lv_lconst (v := lN 0) hx hb dX11_greedy_35 rfl ?_
          refine lv_lstore (lv' := [(7, .long (lN 0)), (6, .int ((-1))), (4, .long (lN (m_tot S s))), (3, .int (nI mo)), (2, .int (nI s)), (0, .ref (lo (0))), (1, .int (nI r1))]) hx hb dX11_greedy_36 hl (by decide) rfl (fun ls hl => ?_)
          refine lv_iconst (v := nI 0) hx hb dX11_greedy_38 rfl ?_
          refine lv_istore (lv' := [(9, .int (nI 0)), (7, .long (lN 0)), (6, .int ((-1))), (4, .long (lN (m_tot S s))), (3, .int (nI mo)), (2, .int (nI s)), (0, .ref (lo (0))), (1, .int (nI r1))]) hx hb dX11_greedy_39 hl (by decide) rfl (fun ls hl => ?_)
          have L41_4 : ∀ (n_ : Nat) (b : Nat) (sv : Int64) (a : Nat), (a ≤ sn S 1) → (b = g_nx S r1 s a) → (sv = lN (m_tot S s) - lN (if b = 0 then m_tot S s else m_tot S (s ||| 2 ^ (b - 1)))) → sn S 1 - a < n_ → ∀ (H : Heap) (locs : List Loc) (ls : Array Slot), x_D AA G ss.heap lo (mco G lo (nS S) (mS S m1)) H locs → lv_has ls 12 [(9, .int (nI a)), (7, .long (sv)), (6, .int (nO b)), (4, .long (lN (m_tot S s))), (3, .int (nI mo)), (2, .int (nI s)), (0, .ref (lo (0))), (1, .int (nI r1))] → x_ww l 9 0 0 pp ee ss mm av bb mt cd G po AA H locs 0 0 41 ls [] := by
            intro n_
            induction n_ with
            | zero => intro b sv a ha hbb hsv hm_ H locs ls hW hl; exact absurd hm_ (Nat.not_lt_zero _)
            | succ n_ ih41_4 =>
              intro b sv a ha hbb hsv hm_ H locs ls hW hl
              have hw := hW.1
              refine lv_iload hx hb dX11_greedy_41 (lv_at hl 0 rfl) ?_
              refine lv_aload_n hx hb dX11_greedy_43 rfl (lv_at hl 6 rfl) ?_
              refine x_get cx hk hw (rfl) f_RX11_123_10 rfl dX11_greedy_44 ?_
              refine x_icmp_ge (tgt := 167) cx dX11_greedy_47 (by decide) (by omega) (fun h47_5 => ?_) (fun h47_5 => ?_)
              · skip
                have hbl2 := (g_nx_le S r1 s a).1
                refine lv_iload hx hb dX11_greedy_167 (lv_at hl 2 rfl) ?_
                refine lv_iconst (v := (-1)) hx hb dX11_greedy_169 rfl ?_
                have J178_6 : ∀ (y6_s0 : Nat) (ey6_s0 : y6_s0 = if b = 0 then 0 else 1) (ls : Array Slot), lv_has ls 12 [(9, .int (nI a)), (7, .long (sv)), (6, .int (nO b)), (4, .long (lN (m_tot S s))), (3, .int (nI mo)), (2, .int (nI s)), (0, .ref (lo (0))), (1, .int (nI r1))] → x_ww l 9 0 0 pp ee ss mm av bb mt cd G po AA H locs 0 0 178 ls [.int (nI y6_s0)] := by
                  intro y6_s0 ey6_s0 ls hl
                  have dy6_s0 : (b = 0 ∧ (y6_s0 = 0)) ∨ (¬ (b = 0) ∧ (y6_s0 = 1)) := by rw [ey6_s0]; repeat' (first | (exact rfl) | (split <;> first | (refine Or.inl ⟨by assumption, ?_⟩) | (refine Or.inr ⟨by assumption, ?_⟩)))
                  refine lv_istore_n (lv' := [(3, .int (nI y6_s0)), (9, .int (nI a)), (7, .long (sv)), (6, .int (nO b)), (4, .long (lN (m_tot S s))), (2, .int (nI s)), (0, .ref (lo (0))), (1, .int (nI r1))]) hx hb dX11_greedy_178 rfl hl (by decide) rfl (fun ls hl => ?_)
                  refine lv_iload_n hx hb dX11_greedy_179 rfl (lv_at hl 0 rfl) ?_
                  have J190_7 : ∀ (y7_l2 : Nat) (ey7_l2 : y7_l2 = if y6_s0 = 0 then s else (s ||| (2 ^ (b - 1)))) (ls : Array Slot), lv_has ls 12 [(3, .int (nI y6_s0)), (9, .int (nI a)), (7, .long (sv)), (6, .int (nO b)), (4, .long (lN (m_tot S s))), (2, .int (nI y7_l2)), (0, .ref (lo (0))), (1, .int (nI r1))] → x_ww l 9 0 0 pp ee ss mm av bb mt cd G po AA H locs 0 0 190 ls [] := by
                    intro y7_l2 ey7_l2 ls hl
                    have dy7_l2 : (y6_s0 = 0 ∧ (y7_l2 = s)) ∨ (¬ (y6_s0 = 0) ∧ (y7_l2 = (s ||| (2 ^ (b - 1))))) := by rw [ey7_l2]; repeat' (first | (exact rfl) | (split <;> first | (refine Or.inl ⟨by assumption, ?_⟩) | (refine Or.inr ⟨by assumption, ?_⟩)))
                    refine lv_goto (tgt := 21) hx hb dX11_greedy_190 (by decide) ?_
                    exact ih21_2 y7_l2 y6_s0 (i + 1) (by exact g_out hs hall (hbb.trans (by rw [show a = sn S 1 by omega])) (by assumption) (by assumption)) (by rw [if_neg (by assumption : ¬ mo = 0)] at hmo_; split <;> omega) _ _ _ hW (lv_sub hl [0, 5, 6, 7] rfl)
                  refine x_ifN_eq (tgt := 190) cx dX11_greedy_180 (by decide) (by omega) (fun h180_8 => ?_) (fun h180_8 => ?_)
                  · skip
                    exact J190_7 s (by rw [if_pos h180_8]) _ (lv_sub hl [0, 1, 2, 3, 4, 5, 6, 7] rfl)
                  · skip
                    refine lv_iload_n hx hb dX11_greedy_183 rfl (lv_at hl 5 rfl) ?_
                    refine lv_iconst (v := nI 1) hx hb dX11_greedy_184 rfl ?_
                    refine lv_iload hx hb dX11_greedy_185 (lv_at hl 3 rfl) ?_
                    rw [nO_s (k := b) (by first | assumption | (intro z_; simp_all))]
                    refine x_ishlB cx (by omega) dX11_greedy_187 ?_
                    refine x_iorB cx dX11_greedy_188 ?_
                    refine lv_istore_n (lv' := [(2, .int (nI (s ||| (2 ^ (b - 1))))), (3, .int (nI y6_s0)), (9, .int (nI a)), (7, .long (sv)), (6, .int (nO b)), (4, .long (lN (m_tot S s))), (0, .ref (lo (0))), (1, .int (nI r1))]) hx hb dX11_greedy_189 rfl hl (by decide) rfl (fun ls hl => ?_)
                    exact J190_7 (s ||| (2 ^ (b - 1))) (by rw [if_neg h180_8]) _ (lv_sub hl [1, 2, 3, 4, 5, 0, 6, 7] rfl)
                refine x_icmpO1_eq (tgt := 177) cx dX11_greedy_170 (by decide) (by omega) (fun h170_9 => ?_) (fun h170_9 => ?_)
                · skip
                  refine lv_iconst (v := nI 0) hx hb dX11_greedy_177 rfl ?_
                  exact J178_6 0 (by rw [if_pos h170_9]) _ (lv_sub hl [0, 1, 2, 3, 4, 5, 6, 7] rfl)
                · skip
                  refine lv_iconst (v := nI 1) hx hb dX11_greedy_173 rfl ?_
                  refine lv_goto (tgt := 178) hx hb dX11_greedy_174 (by decide) ?_
                  exact J178_6 1 (by rw [if_neg h170_9]) _ (lv_sub hl [0, 1, 2, 3, 4, 5, 6, 7] rfl)
              · skip
                have hor : s ||| 2 ^ a < 2 ^ sn S 1 := or_lt hsl (by omega)
                have hbl := (g_nx_le S r1 s a).1
                have hrs := m_rs_le (S := S) (s := s ||| 2 ^ a) hS (Nat.le_refl _)
                have hsa := m_sp_le hS (a := a) (by omega)
                have hsb : ¬ b = 0 → m_sp S (b - 1) ≤ 780 := fun _ => m_sp_le hS (by omega)
                refine lv_iload_n hx hb dX11_greedy_50 rfl (lv_at hl 5 rfl) ?_
                refine lv_iload hx hb dX11_greedy_51 (lv_at hl 0 rfl) ?_
                refine x_rdS (av := [.int (nI s), .int (nI a)]) (rest := []) cx hk hw cs_RX11_97 (m_isIn s a (by omega) (by omega)) hl.1 rfl rfl (Nat.le_of_ble_eq_true rfl) ⟨by decide, by decide⟩ ⟨Nat.zero_le _, Nat.zero_le _⟩ dX11_greedy_53 ?_
                have J161_10 : ∀ (y10_l7 : Int64) (y10_l6 : Nat) (ey10_l7 : y10_l7 = if (s.testBit a) = true then sv else (if (m_set S (s ||| 2 ^ a)) = true then (if (m_rs S (s ||| (2 ^ a)) (sn S 1)) ≤ r1 then (if (lg_cmp ((lN (m_tot S s)) - (lN (m_tot S (s ||| (2 ^ a))))) (lN 0)) ≤ 0 then sv else (if b = 0 then ((lN (m_tot S s)) - (lN (m_tot S (s ||| (2 ^ a))))) else (if (lg_cmp ((lN (m_tot S s)) - (lN (m_tot S (s ||| (2 ^ a))))) sv) < 0 then sv else (if (lg_cmp ((lN (m_tot S s)) - (lN (m_tot S (s ||| (2 ^ a))))) sv) = 0 then (if (m_sp S a) < (m_sp S (b - 1)) then ((lN (m_tot S s)) - (lN (m_tot S (s ||| (2 ^ a))))) else sv) else ((lN (m_tot S s)) - (lN (m_tot S (s ||| (2 ^ a))))))))) else sv) else sv)) (ey10_l6 : y10_l6 = if (s.testBit a) = true then b else (if (m_set S (s ||| 2 ^ a)) = true then (if (m_rs S (s ||| (2 ^ a)) (sn S 1)) ≤ r1 then (if (lg_cmp ((lN (m_tot S s)) - (lN (m_tot S (s ||| (2 ^ a))))) (lN 0)) ≤ 0 then b else (if b = 0 then (a + 1) else (if (lg_cmp ((lN (m_tot S s)) - (lN (m_tot S (s ||| (2 ^ a))))) sv) < 0 then b else (if (lg_cmp ((lN (m_tot S s)) - (lN (m_tot S (s ||| (2 ^ a))))) sv) = 0 then (if (m_sp S a) < (m_sp S (b - 1)) then (a + 1) else b) else (a + 1))))) else b) else b)) (ls : Array Slot), lv_has ls 12 [(9, .int (nI a)), (7, .long (y10_l7)), (6, .int (nO y10_l6)), (4, .long (lN (m_tot S s))), (3, .int (nI mo)), (2, .int (nI s)), (0, .ref (lo (0))), (1, .int (nI r1))] → x_ww l 9 0 0 pp ee ss mm av bb mt cd G po AA H locs 0 0 161 ls [] := by
                  intro y10_l7 y10_l6 ey10_l7 ey10_l6 ls hl
                  refine lv_iinc (v := nI (a + 1)) (lv' := [(9, .int (nI (a + 1))), (7, .long (y10_l7)), (6, .int (nO y10_l6)), (4, .long (lN (m_tot S s))), (3, .int (nI mo)), (2, .int (nI s)), (0, .ref (lo (0))), (1, .int (nI r1))]) hx hb dX11_greedy_161 hl (k := 0) rfl (nI_add _ 1) (by decide) rfl (fun ls hl => ?_)
                  refine lv_goto (tgt := 41) hx hb dX11_greedy_164 (by decide) ?_
                  exact ih41_4 y10_l6 y10_l7 (a + 1) (by omega) (by rw [g_step hS hbb hsv, ey10_l6]; exact ite_gr (by simp)) (by refine g_sv (a := a) hsv ?_; rw [ey10_l6, ey10_l7]; (repeat' split) <;> first | exact Or.inl ⟨rfl, rfl⟩ | exact Or.inr ⟨rfl, rfl⟩) (by omega) _ _ _ hW (lv_sub hl [0, 1, 2, 3, 4, 5, 6, 7] rfl)
                refine x_if_ne (tgt := 161) cx dX11_greedy_56 (by decide) (fun h56_11 => ?_) (fun h56_11 => ?_)
                · skip
                  exact J161_10 sv b (by rw [if_pos h56_11]) (by rw [if_pos h56_11]) _ (lv_sub hl [0, 1, 2, 3, 4, 5, 6, 7] rfl)
                · skip
                  refine lv_aload_n hx hb dX11_greedy_59 rfl (lv_at hl 6 rfl) ?_
                  refine lv_iload_n hx hb dX11_greedy_60 rfl (lv_at hl 5 rfl) ?_
                  refine lv_iconst (v := nI 1) hx hb dX11_greedy_61 rfl ?_
                  refine lv_iload hx hb dX11_greedy_62 (lv_at hl 0 rfl) ?_
                  refine x_ishlB cx (by omega) dX11_greedy_64 ?_
                  refine x_iorB cx dX11_greedy_65 ?_
                  refine x_rdV (av := [.int (nI (s ||| (2 ^ a)))]) (rest := []) cx hk hw (rfl) cv_RX11_143_10 (m_isSet S m1 hm1 hS (nI (s ||| (2 ^ a)))) hl.1 rfl rfl (Nat.le_of_ble_eq_true rfl) ⟨by decide, by decide⟩ ⟨Nat.zero_le _, Nat.zero_le _⟩ dX11_greedy_66 ?_
                  rw [m_isS_nI hS (by omega), decide_eq_true (by omega : s ||| 2 ^ a < 2 ^ sn S 1), Bool.true_and]
                  refine x_if_eq (tgt := 161) cx dX11_greedy_69 (by decide) (fun h69_12 => ?_) (fun h69_12 => ?_)
                  · skip
                    exact J161_10 sv b (by rw [if_neg (fun q => Bool.noConfusion (h56_11.symm.trans q)), if_neg (fun q => Bool.noConfusion (h69_12.symm.trans q))]) (by rw [if_neg (fun q => Bool.noConfusion (h56_11.symm.trans q)), if_neg (fun q => Bool.noConfusion (h69_12.symm.trans q))]) _ (lv_sub hl [0, 1, 2, 3, 4, 5, 6, 7] rfl)
                  · skip
                    refine lv_aload_n hx hb dX11_greedy_72 rfl (lv_at hl 6 rfl) ?_
                    refine lv_iload_n hx hb dX11_greedy_73 rfl (lv_at hl 5 rfl) ?_
                    refine lv_iconst (v := nI 1) hx hb dX11_greedy_74 rfl ?_
                    refine lv_iload hx hb dX11_greedy_75 (lv_at hl 0 rfl) ?_
                    refine x_ishlB cx (by omega) dX11_greedy_77 ?_
                    refine x_iorB cx dX11_greedy_78 ?_
                    refine x_rdV (av := [.int (nI (s ||| (2 ^ a)))]) (rest := []) cx hk hw (rfl) cv_RX11_208_10 (m_rset S m1 hm1 hS hM1 (s ||| (2 ^ a)) (by omega)) hl.1 rfl rfl (Nat.le_of_ble_eq_true rfl) ⟨by decide, by decide⟩ ⟨Nat.zero_le _, Nat.zero_le _⟩ dX11_greedy_79 ?_
                    refine lv_iload_n hx hb dX11_greedy_82 rfl (lv_at hl 7 rfl) ?_
                    refine x_icmp_le (tgt := 89) cx dX11_greedy_83 (by decide) (by omega) (fun h83_13 => ?_) (fun h83_13 => ?_)
                    · skip
                      refine lv_lload hx hb dX11_greedy_89 (lv_at hl 3 rfl) ?_
                      refine lv_aload_n hx hb dX11_greedy_91 rfl (lv_at hl 6 rfl) ?_
                      refine lv_iload_n hx hb dX11_greedy_92 rfl (lv_at hl 5 rfl) ?_
                      refine lv_iconst (v := nI 1) hx hb dX11_greedy_93 rfl ?_
                      refine lv_iload hx hb dX11_greedy_94 (lv_at hl 0 rfl) ?_
                      refine x_ishlB cx (by omega) dX11_greedy_96 ?_
                      refine x_iorB cx dX11_greedy_97 ?_
                      refine x_rdV (av := [.int (nI (s ||| (2 ^ a)))]) (rest := [.long (lN (m_tot S s))]) cx hk hw (rfl) cv_RX11_214_10 (m_totW S m1 hm1 hS hM1 hWk1 (s ||| (2 ^ a)) (by omega)) hl.1 rfl rfl (Nat.le_of_ble_eq_true rfl) ⟨by decide, by decide⟩ ⟨Nat.zero_le _, Nat.zero_le _⟩ dX11_greedy_98 ?_
                      refine lv_lsub hx hb dX11_greedy_101 ?_
                      refine lv_lstore (lv' := [(10, .long ((lN (m_tot S s)) - (lN (m_tot S (s ||| (2 ^ a)))))), (9, .int (nI a)), (7, .long (sv)), (6, .int (nO b)), (4, .long (lN (m_tot S s))), (3, .int (nI mo)), (2, .int (nI s)), (0, .ref (lo (0))), (1, .int (nI r1))]) hx hb dX11_greedy_102 hl (by decide) rfl (fun ls hl => ?_)
                      refine lv_lload hx hb dX11_greedy_104 (lv_at hl 0 rfl) ?_
                      refine lv_lconst (v := lN 0) hx hb dX11_greedy_106 rfl ?_
                      refine W.lcmp hx hb dX11_greedy_107 ?_
                      refine lv_if_le (tgt := 161) hx hb dX11_greedy_108 (by decide) (fun h108_14 => ?_) (fun h108_14 => ?_)
                      · skip
                        exact J161_10 sv b (by rw [if_neg (fun q => Bool.noConfusion (h56_11.symm.trans q)), if_pos h69_12, if_pos h83_13, if_pos h108_14]) (by rw [if_neg (fun q => Bool.noConfusion (h56_11.symm.trans q)), if_pos h69_12, if_pos h83_13, if_pos h108_14]) _ (lv_sub hl [1, 2, 3, 4, 5, 6, 7, 8] rfl)
                      · skip
                        refine lv_iload hx hb dX11_greedy_111 (lv_at hl 3 rfl) ?_
                        refine lv_iconst (v := (-1)) hx hb dX11_greedy_113 rfl ?_
                        refine x_icmpO1_eq (tgt := 153) cx dX11_greedy_114 (by decide) (by omega) (fun h114_15 => ?_) (fun h114_15 => ?_)
                        · skip
                          refine lv_iload hx hb dX11_greedy_153 (lv_at hl 1 rfl) ?_
                          refine lv_istore (lv' := [(6, .int (nI a)), (10, .long ((lN (m_tot S s)) - (lN (m_tot S (s ||| (2 ^ a)))))), (9, .int (nI a)), (7, .long (sv)), (4, .long (lN (m_tot S s))), (3, .int (nI mo)), (2, .int (nI s)), (0, .ref (lo (0))), (1, .int (nI r1))]) hx hb dX11_greedy_155 hl (by decide) rfl (fun ls hl => ?_)
                          refine lv_lload hx hb dX11_greedy_157 (lv_at hl 1 rfl) ?_
                          refine lv_lstore (lv' := [(7, .long ((lN (m_tot S s)) - (lN (m_tot S (s ||| (2 ^ a)))))), (6, .int (nI a)), (10, .long ((lN (m_tot S s)) - (lN (m_tot S (s ||| (2 ^ a)))))), (9, .int (nI a)), (4, .long (lN (m_tot S s))), (3, .int (nI mo)), (2, .int (nI s)), (0, .ref (lo (0))), (1, .int (nI r1))]) hx hb dX11_greedy_159 hl (by decide) rfl (fun ls hl => ?_)
                          exact J161_10 ((lN (m_tot S s)) - (lN (m_tot S (s ||| (2 ^ a))))) (a + 1) (by rw [if_neg (fun q => Bool.noConfusion (h56_11.symm.trans q)), if_pos h69_12, if_pos h83_13, if_neg h108_14, if_pos h114_15]) (by rw [if_neg (fun q => Bool.noConfusion (h56_11.symm.trans q)), if_pos h69_12, if_pos h83_13, if_neg h108_14, if_pos h114_15]) _ (lv_sub hl [3, 0, 1, 4, 5, 6, 7, 8] rfl)
                        · skip
                          refine lv_lload hx hb dX11_greedy_117 (lv_at hl 0 rfl) ?_
                          refine lv_lload hx hb dX11_greedy_119 (lv_at hl 2 rfl) ?_
                          refine W.lcmp hx hb dX11_greedy_121 ?_
                          refine lv_if_lt (tgt := 161) hx hb dX11_greedy_122 (by decide) (fun h122_16 => ?_) (fun h122_16 => ?_)
                          · skip
                            exact J161_10 sv b (by rw [if_neg (fun q => Bool.noConfusion (h56_11.symm.trans q)), if_pos h69_12, if_pos h83_13, if_neg h108_14, if_neg h114_15, if_pos h122_16]) (by rw [if_neg (fun q => Bool.noConfusion (h56_11.symm.trans q)), if_pos h69_12, if_pos h83_13, if_neg h108_14, if_neg h114_15, if_pos h122_16]) _ (lv_sub hl [1, 2, 3, 4, 5, 6, 7, 8] rfl)
                          · skip
                            refine lv_lload hx hb dX11_greedy_125 (lv_at hl 0 rfl) ?_
                            refine lv_lload hx hb dX11_greedy_127 (lv_at hl 2 rfl) ?_
                            refine W.lcmp hx hb dX11_greedy_129 ?_
                            refine lv_if_ne (tgt := 153) hx hb dX11_greedy_130 (by decide) (fun h130_17 => ?_) (fun h130_17 => ?_)
                            · skip
                              refine lv_iload hx hb dX11_greedy_153 (lv_at hl 1 rfl) ?_
                              refine lv_istore (lv' := [(6, .int (nI a)), (10, .long ((lN (m_tot S s)) - (lN (m_tot S (s ||| (2 ^ a)))))), (9, .int (nI a)), (7, .long (sv)), (4, .long (lN (m_tot S s))), (3, .int (nI mo)), (2, .int (nI s)), (0, .ref (lo (0))), (1, .int (nI r1))]) hx hb dX11_greedy_155 hl (by decide) rfl (fun ls hl => ?_)
                              refine lv_lload hx hb dX11_greedy_157 (lv_at hl 1 rfl) ?_
                              refine lv_lstore (lv' := [(7, .long ((lN (m_tot S s)) - (lN (m_tot S (s ||| (2 ^ a)))))), (6, .int (nI a)), (10, .long ((lN (m_tot S s)) - (lN (m_tot S (s ||| (2 ^ a)))))), (9, .int (nI a)), (4, .long (lN (m_tot S s))), (3, .int (nI mo)), (2, .int (nI s)), (0, .ref (lo (0))), (1, .int (nI r1))]) hx hb dX11_greedy_159 hl (by decide) rfl (fun ls hl => ?_)
                              exact J161_10 ((lN (m_tot S s)) - (lN (m_tot S (s ||| (2 ^ a))))) (a + 1) (by rw [if_neg (fun q => Bool.noConfusion (h56_11.symm.trans q)), if_pos h69_12, if_pos h83_13, if_neg h108_14, if_neg h114_15, if_neg h122_16, if_neg h130_17]) (by rw [if_neg (fun q => Bool.noConfusion (h56_11.symm.trans q)), if_pos h69_12, if_pos h83_13, if_neg h108_14, if_neg h114_15, if_neg h122_16, if_neg h130_17]) _ (lv_sub hl [3, 0, 1, 4, 5, 6, 7, 8] rfl)
                            · skip
                              refine lv_aload_n hx hb dX11_greedy_133 rfl (lv_at hl 7 rfl) ?_
                              refine x_get cx hk hw (rfl) f_RX11_86_10 rfl dX11_greedy_134 ?_
                              refine lv_iload hx hb dX11_greedy_137 (lv_at hl 1 rfl) ?_
                              refine x_ialdE (x := nI (m_sp S a)) cx hk hw (show mco G lo (nS S) (mS S m1) 29 = some (.inl (G.2 0, 12, .inl ((mS S m1) 29))) from rfl) (by omega) (by decide) (hWk1.2 a (by omega)) dX11_greedy_139 ?_
                              refine lv_aload_n hx hb dX11_greedy_140 rfl (lv_at hl 7 rfl) ?_
                              refine x_get cx hk hw (rfl) f_RX11_86_10 rfl dX11_greedy_141 ?_
                              refine lv_iload hx hb dX11_greedy_144 (lv_at hl 3 rfl) ?_
                              rw [nO_s (k := b) (by first | assumption | (intro z_; simp_all))]
                              refine x_ialdE (x := nI (m_sp S (b - 1))) cx hk hw (show mco G lo (nS S) (mS S m1) 29 = some (.inl (G.2 0, 12, .inl ((mS S m1) 29))) from rfl) (by omega) (by decide) (hWk1.2 (b - 1) (by omega)) dX11_greedy_146 ?_
                              have hsb2 := hsb (by assumption)
                              refine x_icmp_lt (tgt := 153) cx dX11_greedy_147 (by decide) (by omega) (fun h147_18 => ?_) (fun h147_18 => ?_)
                              · skip
                                refine lv_iload hx hb dX11_greedy_153 (lv_at hl 1 rfl) ?_
                                refine lv_istore (lv' := [(6, .int (nI a)), (10, .long ((lN (m_tot S s)) - (lN (m_tot S (s ||| (2 ^ a)))))), (9, .int (nI a)), (7, .long (sv)), (4, .long (lN (m_tot S s))), (3, .int (nI mo)), (2, .int (nI s)), (0, .ref (lo (0))), (1, .int (nI r1))]) hx hb dX11_greedy_155 hl (by decide) rfl (fun ls hl => ?_)
                                refine lv_lload hx hb dX11_greedy_157 (lv_at hl 1 rfl) ?_
                                refine lv_lstore (lv' := [(7, .long ((lN (m_tot S s)) - (lN (m_tot S (s ||| (2 ^ a)))))), (6, .int (nI a)), (10, .long ((lN (m_tot S s)) - (lN (m_tot S (s ||| (2 ^ a)))))), (9, .int (nI a)), (4, .long (lN (m_tot S s))), (3, .int (nI mo)), (2, .int (nI s)), (0, .ref (lo (0))), (1, .int (nI r1))]) hx hb dX11_greedy_159 hl (by decide) rfl (fun ls hl => ?_)
                                exact J161_10 ((lN (m_tot S s)) - (lN (m_tot S (s ||| (2 ^ a))))) (a + 1) (by rw [if_neg (fun q => Bool.noConfusion (h56_11.symm.trans q)), if_pos h69_12, if_pos h83_13, if_neg h108_14, if_neg h114_15, if_neg h122_16, if_pos h130_17, if_pos h147_18]) (by rw [if_neg (fun q => Bool.noConfusion (h56_11.symm.trans q)), if_pos h69_12, if_pos h83_13, if_neg h108_14, if_neg h114_15, if_neg h122_16, if_pos h130_17, if_pos h147_18]) _ (lv_sub hl [3, 0, 1, 4, 5, 6, 7, 8] rfl)
                              · skip
                                refine lv_goto (tgt := 161) hx hb dX11_greedy_150 (by decide) ?_
                                exact J161_10 sv b (by rw [if_neg (fun q => Bool.noConfusion (h56_11.symm.trans q)), if_pos h69_12, if_pos h83_13, if_neg h108_14, if_neg h114_15, if_neg h122_16, if_pos h130_17, if_neg h147_18]) (by rw [if_neg (fun q => Bool.noConfusion (h56_11.symm.trans q)), if_pos h69_12, if_pos h83_13, if_neg h108_14, if_neg h114_15, if_neg h122_16, if_pos h130_17, if_neg h147_18]) _ (lv_sub hl [1, 2, 3, 4, 5, 6, 7, 8] rfl)
                    · skip
                      refine lv_goto (tgt := 161) hx hb dX11_greedy_86 (by decide) ?_
                      exact J161_10 sv b (by rw [if_neg (fun q => Bool.noConfusion (h56_11.symm.trans q)), if_pos h69_12, if_neg h83_13]) (by rw [if_neg (fun q => Bool.noConfusion (h56_11.symm.trans q)), if_pos h69_12, if_neg h83_13]) _ (lv_sub hl [0, 1, 2, 3, 4, 5, 6, 7] rfl)
          exact L41_4 (_ + 1) 0 (lN 0) 0 (by omega) (by rfl) (by rw [if_pos rfl]; exact (lNd_0 _).symm) (Nat.lt_succ_self _) _ _ _ hW (lv_sub hl [0, 1, 2, 3, 4, 5, 6, 7] rfl)
    exact L21_2 (_ + 1) 0 1 0 (by exact Or.inl ⟨rfl, rfl, fun j hj => absurd hj (Nat.not_lt_zero j)⟩) (Nat.lt_succ_self _) _ _ _ hW (lv_sub hl [0, 1, 2, 3] rfl)
  · skip
    refine lv_iconst (v := (-1)) hx hb dX11_greedy_11 rfl ?_
    exact y_iret cx hW hr hlk ⟨by decide, by decide⟩ dX11_greedy_12 (by rw [← hpo]; exact ⟨by rw [P_greedy, if_neg (by simp [*])], rfl, m, hM, rfl⟩)
