set_option maxHeartbeats 4000000 in
set_option maxRecDepth 100000 in
theorem k_model {l : Launch} {G : x_G} {lo : x_L} {co : x_C} (hb_ : co 0 = some (.inr (10, [.null, .null, .null, .null, .null, .null, .null, .null, .null, .int (nI 0), .null, .null, .null, .null, .null, .null, .null, .int (nI 0), .int (nI 0), .null, .null, .null, .null, .null, .null, .null, .null, .null, .null]))) (hn_ : ∀ i, i ≠ 0 → co i = none) : x_Wr l G lo co yX11_init cX11_init 1 none 1 26 2400 [.ref (lo 0)] (fun (v : Option Value) (lo1 : x_L) (co1 : x_C) => v = none ∧ lo1 0 = lo 0 ∧ co1 = mco G lo1 (fun _ => nI 0) (fun _ _ => nI 0)) := by
  refine x_wenter RX11 rfl (by decide) (Nat.le_of_ble_eq_true rfl) ?_
  intro pp ee ss mm bb mt cd ls AA cx hk hW hA hr hlk hnm hl
  have hl : lv_has ls 1 [(0, .ref (lo 0))] := hl
  generalize hav : ([.ref (lo 0)] : List Value).toArray = av at cx ⊢
  generalize hpo : (fun (v : Option Value) (lo1 : x_L) (co1 : x_C) => v = none ∧ lo1 0 = lo 0 ∧ co1 = mco G lo1 (fun _ => nI 0) (fun _ _ => nI 0)) = po
  have hx := cx.1
  have hb := cx.2.1
  obtain ⟨lo1, hlu, hlo1⟩ := x_losF lo m_rank ss.heap.size
  have hW := hW.relo (lo1 := lo1) (fun i hi => by by_cases e : i = 0; (subst e; exact hlo1 0 rfl); exact absurd (hn_ i e) hi)
  rw [show lo 0 = lo1 0 from (hlo1 0 rfl).symm] at hl
  have hz : ss.heap.size = ss.heap.size + 0 := rfl
  have hP : mP G lo1 0 co := mP_0 hb_ hn_
  refine lv_aload_n hx hb dX11_init_0 rfl (lv_at hl 0 rfl) ?_
  refine x_oi cx hl.1 w_871 w_29 w_30 ⟨by decide, by decide⟩ dX11_init_1 ?_
  refine lv_aload_n hx hb dX11_init_4 rfl (lv_at hl 0 rfl) ?_
  refine lv_iconst (v := nI 4) hx hb dX11_init_5 rfl ?_
  refine m_step 0 1 0 7 cx hk hW hA hP hz (hlu 1 0 rfl) rfl (by decide) p_RX11_7_10 (hnm.trans rfl) (by decide) rfl w_98 (by decide) (by decide) dX11_init_6 dX11_init_8 (fun co H locs hP hz hW => ?_)
  refine lv_aload_n hx hb dX11_init_11 rfl (lv_at hl 0 rfl) ?_
  refine lv_iconst (v := nI 4) hx hb dX11_init_12 rfl ?_
  refine m_step 1 2 1 13 cx hk hW hA hP hz (hlu 2 1 rfl) rfl (by decide) p_RX11_13_10 (hnm.trans rfl) (by decide) rfl w_98 (by decide) (by decide) dX11_init_13 dX11_init_15 (fun co H locs hP hz hW => ?_)
  refine lv_aload_n hx hb dX11_init_18 rfl (lv_at hl 0 rfl) ?_
  refine lv_iconst (v := nI 4) hx hb dX11_init_19 rfl ?_
  refine m_step 2 3 2 16 cx hk hW hA hP hz (hlu 3 2 rfl) rfl (by decide) p_RX11_16_10 (hnm.trans rfl) (by decide) rfl w_98 (by decide) (by decide) dX11_init_20 dX11_init_22 (fun co H locs hP hz hW => ?_)
  refine lv_aload_n hx hb dX11_init_25 rfl (lv_at hl 0 rfl) ?_
  refine lv_sipush (v := nI 960) hx hb dX11_init_26 rfl ?_
  refine m_step 3 4 3 19 cx hk hW hA hP hz (hlu 4 3 rfl) rfl (by decide) p_RX11_19_10 (hnm.trans rfl) (by decide) rfl w_98 (by decide) (by decide) dX11_init_29 dX11_init_31 (fun co H locs hP hz hW => ?_)
  refine lv_aload_n hx hb dX11_init_34 rfl (lv_at hl 0 rfl) ?_
  refine lv_iconst (v := nI 4) hx hb dX11_init_35 rfl ?_
  refine m_step 4 5 4 22 cx hk hW hA hP hz (hlu 5 4 rfl) rfl (by decide) p_RX11_22_10 (hnm.trans rfl) (by decide) rfl w_98 (by decide) (by decide) dX11_init_36 dX11_init_38 (fun co H locs hP hz hW => ?_)
  refine lv_aload_n hx hb dX11_init_41 rfl (lv_at hl 0 rfl) ?_
  refine lv_bipush (v := nI 16) hx hb dX11_init_42 rfl ?_
  refine m_step 5 6 5 25 cx hk hW hA hP hz (hlu 6 5 rfl) rfl (by decide) p_RX11_25_10 (hnm.trans rfl) (by decide) rfl w_98 (by decide) (by decide) dX11_init_44 dX11_init_46 (fun co H locs hP hz hW => ?_)
  refine lv_aload_n hx hb dX11_init_49 rfl (lv_at hl 0 rfl) ?_
  refine lv_bipush (v := nI 16) hx hb dX11_init_50 rfl ?_
  refine m_step 6 7 6 28 cx hk hW hA hP hz (hlu 7 6 rfl) rfl (by decide) p_RX11_28_10 (hnm.trans rfl) (by decide) rfl w_98 (by decide) (by decide) dX11_init_52 dX11_init_54 (fun co H locs hP hz hW => ?_)
  refine lv_aload_n hx hb dX11_init_57 rfl (lv_at hl 0 rfl) ?_
  refine lv_bipush (v := nI 16) hx hb dX11_init_58 rfl ?_
  refine m_step 7 8 7 31 cx hk hW hA hP hz (hlu 8 7 rfl) rfl (by decide) p_RX11_31_10 (hnm.trans rfl) (by decide) rfl w_98 (by decide) (by decide) dX11_init_60 dX11_init_62 (fun co H locs hP hz hW => ?_)
  refine lv_aload_n hx hb dX11_init_65 rfl (lv_at hl 0 rfl) ?_
  refine lv_iconst (v := nI 4) hx hb dX11_init_66 rfl ?_
  refine m_step 8 9 8 34 cx hk hW hA hP hz (hlu 9 8 rfl) rfl (by decide) p_RX11_34_10 (hnm.trans rfl) (by decide) rfl w_98 (by decide) (by decide) dX11_init_67 dX11_init_69 (fun co H locs hP hz hW => ?_)
  refine lv_aload_n hx hb dX11_init_72 rfl (lv_at hl 0 rfl) ?_
  refine lv_bipush (v := nI 24) hx hb dX11_init_73 rfl ?_
  refine m_step 9 11 10 37 cx hk hW hA hP hz (hlu 11 9 rfl) rfl (by decide) p_RX11_37_10 (hnm.trans rfl) (by decide) rfl w_98 (by decide) (by decide) dX11_init_75 dX11_init_77 (fun co H locs hP hz hW => ?_)
  refine lv_aload_n hx hb dX11_init_80 rfl (lv_at hl 0 rfl) ?_
  refine lv_bipush (v := nI 24) hx hb dX11_init_81 rfl ?_
  refine m_step 10 12 11 40 cx hk hW hA hP hz (hlu 12 10 rfl) rfl (by decide) p_RX11_40_10 (hnm.trans rfl) (by decide) rfl w_98 (by decide) (by decide) dX11_init_83 dX11_init_85 (fun co H locs hP hz hW => ?_)
  refine lv_aload_n hx hb dX11_init_88 rfl (lv_at hl 0 rfl) ?_
  refine lv_bipush (v := nI 24) hx hb dX11_init_89 rfl ?_
  refine m_step 11 13 12 43 cx hk hW hA hP hz (hlu 13 11 rfl) rfl (by decide) p_RX11_43_10 (hnm.trans rfl) (by decide) rfl w_98 (by decide) (by decide) dX11_init_91 dX11_init_93 (fun co H locs hP hz hW => ?_)
  refine lv_aload_n hx hb dX11_init_96 rfl (lv_at hl 0 rfl) ?_
  refine lv_bipush (v := nI 24) hx hb dX11_init_97 rfl ?_
  refine m_step 12 14 13 46 cx hk hW hA hP hz (hlu 14 12 rfl) rfl (by decide) p_RX11_46_10 (hnm.trans rfl) (by decide) rfl w_98 (by decide) (by decide) dX11_init_99 dX11_init_101 (fun co H locs hP hz hW => ?_)
  refine lv_aload_n hx hb dX11_init_104 rfl (lv_at hl 0 rfl) ?_
  refine lv_bipush (v := nI 96) hx hb dX11_init_105 rfl ?_
  refine m_stepZ 13 15 14 49 cx hk hW hA hP hz (hlu 15 13 rfl) rfl (by decide) p_RX11_49_10 (hnm.trans rfl) (by decide) rfl w_960 (by decide) (by decide) dX11_init_107 dX11_init_109 (fun co H locs hP hz hW => ?_)
  refine lv_aload_n hx hb dX11_init_112 rfl (lv_at hl 0 rfl) ?_
  refine lv_bipush (v := nI 96) hx hb dX11_init_113 rfl ?_
  refine m_step 14 16 15 53 cx hk hW hA hP hz (hlu 16 14 rfl) rfl (by decide) p_RX11_53_10 (hnm.trans rfl) (by decide) rfl w_98 (by decide) (by decide) dX11_init_115 dX11_init_117 (fun co H locs hP hz hW => ?_)
  refine lv_aload_n hx hb dX11_init_120 rfl (lv_at hl 0 rfl) ?_
  refine lv_bipush (v := nI 96) hx hb dX11_init_121 rfl ?_
  refine m_step 15 17 16 56 cx hk hW hA hP hz (hlu 17 15 rfl) rfl (by decide) p_RX11_56_10 (hnm.trans rfl) (by decide) rfl w_98 (by decide) (by decide) dX11_init_123 dX11_init_125 (fun co H locs hP hz hW => ?_)
  refine lv_aload_n hx hb dX11_init_128 rfl (lv_at hl 0 rfl) ?_
  refine lv_bipush (v := nI 12) hx hb dX11_init_129 rfl ?_
  refine m_step 16 20 19 59 cx hk hW hA hP hz (hlu 20 16 rfl) rfl (by decide) p_RX11_59_10 (hnm.trans rfl) (by decide) rfl w_98 (by decide) (by decide) dX11_init_131 dX11_init_133 (fun co H locs hP hz hW => ?_)
  refine lv_aload_n hx hb dX11_init_136 rfl (lv_at hl 0 rfl) ?_
  refine lv_bipush (v := nI 12) hx hb dX11_init_137 rfl ?_
  refine m_step 17 21 20 62 cx hk hW hA hP hz (hlu 21 17 rfl) rfl (by decide) p_RX11_62_10 (hnm.trans rfl) (by decide) rfl w_98 (by decide) (by decide) dX11_init_139 dX11_init_141 (fun co H locs hP hz hW => ?_)
  refine lv_aload_n hx hb dX11_init_144 rfl (lv_at hl 0 rfl) ?_
  refine lv_bipush (v := nI 12) hx hb dX11_init_145 rfl ?_
  refine m_step 18 22 21 65 cx hk hW hA hP hz (hlu 22 18 rfl) rfl (by decide) p_RX11_65_10 (hnm.trans rfl) (by decide) rfl w_98 (by decide) (by decide) dX11_init_147 dX11_init_149 (fun co H locs hP hz hW => ?_)
  refine lv_aload_n hx hb dX11_init_152 rfl (lv_at hl 0 rfl) ?_
  refine lv_bipush (v := nI 36) hx hb dX11_init_153 rfl ?_
  refine m_step 19 23 22 68 cx hk hW hA hP hz (hlu 23 19 rfl) rfl (by decide) p_RX11_68_10 (hnm.trans rfl) (by decide) rfl w_98 (by decide) (by decide) dX11_init_155 dX11_init_157 (fun co H locs hP hz hW => ?_)
  refine lv_aload_n hx hb dX11_init_160 rfl (lv_at hl 0 rfl) ?_
  refine lv_bipush (v := nI 12) hx hb dX11_init_161 rfl ?_
  refine m_step 20 24 23 71 cx hk hW hA hP hz (hlu 24 20 rfl) rfl (by decide) p_RX11_71_10 (hnm.trans rfl) (by decide) rfl w_98 (by decide) (by decide) dX11_init_163 dX11_init_165 (fun co H locs hP hz hW => ?_)
  refine lv_aload_n hx hb dX11_init_168 rfl (lv_at hl 0 rfl) ?_
  refine lv_bipush (v := nI 12) hx hb dX11_init_169 rfl ?_
  refine m_step 21 25 24 74 cx hk hW hA hP hz (hlu 25 21 rfl) rfl (by decide) p_RX11_74_10 (hnm.trans rfl) (by decide) rfl w_98 (by decide) (by decide) dX11_init_171 dX11_init_173 (fun co H locs hP hz hW => ?_)
  refine lv_aload_n hx hb dX11_init_176 rfl (lv_at hl 0 rfl) ?_
  refine lv_bipush (v := nI 12) hx hb dX11_init_177 rfl ?_
  refine m_step 22 26 25 77 cx hk hW hA hP hz (hlu 26 22 rfl) rfl (by decide) p_RX11_77_10 (hnm.trans rfl) (by decide) rfl w_98 (by decide) (by decide) dX11_init_179 dX11_init_181 (fun co H locs hP hz hW => ?_)
  refine lv_aload_n hx hb dX11_init_184 rfl (lv_at hl 0 rfl) ?_
  refine lv_bipush (v := nI 12) hx hb dX11_init_185 rfl ?_
  refine m_step 23 27 26 80 cx hk hW hA hP hz (hlu 27 23 rfl) rfl (by decide) p_RX11_80_10 (hnm.trans rfl) (by decide) rfl w_98 (by decide) (by decide) dX11_init_187 dX11_init_189 (fun co H locs hP hz hW => ?_)
  refine lv_aload_n hx hb dX11_init_192 rfl (lv_at hl 0 rfl) ?_
  refine lv_sipush (v := nI 312) hx hb dX11_init_193 rfl ?_
  refine m_step 24 28 27 83 cx hk hW hA hP hz (hlu 28 24 rfl) rfl (by decide) p_RX11_83_10 (hnm.trans rfl) (by decide) rfl w_98 (by decide) (by decide) dX11_init_196 dX11_init_198 (fun co H locs hP hz hW => ?_)
  refine lv_aload_n hx hb dX11_init_201 rfl (lv_at hl 0 rfl) ?_
  refine lv_bipush (v := nI 12) hx hb dX11_init_202 rfl ?_
  refine m_step 25 29 28 86 cx hk hW hA hP hz (hlu 29 25 rfl) rfl (by decide) p_RX11_86_10 (hnm.trans rfl) (by decide) rfl w_98 (by decide) (by decide) dX11_init_204 dX11_init_206 (fun co H locs hP hz hW => ?_)
  exact y_vret cx hW hr hlk ⟨by decide, by decide⟩ dX11_init_209 (by rw [← hpo]; exact ⟨rfl, hlo1 0 rfl, mP_e hP⟩)
