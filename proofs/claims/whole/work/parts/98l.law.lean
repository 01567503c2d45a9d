/-! the law's cases -/
theorem lg_cmp_self (x : Int64) : lg_cmp x x = 0 := by simp [lg_cmp]
section XW41
variable {p : Program} {l : Launch} {e : Env} {R : Room} {s : State} {m : MethodId} {args : Array Value} {below : List Frame} {meth : Method} {c : Code} {H : Heap} {locs : List Loc} {cells slots : Nat} {Q : State → Prop}
variable {cc : ByteArray} {pc : Nat} {ls : Array Slot} {rest : List Value} {nL : Nat} {own : String}
theorem l_bool {x : Int32} {o1 o2 : Int} {z1 z2 : Int} (cx : CallFix p m c cc nL s args x_gw own) (h0 : decode cc pc = .ok (.ifCond .eq o1, 3)) (h1 : decode cc (pc + 3) = .ok (.iconst z1, 1)) (h2 : decode cc (pc + 4) = .ok (.goto o2, 3)) (h3 : decode cc (pc + 7) = .ok (.iconst z2, 1)) (hz : z1 = 1 ∧ z2 = 0 ∧ o1 = 7 ∧ o2 = 4)
    (kk : W p l e R s m args below meth c H locs cells slots Q (F0 m (pc + 8) ls (.int (bI (!decide (x = 0))) :: rest))) : W p l e R s m args below meth c H locs cells slots Q (F0 m pc ls (.int x :: rest)) := by
  obtain ⟨rfl, rfl, rfl, rfl⟩ := hz
  refine lv_if_eq (tgt := pc + 7) cx.1 cx.2.1 h0 (by omega) (fun h => ?_) (fun h => ?_)
  · refine lv_iconst (v := nI 0) cx.1 cx.2.1 h3 rfl ?_
    rw [h] at kk
    exact kk
  · refine lv_iconst (v := nI 1) cx.1 cx.2.1 h1 rfl ?_
    refine lv_goto (tgt := pc + 8) cx.1 cx.2.1 h2 (by omega) ?_
    rw [decide_eq_false h] at kk
    exact kk
end XW41
set_option maxHeartbeats 8000000 in
set_option maxRecDepth 100000 in
theorem law_table {p : Program} {l : Launch} {e : Env} {s : State} {m : MethodId} {below : List Frame} {meth : Method} {c : Code} {b L i ce sl dd mi : Nat} {xs : Nat → Int32} {G : x_G} {Q : State → Prop} {H : Heap} {locs : List Loc} {ls : Array Slot} (cx : CallFix p m c cL_law 4 s #[Value.ref b] x_gw RL) (hk : x_K G s) (hZ : z_Z dd mi (fun q : Nat => s.heap.size ≤ q) s s.heap) (hX : va_X b L xs s s.heap) (hbl : b < s.heap.size) (hL : L ≤ 3584) (hi : i + 7 ≤ L) (hce : ce + 5 ≤ 600000) (hsl : sl + 262 ≤ 7302250) (hI : l_S s G dd b i H locs ls)
    (next : ∀ (ce1 sl1 : Nat) (H1 : Heap) (locs1 : List Loc), ce1 ≤ ce + 5 → sl1 ≤ sl + 262 → l_S s G dd b i H1 locs1 ls → W p l e room_1 s m #[Value.ref b] below meth c H1 locs1 ce1 sl1 Q (F0 m 974 ls [])) : W p l e room_1 s m #[Value.ref b] below meth c H locs ce sl Q (F0 m 136 ls []) := by
  obtain ⟨S, X, mm, lo, lm, co, hInv, hM, hd, hW, hl⟩ := hI
  have hS := hInv.1
  have hx := cx.1
  have hb := cx.2.1
  have hA : ∀ q : Nat, s.heap.size ≤ q → (fun q : Nat => s.heap.size ≤ q) q := fun _ h => h
  have hbA : ¬ (fun q : Nat => s.heap.size ≤ q) b := Nat.not_le.mpr hbl
  have hj : x_J lo co := hW.1.2.1.1
  refine lv_aload_n hx hb dL_law_136 rfl (lv_at hl 1 rfl) ?_
  refine l_arg 1 cx hX hbl hbA hW.1.2.2 hl hL (by omega) dL_law_137 dL_law_138 dL_law_139 rfl dL_law_140 dL_law_141 ?_
  refine l_arg 2 cx hX hbl hbA hW.1.2.2 hl hL (by omega) dL_law_142 dL_law_143 dL_law_144 rfl dL_law_145 dL_law_146 ?_
  refine l_arg 3 cx hX hbl hbA hW.1.2.2 hl hL (by omega) dL_law_147 dL_law_148 dL_law_149 rfl dL_law_150 dL_law_151 ?_
  refine l_wrV (t := 0) (av := [.int (xs (i + 1)), .int (xs (i + 2)), .int (xs (i + 3))]) (rest := []) cx hk hW hA hd.1 cv_RL_13_9 (dw_table dd S X hd hS (xs (i + 1)) (xs (i + 2)) (xs (i + 3))) hl.1 rfl rfl (Nat.le_of_ble_eq_true rfl) ⟨by decide, by decide⟩ ⟨by show ce + 5 ≤ 600000; omega, by show sl + 262 ≤ 7302250; omega⟩ dL_law_152 (fun v_ lo1 co1 H locs hq_ hW => ?_)
  obtain ⟨hv_, e0, X1, hd1⟩ := hq_
  subst hv_
  rw [← e0] at hl
  refine lv_aload_n hx hb dL_law_155 rfl (lv_at hl 2 rfl) ?_
  refine l_arg 1 cx hX hbl hbA hW.1.2.2 hl hL (by omega) dL_law_156 dL_law_157 dL_law_158 rfl dL_law_159 dL_law_160 ?_
  refine l_arg 2 cx hX hbl hbA hW.1.2.2 hl hL (by omega) dL_law_161 dL_law_162 dL_law_163 rfl dL_law_164 dL_law_165 ?_
  refine l_arg 3 cx hX hbl hbA hW.1.2.2 hl hL (by omega) dL_law_166 dL_law_167 dL_law_168 rfl dL_law_169 dL_law_170 ?_
  have hm := m_isM G lm S mm
  refine l_wrV (t := 0) (av := [.int (xs (i + 1)), .int (xs (i + 2)), .int (xs (i + 3))]) (rest := [.int (bI (P_table S (xs (i + 1)) (xs (i + 2)) (xs (i + 3))).1)]) cx hk hW.swap hA hm.1 cv_RL_17_10 (w_table S mm hS hM hInv.2.1.1 (xs (i + 1)) (xs (i + 2)) (xs (i + 3))) hl.1 rfl rfl (Nat.le_of_ble_eq_true rfl) ⟨by decide, by decide⟩ ⟨by show ce + 5 + 0 ≤ 600000; omega, by show sl + 262 + 0 ≤ 7302250; omega⟩ dL_law_171 (fun v_ lm1 cm1 H locs hq_ hW => ?_)
  obtain ⟨hv_, hlm, m1, hM1, hcm⟩ := hq_
  subst hv_ hlm hcm
  refine lv_icmp_eq (tgt := 974) hx hb dL_law_174 (by decide) (fun _ => ?_) (fun h => absurd rfl h)
  exact next _ _ _ _ (by omega) (by omega) ⟨(P_table S (xs (i + 1)) (xs (i + 2)) (xs (i + 3))).2, X1, m1, lo1, lm1, co1, inv_table hInv (xs (i + 1)) (xs (i + 2)) (xs (i + 3)), hM1, hd1, hW.swap, hl⟩
set_option maxHeartbeats 8000000 in
set_option maxRecDepth 100000 in
theorem law_put {p : Program} {l : Launch} {e : Env} {s : State} {m : MethodId} {below : List Frame} {meth : Method} {c : Code} {b L i ce sl dd mi : Nat} {xs : Nat → Int32} {G : x_G} {Q : State → Prop} {H : Heap} {locs : List Loc} {ls : Array Slot} (cx : CallFix p m c cL_law 4 s #[Value.ref b] x_gw RL) (hk : x_K G s) (hZ : z_Z dd mi (fun q : Nat => s.heap.size ≤ q) s s.heap) (hX : va_X b L xs s s.heap) (hbl : b < s.heap.size) (hL : L ≤ 3584) (hi : i + 7 ≤ L) (hce : ce + 5 ≤ 600000) (hsl : sl + 262 ≤ 7302250) (hI : l_S s G dd b i H locs ls)
    (next : ∀ (ce1 sl1 : Nat) (H1 : Heap) (locs1 : List Loc), ce1 ≤ ce + 5 → sl1 ≤ sl + 262 → l_S s G dd b i H1 locs1 ls → W p l e room_1 s m #[Value.ref b] below meth c H1 locs1 ce1 sl1 Q (F0 m 974 ls [])) : W p l e room_1 s m #[Value.ref b] below meth c H locs ce sl Q (F0 m 179 ls []) := by
  obtain ⟨S, X, mm, lo, lm, co, hInv, hM, hd, hW, hl⟩ := hI
  have hS := hInv.1
  have hx := cx.1
  have hb := cx.2.1
  have hA : ∀ q : Nat, s.heap.size ≤ q → (fun q : Nat => s.heap.size ≤ q) q := fun _ h => h
  have hbA : ¬ (fun q : Nat => s.heap.size ≤ q) b := Nat.not_le.mpr hbl
  have hj : x_J lo co := hW.1.2.1.1
  refine lv_aload_n hx hb dL_law_179 rfl (lv_at hl 1 rfl) ?_
  refine l_arg 1 cx hX hbl hbA hW.1.2.2 hl hL (by omega) dL_law_180 dL_law_181 dL_law_182 rfl dL_law_183 dL_law_184 ?_
  refine l_arg 2 cx hX hbl hbA hW.1.2.2 hl hL (by omega) dL_law_185 dL_law_186 dL_law_187 rfl dL_law_188 dL_law_189 ?_
  refine l_arg 3 cx hX hbl hbA hW.1.2.2 hl hL (by omega) dL_law_190 dL_law_191 dL_law_192 rfl dL_law_193 dL_law_194 ?_
  refine l_arg 4 cx hX hbl hbA hW.1.2.2 hl hL (by omega) dL_law_195 dL_law_196 dL_law_197 rfl dL_law_198 dL_law_199 ?_
  refine l_arg 5 cx hX hbl hbA hW.1.2.2 hl hL (by omega) dL_law_200 dL_law_201 dL_law_202 rfl dL_law_203 dL_law_204 ?_
  refine l_wrV (t := 0) (av := [.int (xs (i + 1)), .int (xs (i + 2)), .int (xs (i + 3)), .int (xs (i + 4)), .int (xs (i + 5))]) (rest := []) cx hk hW hA hd.1 cv_RL_18_9 (dw_put dd S X hd hj hS hInv.2.2.1 hInv.2.2.2.1 (xs (i + 1)) (xs (i + 2)) (xs (i + 3)) (xs (i + 4)) (xs (i + 5))) hl.1 rfl rfl (Nat.le_of_ble_eq_true rfl) ⟨by decide, by decide⟩ ⟨by show ce + 0 ≤ 600000; omega, by show sl + 0 ≤ 7302250; omega⟩ dL_law_205 (fun v_ lo1 co1 H locs hq_ hW => ?_)
  obtain ⟨hv_, e0, X1, hd1⟩ := hq_
  subst hv_
  rw [← e0] at hl
  refine lv_aload_n hx hb dL_law_208 rfl (lv_at hl 2 rfl) ?_
  refine l_arg 1 cx hX hbl hbA hW.1.2.2 hl hL (by omega) dL_law_209 dL_law_210 dL_law_211 rfl dL_law_212 dL_law_213 ?_
  refine l_arg 2 cx hX hbl hbA hW.1.2.2 hl hL (by omega) dL_law_214 dL_law_215 dL_law_216 rfl dL_law_217 dL_law_218 ?_
  refine l_arg 3 cx hX hbl hbA hW.1.2.2 hl hL (by omega) dL_law_219 dL_law_220 dL_law_221 rfl dL_law_222 dL_law_223 ?_
  refine l_arg 4 cx hX hbl hbA hW.1.2.2 hl hL (by omega) dL_law_224 dL_law_225 dL_law_226 rfl dL_law_227 dL_law_228 ?_
  refine l_arg 5 cx hX hbl hbA hW.1.2.2 hl hL (by omega) dL_law_229 dL_law_230 dL_law_231 rfl dL_law_232 dL_law_233 ?_
  have hm := m_isM G lm S mm
  refine l_wrV (t := 0) (av := [.int (xs (i + 1)), .int (xs (i + 2)), .int (xs (i + 3)), .int (xs (i + 4)), .int (xs (i + 5))]) (rest := [.int (P_put S (xs (i + 1)) (xs (i + 2)) (xs (i + 3)) (xs (i + 4)) (xs (i + 5))).1]) cx hk hW.swap hA hm.1 cv_RL_22_10 (w_put S mm hS hM (xs (i + 1)) (xs (i + 2)) (xs (i + 3)) (xs (i + 4)) (xs (i + 5))) hl.1 rfl rfl (Nat.le_of_ble_eq_true rfl) ⟨by decide, by decide⟩ ⟨by show ce + 0 + 0 ≤ 600000; omega, by show sl + 0 + 0 ≤ 7302250; omega⟩ dL_law_234 (fun v_ lm1 cm1 H locs hq_ hW => ?_)
  obtain ⟨hv_, hlm, m1, hM1, hcm⟩ := hq_
  subst hv_ hlm hcm
  refine lv_icmp_eq (tgt := 974) hx hb dL_law_237 (by decide) (fun _ => ?_) (fun h => absurd rfl h)
  exact next _ _ _ _ (by omega) (by omega) ⟨(P_put S (xs (i + 1)) (xs (i + 2)) (xs (i + 3)) (xs (i + 4)) (xs (i + 5))).2, X1, m1, lo1, lm1, co1, inv_put hInv (xs (i + 1)) (xs (i + 2)) (xs (i + 3)) (xs (i + 4)) (xs (i + 5)), hM1, hd1, hW.swap, hl⟩
set_option maxHeartbeats 8000000 in
set_option maxRecDepth 100000 in
theorem law_strike {p : Program} {l : Launch} {e : Env} {s : State} {m : MethodId} {below : List Frame} {meth : Method} {c : Code} {b L i ce sl dd mi : Nat} {xs : Nat → Int32} {G : x_G} {Q : State → Prop} {H : Heap} {locs : List Loc} {ls : Array Slot} (cx : CallFix p m c cL_law 4 s #[Value.ref b] x_gw RL) (hk : x_K G s) (hZ : z_Z dd mi (fun q : Nat => s.heap.size ≤ q) s s.heap) (hX : va_X b L xs s s.heap) (hbl : b < s.heap.size) (hL : L ≤ 3584) (hi : i + 7 ≤ L) (hce : ce + 5 ≤ 600000) (hsl : sl + 262 ≤ 7302250) (hI : l_S s G dd b i H locs ls)
    (next : ∀ (ce1 sl1 : Nat) (H1 : Heap) (locs1 : List Loc), ce1 ≤ ce + 5 → sl1 ≤ sl + 262 → l_S s G dd b i H1 locs1 ls → W p l e room_1 s m #[Value.ref b] below meth c H1 locs1 ce1 sl1 Q (F0 m 974 ls [])) : W p l e room_1 s m #[Value.ref b] below meth c H locs ce sl Q (F0 m 242 ls []) := by
  obtain ⟨S, X, mm, lo, lm, co, hInv, hM, hd, hW, hl⟩ := hI
  have hS := hInv.1
  have hx := cx.1
  have hb := cx.2.1
  have hA : ∀ q : Nat, s.heap.size ≤ q → (fun q : Nat => s.heap.size ≤ q) q := fun _ h => h
  have hbA : ¬ (fun q : Nat => s.heap.size ≤ q) b := Nat.not_le.mpr hbl
  have hj : x_J lo co := hW.1.2.1.1
  refine lv_aload_n hx hb dL_law_242 rfl (lv_at hl 1 rfl) ?_
  refine l_arg 1 cx hX hbl hbA hW.1.2.2 hl hL (by omega) dL_law_243 dL_law_244 dL_law_245 rfl dL_law_246 dL_law_247 ?_
  refine l_arg 2 cx hX hbl hbA hW.1.2.2 hl hL (by omega) dL_law_248 dL_law_249 dL_law_250 rfl dL_law_251 dL_law_252 ?_
  refine l_wrV (t := 0) (av := [.int (xs (i + 1)), .int (xs (i + 2))]) (rest := []) cx hk hW hA hd.1 cv_RL_23_9 (dw_strike dd S X hd hj hS hInv.2.2.1 hInv.2.2.2.1 (xs (i + 1)) (xs (i + 2))) hl.1 rfl rfl (Nat.le_of_ble_eq_true rfl) ⟨by decide, by decide⟩ ⟨by show ce + 0 ≤ 600000; omega, by show sl + 0 ≤ 7302250; omega⟩ dL_law_253 (fun v_ lo1 co1 H locs hq_ hW => ?_)
  obtain ⟨hv_, e0, X1, hd1⟩ := hq_
  subst hv_
  rw [← e0] at hl
  refine lv_aload_n hx hb dL_law_256 rfl (lv_at hl 2 rfl) ?_
  refine l_arg 1 cx hX hbl hbA hW.1.2.2 hl hL (by omega) dL_law_257 dL_law_258 dL_law_259 rfl dL_law_260 dL_law_261 ?_
  refine l_arg 2 cx hX hbl hbA hW.1.2.2 hl hL (by omega) dL_law_262 dL_law_263 dL_law_264 rfl dL_law_265 dL_law_266 ?_
  have hm := m_isM G lm S mm
  refine l_wrV (t := 0) (av := [.int (xs (i + 1)), .int (xs (i + 2))]) (rest := [.int (bI (P_strike S (xs (i + 1)) (xs (i + 2))).1)]) cx hk hW.swap hA hm.1 cv_RL_27_10 (w_strike S mm hS hM (xs (i + 1)) (xs (i + 2))) hl.1 rfl rfl (Nat.le_of_ble_eq_true rfl) ⟨by decide, by decide⟩ ⟨by show ce + 0 + 0 ≤ 600000; omega, by show sl + 0 + 0 ≤ 7302250; omega⟩ dL_law_267 (fun v_ lm1 cm1 H locs hq_ hW => ?_)
  obtain ⟨hv_, hlm, m1, hM1, hcm⟩ := hq_
  subst hv_ hlm hcm
  refine lv_icmp_eq (tgt := 974) hx hb dL_law_270 (by decide) (fun _ => ?_) (fun h => absurd rfl h)
  exact next _ _ _ _ (by omega) (by omega) ⟨(P_strike S (xs (i + 1)) (xs (i + 2))).2, X1, m1, lo1, lm1, co1, inv_strike hInv (xs (i + 1)) (xs (i + 2)), hM1, hd1, hW.swap, hl⟩
set_option maxHeartbeats 8000000 in
set_option maxRecDepth 100000 in
theorem law_recount {p : Program} {l : Launch} {e : Env} {s : State} {m : MethodId} {below : List Frame} {meth : Method} {c : Code} {b L i ce sl dd mi : Nat} {xs : Nat → Int32} {G : x_G} {Q : State → Prop} {H : Heap} {locs : List Loc} {ls : Array Slot} (cx : CallFix p m c cL_law 4 s #[Value.ref b] x_gw RL) (hk : x_K G s) (hZ : z_Z dd mi (fun q : Nat => s.heap.size ≤ q) s s.heap) (hX : va_X b L xs s s.heap) (hbl : b < s.heap.size) (hL : L ≤ 3584) (hi : i + 7 ≤ L) (hce : ce + 5 ≤ 600000) (hsl : sl + 262 ≤ 7302250) (hI : l_S s G dd b i H locs ls)
    (next : ∀ (ce1 sl1 : Nat) (H1 : Heap) (locs1 : List Loc), ce1 ≤ ce + 5 → sl1 ≤ sl + 262 → l_S s G dd b i H1 locs1 ls → W p l e room_1 s m #[Value.ref b] below meth c H1 locs1 ce1 sl1 Q (F0 m 974 ls [])) : W p l e room_1 s m #[Value.ref b] below meth c H locs ce sl Q (F0 m 275 ls []) := by
  obtain ⟨S, X, mm, lo, lm, co, hInv, hM, hd, hW, hl⟩ := hI
  have hS := hInv.1
  have hx := cx.1
  have hb := cx.2.1
  have hA : ∀ q : Nat, s.heap.size ≤ q → (fun q : Nat => s.heap.size ≤ q) q := fun _ h => h
  have hbA : ¬ (fun q : Nat => s.heap.size ≤ q) b := Nat.not_le.mpr hbl
  have hj : x_J lo co := hW.1.2.1.1
  refine lv_aload_n hx hb dL_law_275 rfl (lv_at hl 1 rfl) ?_
  refine l_arg 1 cx hX hbl hbA hW.1.2.2 hl hL (by omega) dL_law_276 dL_law_277 dL_law_278 rfl dL_law_279 dL_law_280 ?_
  refine l_wrV (t := 0) (av := [.int (xs (i + 1))]) (rest := []) cx hk hW hA hd.1 cv_RL_28_9 (dw_recount dd S X hd hj hS hInv.2.2.1 hInv.2.2.2.1 (xs (i + 1))) hl.1 rfl rfl (Nat.le_of_ble_eq_true rfl) ⟨by decide, by decide⟩ ⟨by show ce + 0 ≤ 600000; omega, by show sl + 0 ≤ 7302250; omega⟩ dL_law_281 (fun v_ lo1 co1 H locs hq_ hW => ?_)
  obtain ⟨hv_, e0, X1, hd1⟩ := hq_
  subst hv_
  rw [← e0] at hl
  refine lv_aload_n hx hb dL_law_284 rfl (lv_at hl 2 rfl) ?_
  refine l_arg 1 cx hX hbl hbA hW.1.2.2 hl hL (by omega) dL_law_285 dL_law_286 dL_law_287 rfl dL_law_288 dL_law_289 ?_
  have hm := m_isM G lm S mm
  refine l_wrV (t := 0) (av := [.int (xs (i + 1))]) (rest := [.int (P_recount S (xs (i + 1))).1]) cx hk hW.swap hA hm.1 cv_RL_32_10 (w_recount S mm hS hM (xs (i + 1))) hl.1 rfl rfl (Nat.le_of_ble_eq_true rfl) ⟨by decide, by decide⟩ ⟨by show ce + 0 + 0 ≤ 600000; omega, by show sl + 0 + 0 ≤ 7302250; omega⟩ dL_law_290 (fun v_ lm1 cm1 H locs hq_ hW => ?_)
  obtain ⟨hv_, hlm, m1, hM1, hcm⟩ := hq_
  subst hv_ hlm hcm
  refine lv_icmp_eq (tgt := 974) hx hb dL_law_293 (by decide) (fun _ => ?_) (fun h => absurd rfl h)
  exact next _ _ _ _ (by omega) (by omega) ⟨(P_recount S (xs (i + 1))).2, X1, m1, lo1, lm1, co1, inv_recount hInv (xs (i + 1)), hM1, hd1, hW.swap, hl⟩
set_option maxHeartbeats 8000000 in
set_option maxRecDepth 100000 in
theorem law_counts {p : Program} {l : Launch} {e : Env} {s : State} {m : MethodId} {below : List Frame} {meth : Method} {c : Code} {b L i ce sl dd mi : Nat} {xs : Nat → Int32} {G : x_G} {Q : State → Prop} {H : Heap} {locs : List Loc} {ls : Array Slot} (cx : CallFix p m c cL_law 4 s #[Value.ref b] x_gw RL) (hk : x_K G s) (hZ : z_Z dd mi (fun q : Nat => s.heap.size ≤ q) s s.heap) (hX : va_X b L xs s s.heap) (hbl : b < s.heap.size) (hL : L ≤ 3584) (hi : i + 7 ≤ L) (hce : ce + 5 ≤ 600000) (hsl : sl + 262 ≤ 7302250) (hI : l_S s G dd b i H locs ls)
    (next : ∀ (ce1 sl1 : Nat) (H1 : Heap) (locs1 : List Loc), ce1 ≤ ce + 5 → sl1 ≤ sl + 262 → l_S s G dd b i H1 locs1 ls → W p l e room_1 s m #[Value.ref b] below meth c H1 locs1 ce1 sl1 Q (F0 m 974 ls [])) : W p l e room_1 s m #[Value.ref b] below meth c H locs ce sl Q (F0 m 298 ls []) := by
  obtain ⟨S, X, mm, lo, lm, co, hInv, hM, hd, hW, hl⟩ := hI
  have hS := hInv.1
  have hx := cx.1
  have hb := cx.2.1
  have hA : ∀ q : Nat, s.heap.size ≤ q → (fun q : Nat => s.heap.size ≤ q) q := fun _ h => h
  have hbA : ¬ (fun q : Nat => s.heap.size ≤ q) b := Nat.not_le.mpr hbl
  have hj : x_J lo co := hW.1.2.1.1
  refine lv_aload_n hx hb dL_law_298 rfl (lv_at hl 1 rfl) ?_
  refine l_arg 1 cx hX hbl hbA hW.1.2.2 hl hL (by omega) dL_law_299 dL_law_300 dL_law_301 rfl dL_law_302 dL_law_303 ?_
  refine l_arg 2 cx hX hbl hbA hW.1.2.2 hl hL (by omega) dL_law_304 dL_law_305 dL_law_306 rfl dL_law_307 dL_law_308 ?_
  refine l_arg 3 cx hX hbl hbA hW.1.2.2 hl hL (by omega) dL_law_309 dL_law_310 dL_law_311 rfl dL_law_312 dL_law_313 ?_
  refine x_rdV (av := [.int (xs (i + 1)), .int (xs (i + 2)), .int (xs (i + 3))]) (rest := []) cx hk hW.1.1 hd.1 cv_RL_33_9 (d_counts dd S X hd hj hS (xs (i + 1)) (xs (i + 2)) (xs (i + 3))) hl.1 rfl rfl (Nat.le_of_ble_eq_true rfl) ⟨by decide, by decide⟩ ⟨by show ce ≤ 600000; omega, by show sl ≤ 7302250; omega⟩ dL_law_314 ?_
  refine lv_aload_n hx hb dL_law_317 rfl (lv_at hl 2 rfl) ?_
  refine l_arg 1 cx hX hbl hbA hW.1.2.2 hl hL (by omega) dL_law_318 dL_law_319 dL_law_320 rfl dL_law_321 dL_law_322 ?_
  refine l_arg 2 cx hX hbl hbA hW.1.2.2 hl hL (by omega) dL_law_323 dL_law_324 dL_law_325 rfl dL_law_326 dL_law_327 ?_
  refine l_arg 3 cx hX hbl hbA hW.1.2.2 hl hL (by omega) dL_law_328 dL_law_329 dL_law_330 rfl dL_law_331 dL_law_332 ?_
  have hm := m_isM G lm S mm
  refine x_rdV (av := [.int (xs (i + 1)), .int (xs (i + 2)), .int (xs (i + 3))]) (rest := [.int (P_counts S (xs (i + 1)) (xs (i + 2)) (xs (i + 3)))]) cx hk hW.2.1 hm.1 cv_RL_37_10 (m_counts_ S mm hm hS (xs (i + 1)) (xs (i + 2)) (xs (i + 3))) hl.1 rfl rfl (Nat.le_of_ble_eq_true rfl) ⟨by decide, by decide⟩ ⟨by show ce ≤ 600000; omega, by show sl ≤ 7302250; omega⟩ dL_law_333 ?_
  refine lv_icmp_eq (tgt := 974) hx hb dL_law_336 (by decide) (fun _ => ?_) (fun h => absurd rfl h)
  exact next _ _ _ _ (by omega) (by omega) ⟨S, X, mm, lo, lm, co, hInv, hM, hd, hW, hl⟩
set_option maxHeartbeats 8000000 in
set_option maxRecDepth 100000 in
theorem law_changes {p : Program} {l : Launch} {e : Env} {s : State} {m : MethodId} {below : List Frame} {meth : Method} {c : Code} {b L i ce sl dd mi : Nat} {xs : Nat → Int32} {G : x_G} {Q : State → Prop} {H : Heap} {locs : List Loc} {ls : Array Slot} (cx : CallFix p m c cL_law 4 s #[Value.ref b] x_gw RL) (hk : x_K G s) (hZ : z_Z dd mi (fun q : Nat => s.heap.size ≤ q) s s.heap) (hX : va_X b L xs s s.heap) (hbl : b < s.heap.size) (hL : L ≤ 3584) (hi : i + 7 ≤ L) (hce : ce + 5 ≤ 600000) (hsl : sl + 262 ≤ 7302250) (hI : l_S s G dd b i H locs ls)
    (next : ∀ (ce1 sl1 : Nat) (H1 : Heap) (locs1 : List Loc), ce1 ≤ ce + 5 → sl1 ≤ sl + 262 → l_S s G dd b i H1 locs1 ls → W p l e room_1 s m #[Value.ref b] below meth c H1 locs1 ce1 sl1 Q (F0 m 974 ls [])) : W p l e room_1 s m #[Value.ref b] below meth c H locs ce sl Q (F0 m 341 ls []) := by
  obtain ⟨S, X, mm, lo, lm, co, hInv, hM, hd, hW, hl⟩ := hI
  have hS := hInv.1
  have hx := cx.1
  have hb := cx.2.1
  have hA : ∀ q : Nat, s.heap.size ≤ q → (fun q : Nat => s.heap.size ≤ q) q := fun _ h => h
  have hbA : ¬ (fun q : Nat => s.heap.size ≤ q) b := Nat.not_le.mpr hbl
  have hj : x_J lo co := hW.1.2.1.1
  refine lv_aload_n hx hb dL_law_341 rfl (lv_at hl 1 rfl) ?_
  refine l_arg 1 cx hX hbl hbA hW.1.2.2 hl hL (by omega) dL_law_342 dL_law_343 dL_law_344 rfl dL_law_345 dL_law_346 ?_
  refine l_arg 2 cx hX hbl hbA hW.1.2.2 hl hL (by omega) dL_law_347 dL_law_348 dL_law_349 rfl dL_law_350 dL_law_351 ?_
  refine l_wrV (t := 0) (av := [.int (xs (i + 1)), .int (xs (i + 2))]) (rest := []) cx hk hW hA hd.1 cv_RL_38_9 (dw_changes dd S X hd hj hS hInv.2.2.1 hInv.2.2.2.1 (xs (i + 1)) (xs (i + 2))) hl.1 rfl rfl (Nat.le_of_ble_eq_true rfl) ⟨by decide, by decide⟩ ⟨by show ce + 0 ≤ 600000; omega, by show sl + 0 ≤ 7302250; omega⟩ dL_law_352 (fun v_ lo1 co1 H locs hq_ hW => ?_)
  obtain ⟨hv_, e0, X1, hd1⟩ := hq_
  subst hv_
  rw [← e0] at hl
  refine lv_aload_n hx hb dL_law_355 rfl (lv_at hl 2 rfl) ?_
  refine l_arg 1 cx hX hbl hbA hW.1.2.2 hl hL (by omega) dL_law_356 dL_law_357 dL_law_358 rfl dL_law_359 dL_law_360 ?_
  refine l_arg 2 cx hX hbl hbA hW.1.2.2 hl hL (by omega) dL_law_361 dL_law_362 dL_law_363 rfl dL_law_364 dL_law_365 ?_
  have hm := m_isM G lm S mm
  refine l_wrV (t := 0) (av := [.int (xs (i + 1)), .int (xs (i + 2))]) (rest := [.int (bI (P_changes S (xs (i + 1)) (xs (i + 2))).1)]) cx hk hW.swap hA hm.1 cv_RL_41_10 (w_changes S mm hS hM (xs (i + 1)) (xs (i + 2))) hl.1 rfl rfl (Nat.le_of_ble_eq_true rfl) ⟨by decide, by decide⟩ ⟨by show ce + 0 + 0 ≤ 600000; omega, by show sl + 0 + 0 ≤ 7302250; omega⟩ dL_law_366 (fun v_ lm1 cm1 H locs hq_ hW => ?_)
  obtain ⟨hv_, hlm, m1, hM1, hcm⟩ := hq_
  subst hv_ hlm hcm
  refine lv_icmp_eq (tgt := 974) hx hb dL_law_369 (by decide) (fun _ => ?_) (fun h => absurd rfl h)
  exact next _ _ _ _ (by omega) (by omega) ⟨(P_changes S (xs (i + 1)) (xs (i + 2))).2, X1, m1, lo1, lm1, co1, inv_changes hInv (xs (i + 1)) (xs (i + 2)), hM1, hd1, hW.swap, hl⟩
set_option maxHeartbeats 8000000 in
set_option maxRecDepth 100000 in
theorem law_question {p : Program} {l : Launch} {e : Env} {s : State} {m : MethodId} {below : List Frame} {meth : Method} {c : Code} {b L i ce sl dd mi : Nat} {xs : Nat → Int32} {G : x_G} {Q : State → Prop} {H : Heap} {locs : List Loc} {ls : Array Slot} (cx : CallFix p m c cL_law 4 s #[Value.ref b] x_gw RL) (hk : x_K G s) (hZ : z_Z dd mi (fun q : Nat => s.heap.size ≤ q) s s.heap) (hX : va_X b L xs s s.heap) (hbl : b < s.heap.size) (hL : L ≤ 3584) (hi : i + 7 ≤ L) (hce : ce + 5 ≤ 600000) (hsl : sl + 262 ≤ 7302250) (hI : l_S s G dd b i H locs ls)
    (next : ∀ (ce1 sl1 : Nat) (H1 : Heap) (locs1 : List Loc), ce1 ≤ ce + 5 → sl1 ≤ sl + 262 → l_S s G dd b i H1 locs1 ls → W p l e room_1 s m #[Value.ref b] below meth c H1 locs1 ce1 sl1 Q (F0 m 974 ls [])) : W p l e room_1 s m #[Value.ref b] below meth c H locs ce sl Q (F0 m 374 ls []) := by
  obtain ⟨S, X, mm, lo, lm, co, hInv, hM, hd, hW, hl⟩ := hI
  have hS := hInv.1
  have hx := cx.1
  have hb := cx.2.1
  have hA : ∀ q : Nat, s.heap.size ≤ q → (fun q : Nat => s.heap.size ≤ q) q := fun _ h => h
  have hbA : ¬ (fun q : Nat => s.heap.size ≤ q) b := Nat.not_le.mpr hbl
  have hj : x_J lo co := hW.1.2.1.1
  refine lv_aload_n hx hb dL_law_374 rfl (lv_at hl 1 rfl) ?_
  refine l_arg 1 cx hX hbl hbA hW.1.2.2 hl hL (by omega) dL_law_375 dL_law_376 dL_law_377 rfl dL_law_378 dL_law_379 ?_
  refine l_arg 2 cx hX hbl hbA hW.1.2.2 hl hL (by omega) dL_law_380 dL_law_381 dL_law_382 rfl dL_law_383 dL_law_384 ?_
  refine l_arg 3 cx hX hbl hbA hW.1.2.2 hl hL (by omega) dL_law_385 dL_law_386 dL_law_387 rfl dL_law_388 dL_law_389 ?_
  refine l_arg 4 cx hX hbl hbA hW.1.2.2 hl hL (by omega) dL_law_390 dL_law_391 dL_law_392 rfl dL_law_393 dL_law_394 ?_
  refine l_zrV (t := 0) (av := [.int (xs (i + 1)), .int (xs (i + 2)), .int (xs (i + 3)), .int (xs (i + 4))]) (rest := []) hZ cx hk hW hA hd.1 cv_RL_42_9 (dw_question dd S X hd hS (xs (i + 1)) (xs (i + 2)) (xs (i + 3)) (xs (i + 4))) hl.1 rfl rfl (Nat.le_of_ble_eq_true rfl) ⟨by decide, by decide⟩ ⟨by show ce + 4 ≤ 600000; omega, by show sl + 75 ≤ 7302250; omega⟩ dL_law_395 (fun v_ lo1 co1 H locs hq_ hW => ?_)
  obtain ⟨hv_, e0, X1, hd1⟩ := hq_
  subst hv_
  rw [← e0] at hl
  refine lv_aload_n hx hb dL_law_398 rfl (lv_at hl 2 rfl) ?_
  refine l_arg 1 cx hX hbl hbA hW.1.2.2 hl hL (by omega) dL_law_399 dL_law_400 dL_law_401 rfl dL_law_402 dL_law_403 ?_
  refine l_arg 2 cx hX hbl hbA hW.1.2.2 hl hL (by omega) dL_law_404 dL_law_405 dL_law_406 rfl dL_law_407 dL_law_408 ?_
  refine l_arg 3 cx hX hbl hbA hW.1.2.2 hl hL (by omega) dL_law_409 dL_law_410 dL_law_411 rfl dL_law_412 dL_law_413 ?_
  refine l_arg 4 cx hX hbl hbA hW.1.2.2 hl hL (by omega) dL_law_414 dL_law_415 dL_law_416 rfl dL_law_417 dL_law_418 ?_
  have hm := m_isM G lm S mm
  refine l_wrV (t := 0) (av := [.int (xs (i + 1)), .int (xs (i + 2)), .int (xs (i + 3)), .int (xs (i + 4))]) (rest := [.int (P_question S (xs (i + 1)) (xs (i + 2)) (xs (i + 3)) (xs (i + 4))).1]) cx hk hW.swap hA hm.1 cv_RL_46_10 (w_question S mm hS hM hInv.2.1 (xs (i + 1)) (xs (i + 2)) (xs (i + 3)) (xs (i + 4))) hl.1 rfl rfl (Nat.le_of_ble_eq_true rfl) ⟨by decide, by decide⟩ ⟨by show ce + 4 + 0 ≤ 600000; omega, by show sl + 75 + 0 ≤ 7302250; omega⟩ dL_law_419 (fun v_ lm1 cm1 H locs hq_ hW => ?_)
  obtain ⟨hv_, hlm, m1, hM1, hcm⟩ := hq_
  subst hv_ hlm hcm
  refine lv_icmp_eq (tgt := 974) hx hb dL_law_422 (by decide) (fun _ => ?_) (fun h => absurd rfl h)
  exact next _ _ _ _ (by omega) (by omega) ⟨(P_question S (xs (i + 1)) (xs (i + 2)) (xs (i + 3)) (xs (i + 4))).2, X1, m1, lo1, lm1, co1, inv_question hInv (xs (i + 1)) (xs (i + 2)) (xs (i + 3)) (xs (i + 4)), hM1, hd1, hW.swap, hl⟩
set_option maxHeartbeats 8000000 in
set_option maxRecDepth 100000 in
theorem law_test {p : Program} {l : Launch} {e : Env} {s : State} {m : MethodId} {below : List Frame} {meth : Method} {c : Code} {b L i ce sl dd mi : Nat} {xs : Nat → Int32} {G : x_G} {Q : State → Prop} {H : Heap} {locs : List Loc} {ls : Array Slot} (cx : CallFix p m c cL_law 4 s #[Value.ref b] x_gw RL) (hk : x_K G s) (hZ : z_Z dd mi (fun q : Nat => s.heap.size ≤ q) s s.heap) (hX : va_X b L xs s s.heap) (hbl : b < s.heap.size) (hL : L ≤ 3584) (hi : i + 7 ≤ L) (hce : ce + 5 ≤ 600000) (hsl : sl + 262 ≤ 7302250) (hI : l_S s G dd b i H locs ls)
    (next : ∀ (ce1 sl1 : Nat) (H1 : Heap) (locs1 : List Loc), ce1 ≤ ce + 5 → sl1 ≤ sl + 262 → l_S s G dd b i H1 locs1 ls → W p l e room_1 s m #[Value.ref b] below meth c H1 locs1 ce1 sl1 Q (F0 m 974 ls [])) : W p l e room_1 s m #[Value.ref b] below meth c H locs ce sl Q (F0 m 427 ls []) := by
  obtain ⟨S, X, mm, lo, lm, co, hInv, hM, hd, hW, hl⟩ := hI
  have hS := hInv.1
  have hx := cx.1
  have hb := cx.2.1
  have hA : ∀ q : Nat, s.heap.size ≤ q → (fun q : Nat => s.heap.size ≤ q) q := fun _ h => h
  have hbA : ¬ (fun q : Nat => s.heap.size ≤ q) b := Nat.not_le.mpr hbl
  have hj : x_J lo co := hW.1.2.1.1
  refine lv_aload_n hx hb dL_law_427 rfl (lv_at hl 1 rfl) ?_
  refine l_arg 1 cx hX hbl hbA hW.1.2.2 hl hL (by omega) dL_law_428 dL_law_429 dL_law_430 rfl dL_law_431 dL_law_432 ?_
  refine l_arg 2 cx hX hbl hbA hW.1.2.2 hl hL (by omega) dL_law_433 dL_law_434 dL_law_435 rfl dL_law_436 dL_law_437 ?_
  refine l_arg 3 cx hX hbl hbA hW.1.2.2 hl hL (by omega) dL_law_438 dL_law_439 dL_law_440 rfl dL_law_441 dL_law_442 ?_
  refine l_arg 4 cx hX hbl hbA hW.1.2.2 hl hL (by omega) dL_law_443 dL_law_444 dL_law_445 rfl dL_law_446 dL_law_447 ?_
  refine l_wrV (t := 0) (av := [.int (xs (i + 1)), .int (xs (i + 2)), .int (xs (i + 3)), .int (xs (i + 4))]) (rest := []) cx hk hW hA hd.1 cv_RL_47_9 (dw_test dd S X hd hj hS hInv.2.2.1 hInv.2.2.2.1 (xs (i + 1)) (xs (i + 2)) (xs (i + 3)) (xs (i + 4))) hl.1 rfl rfl (Nat.le_of_ble_eq_true rfl) ⟨by decide, by decide⟩ ⟨by show ce + 0 ≤ 600000; omega, by show sl + 0 ≤ 7302250; omega⟩ dL_law_448 (fun v_ lo1 co1 H locs hq_ hW => ?_)
  obtain ⟨hv_, e0, X1, hd1⟩ := hq_
  subst hv_
  rw [← e0] at hl
  refine lv_aload_n hx hb dL_law_451 rfl (lv_at hl 2 rfl) ?_
  refine l_arg 1 cx hX hbl hbA hW.1.2.2 hl hL (by omega) dL_law_452 dL_law_453 dL_law_454 rfl dL_law_455 dL_law_456 ?_
  refine l_arg 2 cx hX hbl hbA hW.1.2.2 hl hL (by omega) dL_law_457 dL_law_458 dL_law_459 rfl dL_law_460 dL_law_461 ?_
  refine l_arg 3 cx hX hbl hbA hW.1.2.2 hl hL (by omega) dL_law_462 dL_law_463 dL_law_464 rfl dL_law_465 dL_law_466 ?_
  refine l_arg 4 cx hX hbl hbA hW.1.2.2 hl hL (by omega) dL_law_467 dL_law_468 dL_law_469 rfl dL_law_470 dL_law_471 ?_
  have hm := m_isM G lm S mm
  refine l_wrV (t := 0) (av := [.int (xs (i + 1)), .int (xs (i + 2)), .int (xs (i + 3)), .int (xs (i + 4))]) (rest := [.int (bI (P_test S (xs (i + 1)) (xs (i + 2)) (xs (i + 3)) (xs (i + 4))).1)]) cx hk hW.swap hA hm.1 cv_RL_51_10 (w_test S mm hS hM (xs (i + 1)) (xs (i + 2)) (xs (i + 3)) (xs (i + 4))) hl.1 rfl rfl (Nat.le_of_ble_eq_true rfl) ⟨by decide, by decide⟩ ⟨by show ce + 0 + 0 ≤ 600000; omega, by show sl + 0 + 0 ≤ 7302250; omega⟩ dL_law_472 (fun v_ lm1 cm1 H locs hq_ hW => ?_)
  obtain ⟨hv_, hlm, m1, hM1, hcm⟩ := hq_
  subst hv_ hlm hcm
  refine lv_icmp_eq (tgt := 974) hx hb dL_law_475 (by decide) (fun _ => ?_) (fun h => absurd rfl h)
  exact next _ _ _ _ (by omega) (by omega) ⟨(P_test S (xs (i + 1)) (xs (i + 2)) (xs (i + 3)) (xs (i + 4))).2, X1, m1, lo1, lm1, co1, inv_test hInv (xs (i + 1)) (xs (i + 2)) (xs (i + 3)) (xs (i + 4)), hM1, hd1, hW.swap, hl⟩
set_option maxHeartbeats 8000000 in
set_option maxRecDepth 100000 in
theorem law_order {p : Program} {l : Launch} {e : Env} {s : State} {m : MethodId} {below : List Frame} {meth : Method} {c : Code} {b L i ce sl dd mi : Nat} {xs : Nat → Int32} {G : x_G} {Q : State → Prop} {H : Heap} {locs : List Loc} {ls : Array Slot} (cx : CallFix p m c cL_law 4 s #[Value.ref b] x_gw RL) (hk : x_K G s) (hZ : z_Z dd mi (fun q : Nat => s.heap.size ≤ q) s s.heap) (hX : va_X b L xs s s.heap) (hbl : b < s.heap.size) (hL : L ≤ 3584) (hi : i + 7 ≤ L) (hce : ce + 5 ≤ 600000) (hsl : sl + 262 ≤ 7302250) (hI : l_S s G dd b i H locs ls)
    (next : ∀ (ce1 sl1 : Nat) (H1 : Heap) (locs1 : List Loc), ce1 ≤ ce + 5 → sl1 ≤ sl + 262 → l_S s G dd b i H1 locs1 ls → W p l e room_1 s m #[Value.ref b] below meth c H1 locs1 ce1 sl1 Q (F0 m 974 ls [])) : W p l e room_1 s m #[Value.ref b] below meth c H locs ce sl Q (F0 m 480 ls []) := by
  obtain ⟨S, X, mm, lo, lm, co, hInv, hM, hd, hW, hl⟩ := hI
  have hS := hInv.1
  have hx := cx.1
  have hb := cx.2.1
  have hA : ∀ q : Nat, s.heap.size ≤ q → (fun q : Nat => s.heap.size ≤ q) q := fun _ h => h
  have hbA : ¬ (fun q : Nat => s.heap.size ≤ q) b := Nat.not_le.mpr hbl
  have hj : x_J lo co := hW.1.2.1.1
  refine lv_aload_n hx hb dL_law_480 rfl (lv_at hl 1 rfl) ?_
  refine l_arg 1 cx hX hbl hbA hW.1.2.2 hl hL (by omega) dL_law_481 dL_law_482 dL_law_483 rfl dL_law_484 dL_law_485 ?_
  refine l_arg 2 cx hX hbl hbA hW.1.2.2 hl hL (by omega) dL_law_486 dL_law_487 dL_law_488 rfl dL_law_489 dL_law_490 ?_
  refine l_arg 3 cx hX hbl hbA hW.1.2.2 hl hL (by omega) dL_law_491 dL_law_492 dL_law_493 rfl dL_law_494 dL_law_495 ?_
  refine l_arg 4 cx hX hbl hbA hW.1.2.2 hl hL (by omega) dL_law_496 dL_law_497 dL_law_498 rfl dL_law_499 dL_law_500 ?_
  refine l_arg 5 cx hX hbl hbA hW.1.2.2 hl hL (by omega) dL_law_501 dL_law_502 dL_law_503 rfl dL_law_504 dL_law_505 ?_
  refine l_arg6 6 cx hX hbl hbA hW.1.2.2 hl hL (by omega) dL_law_506 dL_law_507 dL_law_508 rfl dL_law_510 dL_law_511 ?_
  refine l_zrV (t := 0) (av := [.int (xs (i + 1)), .int (xs (i + 2)), .int (xs (i + 3)), .int (xs (i + 4)), .int (xs (i + 5)), .int (xs (i + 6))]) (rest := []) hZ cx hk hW hA hd.1 cv_RL_52_9 (dw_order dd S X hd hS (xs (i + 1)) (xs (i + 2)) (xs (i + 3)) (xs (i + 4)) (xs (i + 5)) (xs (i + 6))) hl.1 rfl rfl (Nat.le_of_ble_eq_true rfl) ⟨by decide, by decide⟩ ⟨by show ce + 3 ≤ 600000; omega, by show sl + 71 ≤ 7302250; omega⟩ dL_law_512 (fun v_ lo1 co1 H locs hq_ hW => ?_)
  obtain ⟨hv_, e0, X1, hd1⟩ := hq_
  subst hv_
  rw [← e0] at hl
  refine lv_aload_n hx hb dL_law_515 rfl (lv_at hl 2 rfl) ?_
  refine l_arg 1 cx hX hbl hbA hW.1.2.2 hl hL (by omega) dL_law_516 dL_law_517 dL_law_518 rfl dL_law_519 dL_law_520 ?_
  refine l_arg 2 cx hX hbl hbA hW.1.2.2 hl hL (by omega) dL_law_521 dL_law_522 dL_law_523 rfl dL_law_524 dL_law_525 ?_
  refine l_arg 3 cx hX hbl hbA hW.1.2.2 hl hL (by omega) dL_law_526 dL_law_527 dL_law_528 rfl dL_law_529 dL_law_530 ?_
  refine l_arg 4 cx hX hbl hbA hW.1.2.2 hl hL (by omega) dL_law_531 dL_law_532 dL_law_533 rfl dL_law_534 dL_law_535 ?_
  refine l_arg 5 cx hX hbl hbA hW.1.2.2 hl hL (by omega) dL_law_536 dL_law_537 dL_law_538 rfl dL_law_539 dL_law_540 ?_
  refine l_arg6 6 cx hX hbl hbA hW.1.2.2 hl hL (by omega) dL_law_541 dL_law_542 dL_law_543 rfl dL_law_545 dL_law_546 ?_
  have hm := m_isM G lm S mm
  refine l_wrV (t := 0) (av := [.int (xs (i + 1)), .int (xs (i + 2)), .int (xs (i + 3)), .int (xs (i + 4)), .int (xs (i + 5)), .int (xs (i + 6))]) (rest := [.int (P_order S (xs (i + 1)) (xs (i + 2)) (xs (i + 3)) (xs (i + 4)) (xs (i + 5)) (xs (i + 6))).1]) cx hk hW.swap hA hm.1 cv_RL_56_10 (w_order S mm hS hM hInv.2.1 (xs (i + 1)) (xs (i + 2)) (xs (i + 3)) (xs (i + 4)) (xs (i + 5)) (xs (i + 6))) hl.1 rfl rfl (Nat.le_of_ble_eq_true rfl) ⟨by decide, by decide⟩ ⟨by show ce + 3 + 0 ≤ 600000; omega, by show sl + 71 + 0 ≤ 7302250; omega⟩ dL_law_547 (fun v_ lm1 cm1 H locs hq_ hW => ?_)
  obtain ⟨hv_, hlm, m1, hM1, hcm⟩ := hq_
  subst hv_ hlm hcm
  refine lv_icmp_eq (tgt := 974) hx hb dL_law_550 (by decide) (fun _ => ?_) (fun h => absurd rfl h)
  exact next _ _ _ _ (by omega) (by omega) ⟨(P_order S (xs (i + 1)) (xs (i + 2)) (xs (i + 3)) (xs (i + 4)) (xs (i + 5)) (xs (i + 6))).2, X1, m1, lo1, lm1, co1, inv_order hInv (xs (i + 1)) (xs (i + 2)) (xs (i + 3)) (xs (i + 4)) (xs (i + 5)) (xs (i + 6)), hM1, hd1, hW.swap, hl⟩
set_option maxHeartbeats 8000000 in
set_option maxRecDepth 100000 in
theorem law_part {p : Program} {l : Launch} {e : Env} {s : State} {m : MethodId} {below : List Frame} {meth : Method} {c : Code} {b L i ce sl dd mi : Nat} {xs : Nat → Int32} {G : x_G} {Q : State → Prop} {H : Heap} {locs : List Loc} {ls : Array Slot} (cx : CallFix p m c cL_law 4 s #[Value.ref b] x_gw RL) (hk : x_K G s) (hZ : z_Z dd mi (fun q : Nat => s.heap.size ≤ q) s s.heap) (hX : va_X b L xs s s.heap) (hbl : b < s.heap.size) (hL : L ≤ 3584) (hi : i + 7 ≤ L) (hce : ce + 5 ≤ 600000) (hsl : sl + 262 ≤ 7302250) (hI : l_S s G dd b i H locs ls)
    (next : ∀ (ce1 sl1 : Nat) (H1 : Heap) (locs1 : List Loc), ce1 ≤ ce + 5 → sl1 ≤ sl + 262 → l_S s G dd b i H1 locs1 ls → W p l e room_1 s m #[Value.ref b] below meth c H1 locs1 ce1 sl1 Q (F0 m 974 ls [])) : W p l e room_1 s m #[Value.ref b] below meth c H locs ce sl Q (F0 m 555 ls []) := by
  obtain ⟨S, X, mm, lo, lm, co, hInv, hM, hd, hW, hl⟩ := hI
  have hS := hInv.1
  have hx := cx.1
  have hb := cx.2.1
  have hA : ∀ q : Nat, s.heap.size ≤ q → (fun q : Nat => s.heap.size ≤ q) q := fun _ h => h
  have hbA : ¬ (fun q : Nat => s.heap.size ≤ q) b := Nat.not_le.mpr hbl
  have hj : x_J lo co := hW.1.2.1.1
  refine lv_aload_n hx hb dL_law_555 rfl (lv_at hl 1 rfl) ?_
  refine l_arg 1 cx hX hbl hbA hW.1.2.2 hl hL (by omega) dL_law_556 dL_law_557 dL_law_558 rfl dL_law_559 dL_law_560 ?_
  refine l_arg 2 cx hX hbl hbA hW.1.2.2 hl hL (by omega) dL_law_561 dL_law_562 dL_law_563 rfl dL_law_564 dL_law_565 ?_
  refine l_arg 3 cx hX hbl hbA hW.1.2.2 hl hL (by omega) dL_law_566 dL_law_567 dL_law_568 rfl dL_law_569 dL_law_570 ?_
  refine l_arg 4 cx hX hbl hbA hW.1.2.2 hl hL (by omega) dL_law_571 dL_law_572 dL_law_573 rfl dL_law_574 dL_law_575 ?_
  refine l_arg 5 cx hX hbl hbA hW.1.2.2 hl hL (by omega) dL_law_576 dL_law_577 dL_law_578 rfl dL_law_579 dL_law_580 ?_
  refine l_arg6 6 cx hX hbl hbA hW.1.2.2 hl hL (by omega) dL_law_581 dL_law_582 dL_law_583 rfl dL_law_585 dL_law_586 ?_
  refine l_zrV (t := 0) (av := [.int (xs (i + 1)), .int (xs (i + 2)), .int (xs (i + 3)), .int (xs (i + 4)), .int (xs (i + 5)), .int (xs (i + 6))]) (rest := []) hZ cx hk hW hA hd.1 cv_RL_57_9 (dw_part dd S X hd hS (xs (i + 1)) (xs (i + 2)) (xs (i + 3)) (xs (i + 4)) (xs (i + 5)) (xs (i + 6))) hl.1 rfl rfl (Nat.le_of_ble_eq_true rfl) ⟨by decide, by decide⟩ ⟨by show ce + 3 ≤ 600000; omega, by show sl + 71 ≤ 7302250; omega⟩ dL_law_587 (fun v_ lo1 co1 H locs hq_ hW => ?_)
  obtain ⟨hv_, e0, X1, hd1⟩ := hq_
  subst hv_
  rw [← e0] at hl
  refine lv_aload_n hx hb dL_law_590 rfl (lv_at hl 2 rfl) ?_
  refine l_arg 1 cx hX hbl hbA hW.1.2.2 hl hL (by omega) dL_law_591 dL_law_592 dL_law_593 rfl dL_law_594 dL_law_595 ?_
  refine l_arg 2 cx hX hbl hbA hW.1.2.2 hl hL (by omega) dL_law_596 dL_law_597 dL_law_598 rfl dL_law_599 dL_law_600 ?_
  refine l_arg 3 cx hX hbl hbA hW.1.2.2 hl hL (by omega) dL_law_601 dL_law_602 dL_law_603 rfl dL_law_604 dL_law_605 ?_
  refine l_arg 4 cx hX hbl hbA hW.1.2.2 hl hL (by omega) dL_law_606 dL_law_607 dL_law_608 rfl dL_law_609 dL_law_610 ?_
  refine l_arg 5 cx hX hbl hbA hW.1.2.2 hl hL (by omega) dL_law_611 dL_law_612 dL_law_613 rfl dL_law_614 dL_law_615 ?_
  refine l_arg6 6 cx hX hbl hbA hW.1.2.2 hl hL (by omega) dL_law_616 dL_law_617 dL_law_618 rfl dL_law_620 dL_law_621 ?_
  have hm := m_isM G lm S mm
  refine l_wrV (t := 0) (av := [.int (xs (i + 1)), .int (xs (i + 2)), .int (xs (i + 3)), .int (xs (i + 4)), .int (xs (i + 5)), .int (xs (i + 6))]) (rest := [.int (P_part S (xs (i + 1)) (xs (i + 2)) (xs (i + 3)) (xs (i + 4)) (xs (i + 5)) (xs (i + 6))).1]) cx hk hW.swap hA hm.1 cv_RL_60_10 (w_part S mm hS hM hInv.2.1 (xs (i + 1)) (xs (i + 2)) (xs (i + 3)) (xs (i + 4)) (xs (i + 5)) (xs (i + 6))) hl.1 rfl rfl (Nat.le_of_ble_eq_true rfl) ⟨by decide, by decide⟩ ⟨by show ce + 3 + 0 ≤ 600000; omega, by show sl + 71 + 0 ≤ 7302250; omega⟩ dL_law_622 (fun v_ lm1 cm1 H locs hq_ hW => ?_)
  obtain ⟨hv_, hlm, m1, hM1, hcm⟩ := hq_
  subst hv_ hlm hcm
  refine lv_icmp_eq (tgt := 974) hx hb dL_law_625 (by decide) (fun _ => ?_) (fun h => absurd rfl h)
  exact next _ _ _ _ (by omega) (by omega) ⟨(P_part S (xs (i + 1)) (xs (i + 2)) (xs (i + 3)) (xs (i + 4)) (xs (i + 5)) (xs (i + 6))).2, X1, m1, lo1, lm1, co1, inv_part hInv (xs (i + 1)) (xs (i + 2)) (xs (i + 3)) (xs (i + 4)) (xs (i + 5)) (xs (i + 6)), hM1, hd1, hW.swap, hl⟩
set_option maxHeartbeats 8000000 in
set_option maxRecDepth 100000 in
theorem law_sums {p : Program} {l : Launch} {e : Env} {s : State} {m : MethodId} {below : List Frame} {meth : Method} {c : Code} {b L i ce sl dd mi : Nat} {xs : Nat → Int32} {G : x_G} {Q : State → Prop} {H : Heap} {locs : List Loc} {ls : Array Slot} (cx : CallFix p m c cL_law 4 s #[Value.ref b] x_gw RL) (hk : x_K G s) (hZ : z_Z dd mi (fun q : Nat => s.heap.size ≤ q) s s.heap) (hX : va_X b L xs s s.heap) (hbl : b < s.heap.size) (hL : L ≤ 3584) (hi : i + 7 ≤ L) (hce : ce + 5 ≤ 600000) (hsl : sl + 262 ≤ 7302250) (hI : l_S s G dd b i H locs ls)
    (next : ∀ (ce1 sl1 : Nat) (H1 : Heap) (locs1 : List Loc), ce1 ≤ ce + 5 → sl1 ≤ sl + 262 → l_S s G dd b i H1 locs1 ls → W p l e room_1 s m #[Value.ref b] below meth c H1 locs1 ce1 sl1 Q (F0 m 974 ls [])) : W p l e room_1 s m #[Value.ref b] below meth c H locs ce sl Q (F0 m 630 ls []) := by
  obtain ⟨S, X, mm, lo, lm, co, hInv, hM, hd, hW, hl⟩ := hI
  have hS := hInv.1
  have hx := cx.1
  have hb := cx.2.1
  have hA : ∀ q : Nat, s.heap.size ≤ q → (fun q : Nat => s.heap.size ≤ q) q := fun _ h => h
  have hbA : ¬ (fun q : Nat => s.heap.size ≤ q) b := Nat.not_le.mpr hbl
  have hj : x_J lo co := hW.1.2.1.1
  refine lv_aload_n hx hb dL_law_630 rfl (lv_at hl 1 rfl) ?_
  refine l_arg 1 cx hX hbl hbA hW.1.2.2 hl hL (by omega) dL_law_631 dL_law_632 dL_law_633 rfl dL_law_634 dL_law_635 ?_
  refine l_arg 2 cx hX hbl hbA hW.1.2.2 hl hL (by omega) dL_law_636 dL_law_637 dL_law_638 rfl dL_law_639 dL_law_640 ?_
  refine l_arg 3 cx hX hbl hbA hW.1.2.2 hl hL (by omega) dL_law_641 dL_law_642 dL_law_643 rfl dL_law_644 dL_law_645 ?_
  refine l_zrV (t := 0) (av := [.int (xs (i + 1)), .int (xs (i + 2)), .int (xs (i + 3))]) (rest := []) hZ cx hk hW hA hd.1 cv_RL_61_9 (dw_sums dd S X hd hS (xs (i + 1)) (xs (i + 2)) (xs (i + 3))) hl.1 rfl rfl (Nat.le_of_ble_eq_true rfl) ⟨by decide, by decide⟩ ⟨by show ce + 3 ≤ 600000; omega, by show sl + 71 ≤ 7302250; omega⟩ dL_law_646 (fun v_ lo1 co1 H locs hq_ hW => ?_)
  obtain ⟨hv_, e0, X1, hd1⟩ := hq_
  subst hv_
  rw [← e0] at hl
  refine lv_aload_n hx hb dL_law_649 rfl (lv_at hl 2 rfl) ?_
  refine l_arg 1 cx hX hbl hbA hW.1.2.2 hl hL (by omega) dL_law_650 dL_law_651 dL_law_652 rfl dL_law_653 dL_law_654 ?_
  refine l_arg 2 cx hX hbl hbA hW.1.2.2 hl hL (by omega) dL_law_655 dL_law_656 dL_law_657 rfl dL_law_658 dL_law_659 ?_
  refine l_arg 3 cx hX hbl hbA hW.1.2.2 hl hL (by omega) dL_law_660 dL_law_661 dL_law_662 rfl dL_law_663 dL_law_664 ?_
  have hm := m_isM G lm S mm
  refine l_wrV (t := 0) (av := [.int (xs (i + 1)), .int (xs (i + 2)), .int (xs (i + 3))]) (rest := [.int (P_sums S (xs (i + 1)) (xs (i + 2)) (xs (i + 3))).1]) cx hk hW.swap hA hm.1 cv_RL_64_10 (w_sums S mm hS hM hInv.2.1 (xs (i + 1)) (xs (i + 2)) (xs (i + 3))) hl.1 rfl rfl (Nat.le_of_ble_eq_true rfl) ⟨by decide, by decide⟩ ⟨by show ce + 3 + 0 ≤ 600000; omega, by show sl + 71 + 0 ≤ 7302250; omega⟩ dL_law_665 (fun v_ lm1 cm1 H locs hq_ hW => ?_)
  obtain ⟨hv_, hlm, m1, hM1, hcm⟩ := hq_
  subst hv_ hlm hcm
  refine lv_icmp_eq (tgt := 974) hx hb dL_law_668 (by decide) (fun _ => ?_) (fun h => absurd rfl h)
  exact next _ _ _ _ (by omega) (by omega) ⟨(P_sums S (xs (i + 1)) (xs (i + 2)) (xs (i + 3))).2, X1, m1, lo1, lm1, co1, inv_sums hInv (xs (i + 1)) (xs (i + 2)) (xs (i + 3)), hM1, hd1, hW.swap, hl⟩
set_option maxHeartbeats 8000000 in
set_option maxRecDepth 100000 in
theorem law_build {p : Program} {l : Launch} {e : Env} {s : State} {m : MethodId} {below : List Frame} {meth : Method} {c : Code} {b L i ce sl dd mi : Nat} {xs : Nat → Int32} {G : x_G} {Q : State → Prop} {H : Heap} {locs : List Loc} {ls : Array Slot} (cx : CallFix p m c cL_law 4 s #[Value.ref b] x_gw RL) (hk : x_K G s) (hZ : z_Z dd mi (fun q : Nat => s.heap.size ≤ q) s s.heap) (hX : va_X b L xs s s.heap) (hbl : b < s.heap.size) (hL : L ≤ 3584) (hi : i + 7 ≤ L) (hce : ce + 5 ≤ 600000) (hsl : sl + 262 ≤ 7302250) (hI : l_S s G dd b i H locs ls)
    (next : ∀ (ce1 sl1 : Nat) (H1 : Heap) (locs1 : List Loc), ce1 ≤ ce + 5 → sl1 ≤ sl + 262 → l_S s G dd b i H1 locs1 ls → W p l e room_1 s m #[Value.ref b] below meth c H1 locs1 ce1 sl1 Q (F0 m 974 ls [])) : W p l e room_1 s m #[Value.ref b] below meth c H locs ce sl Q (F0 m 673 ls []) := by
  obtain ⟨S, X, mm, lo, lm, co, hInv, hM, hd, hW, hl⟩ := hI
  have hS := hInv.1
  have hx := cx.1
  have hb := cx.2.1
  have hA : ∀ q : Nat, s.heap.size ≤ q → (fun q : Nat => s.heap.size ≤ q) q := fun _ h => h
  have hbA : ¬ (fun q : Nat => s.heap.size ≤ q) b := Nat.not_le.mpr hbl
  have hj : x_J lo co := hW.1.2.1.1
  refine lv_aload_n hx hb dL_law_673 rfl (lv_at hl 1 rfl) ?_
  refine l_arg 1 cx hX hbl hbA hW.1.2.2 hl hL (by omega) dL_law_674 dL_law_675 dL_law_676 rfl dL_law_677 dL_law_678 ?_
  refine l_arg 2 cx hX hbl hbA hW.1.2.2 hl hL (by omega) dL_law_679 dL_law_680 dL_law_681 rfl dL_law_682 dL_law_683 ?_
  refine l_bool cx dL_law_684 dL_law_687 dL_law_688 dL_law_691 ⟨rfl, rfl, rfl, rfl⟩ ?_
  refine l_wrV (t := 0) (av := [.int (xs (i + 1)), .int (bI (!decide (xs (i + 2) = 0)))]) (rest := []) cx hk hW hA hd.1 cv_RL_65_9 (dw_build dd S X hd hj hS hInv.2.2.1 hInv.2.2.2.1 (xs (i + 1)) (!decide (xs (i + 2) = 0))) hl.1 rfl rfl (Nat.le_of_ble_eq_true rfl) ⟨by decide, by decide⟩ ⟨by show ce + 0 ≤ 600000; omega, by show sl + 0 ≤ 7302250; omega⟩ dL_law_692 (fun v_ lo1 co1 H locs hq_ hW => ?_)
  obtain ⟨hv_, e0, X1, hd1⟩ := hq_
  subst hv_
  rw [← e0] at hl
  refine lv_aload_n hx hb dL_law_695 rfl (lv_at hl 2 rfl) ?_
  refine l_arg 1 cx hX hbl hbA hW.1.2.2 hl hL (by omega) dL_law_696 dL_law_697 dL_law_698 rfl dL_law_699 dL_law_700 ?_
  refine l_arg 2 cx hX hbl hbA hW.1.2.2 hl hL (by omega) dL_law_701 dL_law_702 dL_law_703 rfl dL_law_704 dL_law_705 ?_
  refine l_bool cx dL_law_706 dL_law_709 dL_law_710 dL_law_713 ⟨rfl, rfl, rfl, rfl⟩ ?_
  have hm := m_isM G lm S mm
  refine l_wrV (t := 0) (av := [.int (xs (i + 1)), .int (bI (!decide (xs (i + 2) = 0)))]) (rest := [.int (bI (P_build S (xs (i + 1)) (!decide (xs (i + 2) = 0))).1)]) cx hk hW.swap hA hm.1 cv_RL_69_10 (w_build S mm hS hM (xs (i + 1)) (!decide (xs (i + 2) = 0))) hl.1 rfl rfl (Nat.le_of_ble_eq_true rfl) ⟨by decide, by decide⟩ ⟨by show ce + 0 + 0 ≤ 600000; omega, by show sl + 0 + 0 ≤ 7302250; omega⟩ dL_law_714 (fun v_ lm1 cm1 H locs hq_ hW => ?_)
  obtain ⟨hv_, hlm, m1, hM1, hcm⟩ := hq_
  subst hv_ hlm hcm
  refine lv_icmp_eq (tgt := 974) hx hb dL_law_717 (by decide) (fun _ => ?_) (fun h => absurd rfl h)
  exact next _ _ _ _ (by omega) (by omega) ⟨(P_build S (xs (i + 1)) (!decide (xs (i + 2) = 0))).2, X1, m1, lo1, lm1, co1, inv_build hInv (xs (i + 1)) (!decide (xs (i + 2) = 0)), hM1, hd1, hW.swap, hl⟩
set_option maxHeartbeats 8000000 in
set_option maxRecDepth 100000 in
theorem law_look {p : Program} {l : Launch} {e : Env} {s : State} {m : MethodId} {below : List Frame} {meth : Method} {c : Code} {b L i ce sl dd mi : Nat} {xs : Nat → Int32} {G : x_G} {Q : State → Prop} {H : Heap} {locs : List Loc} {ls : Array Slot} (cx : CallFix p m c cL_law 4 s #[Value.ref b] x_gw RL) (hk : x_K G s) (hZ : z_Z dd mi (fun q : Nat => s.heap.size ≤ q) s s.heap) (hX : va_X b L xs s s.heap) (hbl : b < s.heap.size) (hL : L ≤ 3584) (hi : i + 7 ≤ L) (hce : ce + 5 ≤ 600000) (hsl : sl + 262 ≤ 7302250) (hI : l_S s G dd b i H locs ls)
    (next : ∀ (ce1 sl1 : Nat) (H1 : Heap) (locs1 : List Loc), ce1 ≤ ce + 5 → sl1 ≤ sl + 262 → l_S s G dd b i H1 locs1 ls → W p l e room_1 s m #[Value.ref b] below meth c H1 locs1 ce1 sl1 Q (F0 m 974 ls [])) : W p l e room_1 s m #[Value.ref b] below meth c H locs ce sl Q (F0 m 722 ls []) := by
  obtain ⟨S, X, mm, lo, lm, co, hInv, hM, hd, hW, hl⟩ := hI
  have hS := hInv.1
  have hx := cx.1
  have hb := cx.2.1
  have hA : ∀ q : Nat, s.heap.size ≤ q → (fun q : Nat => s.heap.size ≤ q) q := fun _ h => h
  have hbA : ¬ (fun q : Nat => s.heap.size ≤ q) b := Nat.not_le.mpr hbl
  have hj : x_J lo co := hW.1.2.1.1
  refine lv_aload_n hx hb dL_law_722 rfl (lv_at hl 1 rfl) ?_
  refine l_arg 1 cx hX hbl hbA hW.1.2.2 hl hL (by omega) dL_law_723 dL_law_724 dL_law_725 rfl dL_law_726 dL_law_727 ?_
  refine l_arg 2 cx hX hbl hbA hW.1.2.2 hl hL (by omega) dL_law_728 dL_law_729 dL_law_730 rfl dL_law_731 dL_law_732 ?_
  refine l_wrV (t := 0) (av := [.int (xs (i + 1)), .int (xs (i + 2))]) (rest := []) cx hk hW hA hd.1 cv_RL_70_9 (dw_look dd S X hd hj hS hInv.2.2.1 hInv.2.2.2.1 hInv.2.2.2.2 (xs (i + 1)) (xs (i + 2))) hl.1 rfl rfl (Nat.le_of_ble_eq_true rfl) ⟨by decide, by decide⟩ ⟨by show ce + 0 ≤ 600000; omega, by show sl + 0 ≤ 7302250; omega⟩ dL_law_733 (fun v_ lo1 co1 H locs hq_ hW => ?_)
  obtain ⟨hv_, e0, X1, hd1⟩ := hq_
  subst hv_
  rw [← e0] at hl
  refine lv_aload_n hx hb dL_law_736 rfl (lv_at hl 2 rfl) ?_
  refine l_arg 1 cx hX hbl hbA hW.1.2.2 hl hL (by omega) dL_law_737 dL_law_738 dL_law_739 rfl dL_law_740 dL_law_741 ?_
  refine l_arg 2 cx hX hbl hbA hW.1.2.2 hl hL (by omega) dL_law_742 dL_law_743 dL_law_744 rfl dL_law_745 dL_law_746 ?_
  have hm := m_isM G lm S mm
  refine x_rdV (av := [.int (xs (i + 1)), .int (xs (i + 2))]) (rest := [.long (P_look S (xs (i + 1)) (xs (i + 2)))]) cx hk hW.2.1 hm.1 cv_RL_74_10 (m_look_ S mm hm hS hM (xs (i + 1)) (xs (i + 2))) hl.1 rfl rfl (Nat.le_of_ble_eq_true rfl) ⟨by decide, by decide⟩ ⟨by show ce + 0 ≤ 600000; omega, by show sl + 0 ≤ 7302250; omega⟩ dL_law_747 ?_
  refine W.lcmp hx hb dL_law_750 ?_
  refine lv_if_eq (tgt := 974) hx hb dL_law_751 (by decide) (fun _ => ?_) (fun h => absurd (lg_cmp_self _) h)
  exact next _ _ _ _ (by omega) (by omega) ⟨S, X1, mm, lo1, lm, co1, hInv, hM, hd1, hW, hl⟩
set_option maxHeartbeats 8000000 in
set_option maxRecDepth 100000 in
theorem law_cost {p : Program} {l : Launch} {e : Env} {s : State} {m : MethodId} {below : List Frame} {meth : Method} {c : Code} {b L i ce sl dd mi : Nat} {xs : Nat → Int32} {G : x_G} {Q : State → Prop} {H : Heap} {locs : List Loc} {ls : Array Slot} (cx : CallFix p m c cL_law 4 s #[Value.ref b] x_gw RL) (hk : x_K G s) (hZ : z_Z dd mi (fun q : Nat => s.heap.size ≤ q) s s.heap) (hX : va_X b L xs s s.heap) (hbl : b < s.heap.size) (hL : L ≤ 3584) (hi : i + 7 ≤ L) (hce : ce + 5 ≤ 600000) (hsl : sl + 262 ≤ 7302250) (hI : l_S s G dd b i H locs ls)
    (next : ∀ (ce1 sl1 : Nat) (H1 : Heap) (locs1 : List Loc), ce1 ≤ ce + 5 → sl1 ≤ sl + 262 → l_S s G dd b i H1 locs1 ls → W p l e room_1 s m #[Value.ref b] below meth c H1 locs1 ce1 sl1 Q (F0 m 974 ls [])) : W p l e room_1 s m #[Value.ref b] below meth c H locs ce sl Q (F0 m 756 ls []) := by
  obtain ⟨S, X, mm, lo, lm, co, hInv, hM, hd, hW, hl⟩ := hI
  have hS := hInv.1
  have hx := cx.1
  have hb := cx.2.1
  have hA : ∀ q : Nat, s.heap.size ≤ q → (fun q : Nat => s.heap.size ≤ q) q := fun _ h => h
  have hbA : ¬ (fun q : Nat => s.heap.size ≤ q) b := Nat.not_le.mpr hbl
  have hj : x_J lo co := hW.1.2.1.1
  refine lv_aload_n hx hb dL_law_756 rfl (lv_at hl 1 rfl) ?_
  refine l_arg 1 cx hX hbl hbA hW.1.2.2 hl hL (by omega) dL_law_757 dL_law_758 dL_law_759 rfl dL_law_760 dL_law_761 ?_
  refine l_arg 2 cx hX hbl hbA hW.1.2.2 hl hL (by omega) dL_law_762 dL_law_763 dL_law_764 rfl dL_law_765 dL_law_766 ?_
  refine x_rdV (av := [.int (xs (i + 1)), .int (xs (i + 2))]) (rest := []) cx hk hW.1.1 hd.1 cv_RL_75_9 (d_cost dd S X hd hj hS (xs (i + 1)) (xs (i + 2))) hl.1 rfl rfl (Nat.le_of_ble_eq_true rfl) ⟨by decide, by decide⟩ ⟨by show ce ≤ 600000; omega, by show sl ≤ 7302250; omega⟩ dL_law_767 ?_
  refine lv_aload_n hx hb dL_law_770 rfl (lv_at hl 2 rfl) ?_
  refine l_arg 1 cx hX hbl hbA hW.1.2.2 hl hL (by omega) dL_law_771 dL_law_772 dL_law_773 rfl dL_law_774 dL_law_775 ?_
  refine l_arg 2 cx hX hbl hbA hW.1.2.2 hl hL (by omega) dL_law_776 dL_law_777 dL_law_778 rfl dL_law_779 dL_law_780 ?_
  have hm := m_isM G lm S mm
  refine x_rdV (av := [.int (xs (i + 1)), .int (xs (i + 2))]) (rest := [.int (P_cost S (xs (i + 1)) (xs (i + 2)))]) cx hk hW.2.1 hm.1 cv_RL_79_10 (m_cost_ S mm hm hS hM (xs (i + 1)) (xs (i + 2))) hl.1 rfl rfl (Nat.le_of_ble_eq_true rfl) ⟨by decide, by decide⟩ ⟨by show ce ≤ 600000; omega, by show sl ≤ 7302250; omega⟩ dL_law_781 ?_
  refine lv_icmp_eq (tgt := 974) hx hb dL_law_784 (by decide) (fun _ => ?_) (fun h => absurd rfl h)
  exact next _ _ _ _ (by omega) (by omega) ⟨S, X, mm, lo, lm, co, hInv, hM, hd, hW, hl⟩
set_option maxHeartbeats 8000000 in
set_option maxRecDepth 100000 in
theorem law_plan {p : Program} {l : Launch} {e : Env} {s : State} {m : MethodId} {below : List Frame} {meth : Method} {c : Code} {b L i ce sl dd mi : Nat} {xs : Nat → Int32} {G : x_G} {Q : State → Prop} {H : Heap} {locs : List Loc} {ls : Array Slot} (cx : CallFix p m c cL_law 4 s #[Value.ref b] x_gw RL) (hk : x_K G s) (hZ : z_Z dd mi (fun q : Nat => s.heap.size ≤ q) s s.heap) (hX : va_X b L xs s s.heap) (hbl : b < s.heap.size) (hL : L ≤ 3584) (hi : i + 7 ≤ L) (hce : ce + 5 ≤ 600000) (hsl : sl + 262 ≤ 7302250) (hI : l_S s G dd b i H locs ls)
    (next : ∀ (ce1 sl1 : Nat) (H1 : Heap) (locs1 : List Loc), ce1 ≤ ce + 5 → sl1 ≤ sl + 262 → l_S s G dd b i H1 locs1 ls → W p l e room_1 s m #[Value.ref b] below meth c H1 locs1 ce1 sl1 Q (F0 m 974 ls [])) : W p l e room_1 s m #[Value.ref b] below meth c H locs ce sl Q (F0 m 789 ls []) := by
  obtain ⟨S, X, mm, lo, lm, co, hInv, hM, hd, hW, hl⟩ := hI
  have hS := hInv.1
  have hx := cx.1
  have hb := cx.2.1
  have hA : ∀ q : Nat, s.heap.size ≤ q → (fun q : Nat => s.heap.size ≤ q) q := fun _ h => h
  have hbA : ¬ (fun q : Nat => s.heap.size ≤ q) b := Nat.not_le.mpr hbl
  have hj : x_J lo co := hW.1.2.1.1
  refine lv_aload_n hx hb dL_law_789 rfl (lv_at hl 1 rfl) ?_
  refine l_arg 1 cx hX hbl hbA hW.1.2.2 hl hL (by omega) dL_law_790 dL_law_791 dL_law_792 rfl dL_law_793 dL_law_794 ?_
  refine x_rdV (av := [.int (xs (i + 1))]) (rest := []) cx hk hW.1.1 hd.1 cv_RL_80_9 (d_plan dd S X hd hj hS (xs (i + 1))) hl.1 rfl rfl (Nat.le_of_ble_eq_true rfl) ⟨by decide, by decide⟩ ⟨by show ce ≤ 600000; omega, by show sl ≤ 7302250; omega⟩ dL_law_795 ?_
  refine lv_aload_n hx hb dL_law_798 rfl (lv_at hl 2 rfl) ?_
  refine l_arg 1 cx hX hbl hbA hW.1.2.2 hl hL (by omega) dL_law_799 dL_law_800 dL_law_801 rfl dL_law_802 dL_law_803 ?_
  have hm := m_isM G lm S mm
  refine x_rdV (av := [.int (xs (i + 1))]) (rest := [.int (P_plan S (xs (i + 1)))]) cx hk hW.2.1 hm.1 cv_RL_83_10 (m_plan_ S mm hm hS hM (xs (i + 1))) hl.1 rfl rfl (Nat.le_of_ble_eq_true rfl) ⟨by decide, by decide⟩ ⟨by show ce ≤ 600000; omega, by show sl ≤ 7302250; omega⟩ dL_law_804 ?_
  refine lv_icmp_eq (tgt := 974) hx hb dL_law_807 (by decide) (fun _ => ?_) (fun h => absurd rfl h)
  exact next _ _ _ _ (by omega) (by omega) ⟨S, X, mm, lo, lm, co, hInv, hM, hd, hW, hl⟩
set_option maxHeartbeats 8000000 in
set_option maxRecDepth 100000 in
theorem law_run {p : Program} {l : Launch} {e : Env} {s : State} {m : MethodId} {below : List Frame} {meth : Method} {c : Code} {b L i ce sl dd mi : Nat} {xs : Nat → Int32} {G : x_G} {Q : State → Prop} {H : Heap} {locs : List Loc} {ls : Array Slot} (cx : CallFix p m c cL_law 4 s #[Value.ref b] x_gw RL) (hk : x_K G s) (hZ : z_Z dd mi (fun q : Nat => s.heap.size ≤ q) s s.heap) (hX : va_X b L xs s s.heap) (hbl : b < s.heap.size) (hL : L ≤ 3584) (hi : i + 7 ≤ L) (hce : ce + 5 ≤ 600000) (hsl : sl + 262 ≤ 7302250) (hI : l_S s G dd b i H locs ls)
    (next : ∀ (ce1 sl1 : Nat) (H1 : Heap) (locs1 : List Loc), ce1 ≤ ce + 5 → sl1 ≤ sl + 262 → l_S s G dd b i H1 locs1 ls → W p l e room_1 s m #[Value.ref b] below meth c H1 locs1 ce1 sl1 Q (F0 m 974 ls [])) : W p l e room_1 s m #[Value.ref b] below meth c H locs ce sl Q (F0 m 812 ls []) := by
  obtain ⟨S, X, mm, lo, lm, co, hInv, hM, hd, hW, hl⟩ := hI
  have hS := hInv.1
  have hx := cx.1
  have hb := cx.2.1
  have hA : ∀ q : Nat, s.heap.size ≤ q → (fun q : Nat => s.heap.size ≤ q) q := fun _ h => h
  have hbA : ¬ (fun q : Nat => s.heap.size ≤ q) b := Nat.not_le.mpr hbl
  have hj : x_J lo co := hW.1.2.1.1
  refine lv_aload_n hx hb dL_law_812 rfl (lv_at hl 1 rfl) ?_
  refine l_arg 1 cx hX hbl hbA hW.1.2.2 hl hL (by omega) dL_law_813 dL_law_814 dL_law_815 rfl dL_law_816 dL_law_817 ?_
  refine l_arg 2 cx hX hbl hbA hW.1.2.2 hl hL (by omega) dL_law_818 dL_law_819 dL_law_820 rfl dL_law_821 dL_law_822 ?_
  refine x_rdV (av := [.int (xs (i + 1)), .int (xs (i + 2))]) (rest := []) cx hk hW.1.1 hd.1 cv_RL_84_9 (d_run dd S X hd hj hS (xs (i + 1)) (xs (i + 2))) hl.1 rfl rfl (Nat.le_of_ble_eq_true rfl) ⟨by decide, by decide⟩ ⟨by show ce ≤ 600000; omega, by show sl ≤ 7302250; omega⟩ dL_law_823 ?_
  refine lv_aload_n hx hb dL_law_826 rfl (lv_at hl 2 rfl) ?_
  refine l_arg 1 cx hX hbl hbA hW.1.2.2 hl hL (by omega) dL_law_827 dL_law_828 dL_law_829 rfl dL_law_830 dL_law_831 ?_
  refine l_arg 2 cx hX hbl hbA hW.1.2.2 hl hL (by omega) dL_law_832 dL_law_833 dL_law_834 rfl dL_law_835 dL_law_836 ?_
  have hm := m_isM G lm S mm
  refine x_rdV (av := [.int (xs (i + 1)), .int (xs (i + 2))]) (rest := [.int (P_run S (xs (i + 1)) (xs (i + 2)))]) cx hk hW.2.1 hm.1 cv_RL_87_10 (m_run_ S mm hm hS hM (xs (i + 1)) (xs (i + 2))) hl.1 rfl rfl (Nat.le_of_ble_eq_true rfl) ⟨by decide, by decide⟩ ⟨by show ce ≤ 600000; omega, by show sl ≤ 7302250; omega⟩ dL_law_837 ?_
  refine lv_icmp_eq (tgt := 974) hx hb dL_law_840 (by decide) (fun _ => ?_) (fun h => absurd rfl h)
  exact next _ _ _ _ (by omega) (by omega) ⟨S, X, mm, lo, lm, co, hInv, hM, hd, hW, hl⟩
set_option maxHeartbeats 8000000 in
set_option maxRecDepth 100000 in
theorem law_total {p : Program} {l : Launch} {e : Env} {s : State} {m : MethodId} {below : List Frame} {meth : Method} {c : Code} {b L i ce sl dd mi : Nat} {xs : Nat → Int32} {G : x_G} {Q : State → Prop} {H : Heap} {locs : List Loc} {ls : Array Slot} (cx : CallFix p m c cL_law 4 s #[Value.ref b] x_gw RL) (hk : x_K G s) (hZ : z_Z dd mi (fun q : Nat => s.heap.size ≤ q) s s.heap) (hX : va_X b L xs s s.heap) (hbl : b < s.heap.size) (hL : L ≤ 3584) (hi : i + 7 ≤ L) (hce : ce + 5 ≤ 600000) (hsl : sl + 262 ≤ 7302250) (hI : l_S s G dd b i H locs ls)
    (next : ∀ (ce1 sl1 : Nat) (H1 : Heap) (locs1 : List Loc), ce1 ≤ ce + 5 → sl1 ≤ sl + 262 → l_S s G dd b i H1 locs1 ls → W p l e room_1 s m #[Value.ref b] below meth c H1 locs1 ce1 sl1 Q (F0 m 974 ls [])) : W p l e room_1 s m #[Value.ref b] below meth c H locs ce sl Q (F0 m 845 ls []) := by
  obtain ⟨S, X, mm, lo, lm, co, hInv, hM, hd, hW, hl⟩ := hI
  have hS := hInv.1
  have hx := cx.1
  have hb := cx.2.1
  have hA : ∀ q : Nat, s.heap.size ≤ q → (fun q : Nat => s.heap.size ≤ q) q := fun _ h => h
  have hbA : ¬ (fun q : Nat => s.heap.size ≤ q) b := Nat.not_le.mpr hbl
  have hj : x_J lo co := hW.1.2.1.1
  refine lv_aload_n hx hb dL_law_845 rfl (lv_at hl 1 rfl) ?_
  refine l_arg 1 cx hX hbl hbA hW.1.2.2 hl hL (by omega) dL_law_846 dL_law_847 dL_law_848 rfl dL_law_849 dL_law_850 ?_
  refine l_wrV (t := 0) (av := [.int (xs (i + 1))]) (rest := []) cx hk hW hA hd.1 cv_RL_88_9 (dw_total dd S X hd hj hS hInv.2.2.1 hInv.2.2.2.1 hInv.2.2.2.2 (xs (i + 1))) hl.1 rfl rfl (Nat.le_of_ble_eq_true rfl) ⟨by decide, by decide⟩ ⟨by show ce + 0 ≤ 600000; omega, by show sl + 0 ≤ 7302250; omega⟩ dL_law_851 (fun v_ lo1 co1 H locs hq_ hW => ?_)
  obtain ⟨hv_, e0, X1, hd1⟩ := hq_
  subst hv_
  rw [← e0] at hl
  refine lv_aload_n hx hb dL_law_854 rfl (lv_at hl 2 rfl) ?_
  refine l_arg 1 cx hX hbl hbA hW.1.2.2 hl hL (by omega) dL_law_855 dL_law_856 dL_law_857 rfl dL_law_858 dL_law_859 ?_
  have hm := m_isM G lm S mm
  refine x_rdV (av := [.int (xs (i + 1))]) (rest := [.long (P_total S (xs (i + 1)))]) cx hk hW.2.1 hm.1 cv_RL_92_10 (m_total_ S mm hm hS hM (xs (i + 1))) hl.1 rfl rfl (Nat.le_of_ble_eq_true rfl) ⟨by decide, by decide⟩ ⟨by show ce + 0 ≤ 600000; omega, by show sl + 0 ≤ 7302250; omega⟩ dL_law_860 ?_
  refine W.lcmp hx hb dL_law_863 ?_
  refine lv_if_eq (tgt := 974) hx hb dL_law_864 (by decide) (fun _ => ?_) (fun h => absurd (lg_cmp_self _) h)
  exact next _ _ _ _ (by omega) (by omega) ⟨S, X1, mm, lo1, lm, co1, hInv, hM, hd1, hW, hl⟩
set_option maxHeartbeats 8000000 in
set_option maxRecDepth 100000 in
theorem law_room {p : Program} {l : Launch} {e : Env} {s : State} {m : MethodId} {below : List Frame} {meth : Method} {c : Code} {b L i ce sl dd mi : Nat} {xs : Nat → Int32} {G : x_G} {Q : State → Prop} {H : Heap} {locs : List Loc} {ls : Array Slot} (cx : CallFix p m c cL_law 4 s #[Value.ref b] x_gw RL) (hk : x_K G s) (hZ : z_Z dd mi (fun q : Nat => s.heap.size ≤ q) s s.heap) (hX : va_X b L xs s s.heap) (hbl : b < s.heap.size) (hL : L ≤ 3584) (hi : i + 7 ≤ L) (hce : ce + 5 ≤ 600000) (hsl : sl + 262 ≤ 7302250) (hI : l_S s G dd b i H locs ls)
    (next : ∀ (ce1 sl1 : Nat) (H1 : Heap) (locs1 : List Loc), ce1 ≤ ce + 5 → sl1 ≤ sl + 262 → l_S s G dd b i H1 locs1 ls → W p l e room_1 s m #[Value.ref b] below meth c H1 locs1 ce1 sl1 Q (F0 m 974 ls [])) : W p l e room_1 s m #[Value.ref b] below meth c H locs ce sl Q (F0 m 869 ls []) := by
  obtain ⟨S, X, mm, lo, lm, co, hInv, hM, hd, hW, hl⟩ := hI
  have hS := hInv.1
  have hx := cx.1
  have hb := cx.2.1
  have hA : ∀ q : Nat, s.heap.size ≤ q → (fun q : Nat => s.heap.size ≤ q) q := fun _ h => h
  have hbA : ¬ (fun q : Nat => s.heap.size ≤ q) b := Nat.not_le.mpr hbl
  have hj : x_J lo co := hW.1.2.1.1
  refine lv_aload_n hx hb dL_law_869 rfl (lv_at hl 1 rfl) ?_
  refine l_arg 1 cx hX hbl hbA hW.1.2.2 hl hL (by omega) dL_law_870 dL_law_871 dL_law_872 rfl dL_law_873 dL_law_874 ?_
  refine x_rdV (av := [.int (xs (i + 1))]) (rest := []) cx hk hW.1.1 hd.1 cv_RL_93_9 (d_room dd S X hd hj hS (xs (i + 1))) hl.1 rfl rfl (Nat.le_of_ble_eq_true rfl) ⟨by decide, by decide⟩ ⟨by show ce ≤ 600000; omega, by show sl ≤ 7302250; omega⟩ dL_law_875 ?_
  refine lv_aload_n hx hb dL_law_878 rfl (lv_at hl 2 rfl) ?_
  refine l_arg 1 cx hX hbl hbA hW.1.2.2 hl hL (by omega) dL_law_879 dL_law_880 dL_law_881 rfl dL_law_882 dL_law_883 ?_
  have hm := m_isM G lm S mm
  refine x_rdV (av := [.int (xs (i + 1))]) (rest := [.int (P_room S (xs (i + 1)))]) cx hk hW.2.1 hm.1 cv_RL_96_10 (m_room_ S mm hm hS hM (xs (i + 1))) hl.1 rfl rfl (Nat.le_of_ble_eq_true rfl) ⟨by decide, by decide⟩ ⟨by show ce ≤ 600000; omega, by show sl ≤ 7302250; omega⟩ dL_law_884 ?_
  refine lv_icmp_eq (tgt := 974) hx hb dL_law_887 (by decide) (fun _ => ?_) (fun h => absurd rfl h)
  exact next _ _ _ _ (by omega) (by omega) ⟨S, X, mm, lo, lm, co, hInv, hM, hd, hW, hl⟩
set_option maxHeartbeats 8000000 in
set_option maxRecDepth 100000 in
theorem law_built {p : Program} {l : Launch} {e : Env} {s : State} {m : MethodId} {below : List Frame} {meth : Method} {c : Code} {b L i ce sl dd mi : Nat} {xs : Nat → Int32} {G : x_G} {Q : State → Prop} {H : Heap} {locs : List Loc} {ls : Array Slot} (cx : CallFix p m c cL_law 4 s #[Value.ref b] x_gw RL) (hk : x_K G s) (hZ : z_Z dd mi (fun q : Nat => s.heap.size ≤ q) s s.heap) (hX : va_X b L xs s s.heap) (hbl : b < s.heap.size) (hL : L ≤ 3584) (hi : i + 7 ≤ L) (hce : ce + 5 ≤ 600000) (hsl : sl + 262 ≤ 7302250) (hI : l_S s G dd b i H locs ls)
    (next : ∀ (ce1 sl1 : Nat) (H1 : Heap) (locs1 : List Loc), ce1 ≤ ce + 5 → sl1 ≤ sl + 262 → l_S s G dd b i H1 locs1 ls → W p l e room_1 s m #[Value.ref b] below meth c H1 locs1 ce1 sl1 Q (F0 m 974 ls [])) : W p l e room_1 s m #[Value.ref b] below meth c H locs ce sl Q (F0 m 892 ls []) := by
  obtain ⟨S, X, mm, lo, lm, co, hInv, hM, hd, hW, hl⟩ := hI
  have hS := hInv.1
  have hx := cx.1
  have hb := cx.2.1
  have hA : ∀ q : Nat, s.heap.size ≤ q → (fun q : Nat => s.heap.size ≤ q) q := fun _ h => h
  have hbA : ¬ (fun q : Nat => s.heap.size ≤ q) b := Nat.not_le.mpr hbl
  have hj : x_J lo co := hW.1.2.1.1
  refine lv_aload_n hx hb dL_law_892 rfl (lv_at hl 1 rfl) ?_
  refine x_rdV (av := []) (rest := []) cx hk hW.1.1 hd.1 cv_RL_97_9 (d_built dd S X hd hj hS) hl.1 rfl rfl (Nat.le_of_ble_eq_true rfl) ⟨by decide, by decide⟩ ⟨by show ce ≤ 600000; omega, by show sl ≤ 7302250; omega⟩ dL_law_893 ?_
  refine lv_aload_n hx hb dL_law_896 rfl (lv_at hl 2 rfl) ?_
  have hm := m_isM G lm S mm
  refine x_rdV (av := []) (rest := [.int (nI (sn S 2))]) cx hk hW.2.1 hm.1 cv_RL_101_10 (m_built_ S mm hm hS) hl.1 rfl rfl (Nat.le_of_ble_eq_true rfl) ⟨by decide, by decide⟩ ⟨by show ce ≤ 600000; omega, by show sl ≤ 7302250; omega⟩ dL_law_897 ?_
  refine lv_icmp_eq (tgt := 974) hx hb dL_law_900 (by decide) (fun _ => ?_) (fun h => absurd rfl h)
  exact next _ _ _ _ (by omega) (by omega) ⟨S, X, mm, lo, lm, co, hInv, hM, hd, hW, hl⟩
set_option maxHeartbeats 8000000 in
set_option maxRecDepth 100000 in
theorem law_choose {p : Program} {l : Launch} {e : Env} {s : State} {m : MethodId} {below : List Frame} {meth : Method} {c : Code} {b L i ce sl dd mi : Nat} {xs : Nat → Int32} {G : x_G} {Q : State → Prop} {H : Heap} {locs : List Loc} {ls : Array Slot} (cx : CallFix p m c cL_law 4 s #[Value.ref b] x_gw RL) (hk : x_K G s) (hZ : z_Z dd mi (fun q : Nat => s.heap.size ≤ q) s s.heap) (hX : va_X b L xs s s.heap) (hbl : b < s.heap.size) (hL : L ≤ 3584) (hi : i + 7 ≤ L) (hce : ce + 5 ≤ 600000) (hsl : sl + 262 ≤ 7302250) (hI : l_S s G dd b i H locs ls)
    (next : ∀ (ce1 sl1 : Nat) (H1 : Heap) (locs1 : List Loc), ce1 ≤ ce + 5 → sl1 ≤ sl + 262 → l_S s G dd b i H1 locs1 ls → W p l e room_1 s m #[Value.ref b] below meth c H1 locs1 ce1 sl1 Q (F0 m 974 ls [])) : W p l e room_1 s m #[Value.ref b] below meth c H locs ce sl Q (F0 m 905 ls []) := by
  obtain ⟨S, X, mm, lo, lm, co, hInv, hM, hd, hW, hl⟩ := hI
  have hS := hInv.1
  have hx := cx.1
  have hb := cx.2.1
  have hA : ∀ q : Nat, s.heap.size ≤ q → (fun q : Nat => s.heap.size ≤ q) q := fun _ h => h
  have hbA : ¬ (fun q : Nat => s.heap.size ≤ q) b := Nat.not_le.mpr hbl
  have hj : x_J lo co := hW.1.2.1.1
  refine lv_aload_n hx hb dL_law_905 rfl (lv_at hl 1 rfl) ?_
  refine l_arg 1 cx hX hbl hbA hW.1.2.2 hl hL (by omega) dL_law_906 dL_law_907 dL_law_908 rfl dL_law_909 dL_law_910 ?_
  refine l_wrV (t := 0) (av := [.int (xs (i + 1))]) (rest := []) cx hk hW hA hd.1 cv_RL_102_9 (dw_choose dd S X hd hj hS hInv.2.2.1 hInv.2.2.2.1 hInv.2.2.2.2 (xs (i + 1))) hl.1 rfl rfl (Nat.le_of_ble_eq_true rfl) ⟨by decide, by decide⟩ ⟨by show ce + 0 ≤ 600000; omega, by show sl + 0 ≤ 7302250; omega⟩ dL_law_911 (fun v_ lo1 co1 H locs hq_ hW => ?_)
  obtain ⟨hv_, e0, X1, hd1⟩ := hq_
  subst hv_
  rw [← e0] at hl
  refine lv_aload_n hx hb dL_law_914 rfl (lv_at hl 2 rfl) ?_
  refine l_arg 1 cx hX hbl hbA hW.1.2.2 hl hL (by omega) dL_law_915 dL_law_916 dL_law_917 rfl dL_law_918 dL_law_919 ?_
  have hm := m_isM G lm S mm
  refine l_wrV (t := 0) (av := [.int (xs (i + 1))]) (rest := [.int (P_choose S (xs (i + 1)))]) cx hk hW.swap hA hm.1 cv_RL_105_10 (w_choose S mm hS hM (xs (i + 1))) hl.1 rfl rfl (Nat.le_of_ble_eq_true rfl) ⟨by decide, by decide⟩ ⟨by show ce + 0 + 0 ≤ 600000; omega, by show sl + 0 + 0 ≤ 7302250; omega⟩ dL_law_920 (fun v_ lm1 cm1 H locs hq_ hW => ?_)
  obtain ⟨hv_, hlm, m1, hM1, hcm⟩ := hq_
  subst hv_ hlm hcm
  refine lv_icmp_eq (tgt := 974) hx hb dL_law_923 (by decide) (fun _ => ?_) (fun h => absurd rfl h)
  exact next _ _ _ _ (by omega) (by omega) ⟨S, X1, m1, lo1, lm1, co1, hInv, hM1, hd1, hW.swap, hl⟩
set_option maxHeartbeats 8000000 in
set_option maxRecDepth 100000 in
theorem law_greedy {p : Program} {l : Launch} {e : Env} {s : State} {m : MethodId} {below : List Frame} {meth : Method} {c : Code} {b L i ce sl dd mi : Nat} {xs : Nat → Int32} {G : x_G} {Q : State → Prop} {H : Heap} {locs : List Loc} {ls : Array Slot} (cx : CallFix p m c cL_law 4 s #[Value.ref b] x_gw RL) (hk : x_K G s) (hZ : z_Z dd mi (fun q : Nat => s.heap.size ≤ q) s s.heap) (hX : va_X b L xs s s.heap) (hbl : b < s.heap.size) (hL : L ≤ 3584) (hi : i + 7 ≤ L) (hce : ce + 5 ≤ 600000) (hsl : sl + 262 ≤ 7302250) (hI : l_S s G dd b i H locs ls)
    (next : ∀ (ce1 sl1 : Nat) (H1 : Heap) (locs1 : List Loc), ce1 ≤ ce + 5 → sl1 ≤ sl + 262 → l_S s G dd b i H1 locs1 ls → W p l e room_1 s m #[Value.ref b] below meth c H1 locs1 ce1 sl1 Q (F0 m 974 ls [])) : W p l e room_1 s m #[Value.ref b] below meth c H locs ce sl Q (F0 m 928 ls []) := by
  obtain ⟨S, X, mm, lo, lm, co, hInv, hM, hd, hW, hl⟩ := hI
  have hS := hInv.1
  have hx := cx.1
  have hb := cx.2.1
  have hA : ∀ q : Nat, s.heap.size ≤ q → (fun q : Nat => s.heap.size ≤ q) q := fun _ h => h
  have hbA : ¬ (fun q : Nat => s.heap.size ≤ q) b := Nat.not_le.mpr hbl
  have hj : x_J lo co := hW.1.2.1.1
  refine lv_aload_n hx hb dL_law_928 rfl (lv_at hl 1 rfl) ?_
  refine l_arg 1 cx hX hbl hbA hW.1.2.2 hl hL (by omega) dL_law_929 dL_law_930 dL_law_931 rfl dL_law_932 dL_law_933 ?_
  refine l_wrV (t := 0) (av := [.int (xs (i + 1))]) (rest := []) cx hk hW hA hd.1 cv_RL_106_9 (dw_greedy dd S X hd hj hS hInv.2.2.1 hInv.2.2.2.1 hInv.2.2.2.2 (xs (i + 1))) hl.1 rfl rfl (Nat.le_of_ble_eq_true rfl) ⟨by decide, by decide⟩ ⟨by show ce + 0 ≤ 600000; omega, by show sl + 0 ≤ 7302250; omega⟩ dL_law_934 (fun v_ lo1 co1 H locs hq_ hW => ?_)
  obtain ⟨hv_, e0, X1, hd1⟩ := hq_
  subst hv_
  rw [← e0] at hl
  refine lv_aload_n hx hb dL_law_937 rfl (lv_at hl 2 rfl) ?_
  refine l_arg 1 cx hX hbl hbA hW.1.2.2 hl hL (by omega) dL_law_938 dL_law_939 dL_law_940 rfl dL_law_941 dL_law_942 ?_
  have hm := m_isM G lm S mm
  refine l_wrV (t := 0) (av := [.int (xs (i + 1))]) (rest := [.int (P_greedy S (xs (i + 1)))]) cx hk hW.swap hA hm.1 cv_RL_109_10 (w_greedy S mm hS hM (xs (i + 1))) hl.1 rfl rfl (Nat.le_of_ble_eq_true rfl) ⟨by decide, by decide⟩ ⟨by show ce + 0 + 0 ≤ 600000; omega, by show sl + 0 + 0 ≤ 7302250; omega⟩ dL_law_943 (fun v_ lm1 cm1 H locs hq_ hW => ?_)
  obtain ⟨hv_, hlm, m1, hM1, hcm⟩ := hq_
  subst hv_ hlm hcm
  refine lv_icmp_eq (tgt := 974) hx hb dL_law_946 (by decide) (fun _ => ?_) (fun h => absurd rfl h)
  exact next _ _ _ _ (by omega) (by omega) ⟨S, X1, m1, lo1, lm1, co1, hInv, hM1, hd1, hW.swap, hl⟩
set_option maxHeartbeats 8000000 in
set_option maxRecDepth 100000 in
theorem law_count {p : Program} {l : Launch} {e : Env} {s : State} {m : MethodId} {below : List Frame} {meth : Method} {c : Code} {b L i ce sl dd mi : Nat} {xs : Nat → Int32} {G : x_G} {Q : State → Prop} {H : Heap} {locs : List Loc} {ls : Array Slot} (cx : CallFix p m c cL_law 4 s #[Value.ref b] x_gw RL) (hk : x_K G s) (hZ : z_Z dd mi (fun q : Nat => s.heap.size ≤ q) s s.heap) (hX : va_X b L xs s s.heap) (hbl : b < s.heap.size) (hL : L ≤ 3584) (hi : i + 7 ≤ L) (hce : ce + 5 ≤ 600000) (hsl : sl + 262 ≤ 7302250) (hI : l_S s G dd b i H locs ls)
    (next : ∀ (ce1 sl1 : Nat) (H1 : Heap) (locs1 : List Loc), ce1 ≤ ce + 5 → sl1 ≤ sl + 262 → l_S s G dd b i H1 locs1 ls → W p l e room_1 s m #[Value.ref b] below meth c H1 locs1 ce1 sl1 Q (F0 m 974 ls [])) : W p l e room_1 s m #[Value.ref b] below meth c H locs ce sl Q (F0 m 951 ls []) := by
  obtain ⟨S, X, mm, lo, lm, co, hInv, hM, hd, hW, hl⟩ := hI
  have hS := hInv.1
  have hx := cx.1
  have hb := cx.2.1
  have hA : ∀ q : Nat, s.heap.size ≤ q → (fun q : Nat => s.heap.size ≤ q) q := fun _ h => h
  have hbA : ¬ (fun q : Nat => s.heap.size ≤ q) b := Nat.not_le.mpr hbl
  have hj : x_J lo co := hW.1.2.1.1
  refine lv_aload_n hx hb dL_law_951 rfl (lv_at hl 1 rfl) ?_
  refine l_arg 1 cx hX hbl hbA hW.1.2.2 hl hL (by omega) dL_law_952 dL_law_953 dL_law_954 rfl dL_law_955 dL_law_956 ?_
  refine x_rdV (av := [.int (xs (i + 1))]) (rest := []) cx hk hW.1.1 hd.1 cv_RL_110_9 (d_count dd S X hd hj hS (xs (i + 1))) hl.1 rfl rfl (Nat.le_of_ble_eq_true rfl) ⟨by decide, by decide⟩ ⟨by show ce ≤ 600000; omega, by show sl ≤ 7302250; omega⟩ dL_law_957 ?_
  refine lv_aload_n hx hb dL_law_960 rfl (lv_at hl 2 rfl) ?_
  refine l_arg 1 cx hX hbl hbA hW.1.2.2 hl hL (by omega) dL_law_961 dL_law_962 dL_law_963 rfl dL_law_964 dL_law_965 ?_
  have hm := m_isM G lm S mm
  refine x_rdV (av := [.int (xs (i + 1))]) (rest := [.int (P_count S (xs (i + 1)))]) cx hk hW.2.1 hm.1 cv_RL_113_10 (m_count_ S mm hm hS (xs (i + 1))) hl.1 rfl rfl (Nat.le_of_ble_eq_true rfl) ⟨by decide, by decide⟩ ⟨by show ce ≤ 600000; omega, by show sl ≤ 7302250; omega⟩ dL_law_966 ?_
  refine lv_icmp_eq (tgt := 974) hx hb dL_law_969 (by decide) (fun _ => ?_) (fun h => absurd rfl h)
  exact next _ _ _ _ (by omega) (by omega) ⟨S, X, mm, lo, lm, co, hInv, hM, hd, hW, hl⟩
