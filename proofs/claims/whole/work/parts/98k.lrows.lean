/-! the law's rows: two worlds side by side -/
def l_W (A : Nat → Prop) (G : x_G) (H0 : Heap) (lo : x_L) (co : x_C) (lm : x_L) (cm : x_C) (H : Heap) (locs : List Loc) : Prop := x_D A G H0 lo co H locs ∧ x_R G lm cm H ∧ x_I A lm cm ∧ ∀ t u, co t ≠ none → cm u ≠ none → lo t ≠ lm u
theorem l_W.swap {A : Nat → Prop} {G : x_G} {H0 : Heap} {lo lm : x_L} {co cm : x_C} {H : Heap} {locs : List Loc} (h : l_W A G H0 lo co lm cm H locs) : l_W A G H0 lm cm lo co H locs := ⟨⟨h.2.1, h.2.2.1, h.1.2.2⟩, h.1.1, h.1.2.1, fun t u h1 h2 q => h.2.2.2 u t h2 h1 q.symm⟩
theorem l_split {A : Nat → Prop} {G : x_G} {H0 : Heap} {lo : x_L} {co : x_C} {H : Heap} {locs : List Loc} {u : Nat} {e : va_E} (h : x_D A G H0 lo (va_up co u (some e)) H locs) (hu : co u = none) : l_W A G H0 lo co (fun _ => lo u) (fun t => if t = 0 then some e else none) H locs := by
  have key : ∀ t, co t ≠ none → va_up co u (some e) t ≠ none ∧ t ≠ u := fun t ht => by
    have q : t ≠ u := fun q => ht (by rw [q, hu])
    exact ⟨by rw [va_up_ne _ _ q]; exact ht, q⟩
  have hue : va_up co u (some e) u ≠ none := by rw [va_up_self]; exact fun z => by cases z
  have h0 : ∀ t : Nat, (if t = 0 then some e else none : Option va_E) ≠ none → t = 0 := fun t ht => by
    by_cases q : t = 0
    · exact q
    · rw [if_neg q] at ht; exact absurd rfl ht
  refine ⟨⟨fun t e' ht => ?_, ⟨fun t v ht hv hq => h.2.1.1 t v (key t ht).1 (key v hv).1 hq, fun t ht => h.2.1.2 t (key t ht).1⟩, h.2.2⟩, fun t e' ht => ?_, ⟨fun t v ht hv _ => by rw [h0 t ht, h0 v hv], fun t _ => h.2.1.2 u hue⟩, fun t v ht _ hq => ?_⟩
  · refine h.1 t e' ?_
    rw [va_up_ne _ _ (key t (by rw [ht]; exact fun z => by cases z)).2]
    exact ht
  · have ht : (if t = 0 then some e else none) = some e' := ht
    by_cases q : t = 0
    · rw [if_pos q] at ht
      cases ht
      exact h.1 u e (va_up_self _ _ _)
    · rw [if_neg q] at ht; cases ht
  · exact (key t ht).2 (h.2.1.1 t u (key t ht).1 hue hq)
section XW40
variable {p : Program} {l : Launch} {e : Env} {R : Room} {s : State} {m : MethodId} {args : Array Value} {below : List Frame} {meth : Method} {c : Code} {H : Heap} {locs : List Loc} {cells slots : Nat} {Q : State → Prop}
variable {cc : ByteArray} {pc : Nat} {ls : Array Slot} {rest : List Value} {G : x_G} {lo lm : x_L} {co cm : x_C} {nL : Nat} {own : String} {A : Nat → Prop} {dd mi : Nat} {H0 : Heap}
theorem l_cr {post : Option Value → x_L → x_C → Prop} {st0 : List Value} {a : Array Value} {mc ms : Nat} (hr : va_Run p l e R s m args below meth c H locs cells slots mc ms (F0 m pc ls st0) rest (x_Qw post G (x_A lo co H.size) a) (x_A lo co H.size)) (hW : l_W A G H0 lo co lm cm H locs) (hA : ∀ q, H0.size ≤ q → A q)
    (kk : ∀ (v : Option Value) (lo1 : x_L) (co1 : x_C) (H1 : Heap) (locs1 : List Loc), post v lo1 co1 → l_W A G H0 lo1 co1 lm cm H1 locs1 → W p l e R s m args below meth c H1 locs1 (cells + mc) (slots + ms) Q (F0 m (pc + 3) ls (v.toList ++ rest))) : W p l e R s m args below meth c H locs cells slots Q (F0 m pc ls st0) := by
  have hsub : ∀ q, x_A lo co H.size q → A q := fun q h => h.elim (fun ⟨t, h1, h2⟩ => h2 ▸ hW.1.2.1.2 t h1) (fun h => hA q (Nat.le_trans hW.1.2.2.1 h))
  have hlt : ∀ u, cm u ≠ none → lm u < H.size := fun u hu => by
    cases q : cm u with
    | none => exact absurd q hu
    | some e' => exact (hW.2.1 u e' q).lt
  have hout : ∀ u, cm u ≠ none → ¬ x_A lo co H.size (lm u) := fun u hu h => h.elim (fun ⟨t, h1, h2⟩ => hW.2.2.2 t u h1 hu h2) (fun h => absurd (hlt u hu) (Nat.not_lt.mpr h))
  intro T hT X
  obtain ⟨v', st₀, t, T', L, h0, X', hL, e1, e2, ⟨v, lo1, co1, hv, hp, hR1, hI1, hz, hkk⟩, st⟩ := hr T hT X
  cases hv
  rw [h0] at hz hkk
  have hS := hW.1.2.2
  obtain ⟨t2, a1, b1⟩ := kk v' lo1 co1 T'.heap (locs ++ L) hp ⟨⟨by rw [e1]; exact hR1, ⟨hI1.1, fun u hu => hsub _ (hI1.2 u hu)⟩, ⟨Nat.le_trans hS.1 (by rw [e1]; exact hz), fun q h1 h2 => by rw [e1, hkk q (Nat.lt_of_lt_of_le h1 hS.1) (fun z => h2 (hsub q z))]; exact hS.2.1 q h1 h2, fun q hq => by
      rcases List.mem_append.mp hq with h | h
      · exact hS.2.2 q h
      · exact hsub _ (hL q h)⟩⟩, fun u e' hu => by
      have hn : cm u ≠ none := by rw [hu]; exact fun z => by cases z
      exact (hW.2.1 u e' hu).kept (by rw [e1]; exact hkk _ (hlt u hn) (hout u hn)), hW.2.2.1, fun t u h1 h2 hq => hout u h2 (hq ▸ hI1.2 t h1)⟩ T' rfl X'
  exact ⟨t2, st t2 a1, b1⟩
theorem l_wrV {y : MethodName} {cb : ByteArray} {n d index k ci t mc ms : Nat} {r : Option FieldType} {av st fs : List Value} {post : Option Value → x_L → x_C → Prop} (cx : CallFix p m c cc nL s args x_gw own) (hk : x_K G s) (hW : l_W A G H0 lo co lm cm H locs) (hA : ∀ q, H0.size ≤ q → A q) (ha : co t = some (.inr (ci, fs))) (hS : x_V own index ci y cb n r k) (hc : x_Wr l G lo co y cb n r d mc ms (.ref (lo t) :: av) post)
    (hl : ls.size = nL) (hn : av.length = k) (hst : st = av.reverse ++ .ref (lo t) :: rest) (hwd : (rest.map fun v => v.category).sum ≤ 8) (hR : d + 1 ≤ R.frames ∧ 8 + (n + 11) + 40 * d ≤ R.locals) (hf : cells + mc ≤ R.cells ∧ slots + ms ≤ R.slots) (hdg : decode cc pc = .ok (.invokevirtual index, 3))
    (kk : ∀ (v : Option Value) (lo1 : x_L) (co1 : x_C) (H1 : Heap) (locs1 : List Loc), post v lo1 co1 → l_W A G H0 lo1 co1 lm cm H1 locs1 → W p l e R s m args below meth c H1 locs1 (cells + mc) (slots + ms) Q (F0 m (pc + 3) ls (v.toList ++ rest))) : W p l e R s m args below meth c H locs cells slots Q (F0 m pc ls st) := by
  obtain ⟨C, T, N, h0, h1, h2, h3, h4, h5, h6⟩ := hS
  exact l_cr (va_runV (As := av) (rest := rest) cx (hc hW.1.2.1.1 H.size) (cwV k cx.2.2.2.2 (x_goodcons h1 (x_goodcons h2 (x_goodcons h3 (x_goodcons h4 (x_good (y := y) (cc := cb) (n := n) (r := r) h5))))) rfl rfl rfl h6 hR) ⟨y_blind, va_recv hk.1 (hW.1.1.P ha) h0 (q0 := 0) rfl, fun U hU hWm => ⟨rfl, by rw [hU], by rw [hU]; exact hW.1.1, hk.warm hWm⟩⟩ rfl hn hl hst (by simpa [F0, JFrame.monitorRoom] using hwd) hdg hf) hW hA kk
theorem l_zrV {y : MethodName} {cb : ByteArray} {n d index k ci t mc ms : Nat} {r : Option FieldType} {av st fs : List Value} {post : Option Value → x_L → x_C → Prop} (hZ : z_Z dd mi A s s.heap) (cx : CallFix p m c cc nL s args x_gw own) (hk : x_K G s) (hW : l_W A G s.heap lo co lm cm H locs) (hA : ∀ q, s.heap.size ≤ q → A q) (ha : co t = some (.inr (ci, fs))) (hS : x_V own index ci y cb n r k) (hc : z_Wr l dd mi G lo co y cb n r d mc ms (.ref (lo t) :: av) post)
    (hl : ls.size = nL) (hn : av.length = k) (hst : st = av.reverse ++ .ref (lo t) :: rest) (hwd : (rest.map fun v => v.category).sum ≤ 8) (hR : d + 1 ≤ R.frames ∧ 8 + (n + 11) + 40 * d ≤ R.locals) (hf : cells + mc ≤ R.cells ∧ slots + ms ≤ R.slots) (hdg : decode cc pc = .ok (.invokevirtual index, 3))
    (kk : ∀ (v : Option Value) (lo1 : x_L) (co1 : x_C) (H1 : Heap) (locs1 : List Loc), post v lo1 co1 → l_W A G s.heap lo1 co1 lm cm H1 locs1 → W p l e R s m args below meth c H1 locs1 (cells + mc) (slots + ms) Q (F0 m (pc + 3) ls (v.toList ++ rest))) : W p l e R s m args below meth c H locs cells slots Q (F0 m pc ls st) := by
  obtain ⟨C, T, N, h0, h1, h2, h3, h4, h5, h6⟩ := hS
  exact l_cr (va_runV (As := av) (rest := rest) cx (hc hW.1.2.1.1 H.size) (cwV k cx.2.2.2.2 (x_goodcons h1 (x_goodcons h2 (x_goodcons h3 (x_goodcons h4 (x_good (y := y) (cc := cb) (n := n) (r := r) h5))))) rfl rfl rfl h6 hR) ⟨z_blind, va_recv hk.1 (hW.1.1.P ha) h0 (q0 := 0) rfl, fun U hU hWm => ⟨rfl, by rw [hU], by rw [hU]; exact hW.1.1, hk.warm hWm, z_call hZ hW.1 hA hU hWm⟩⟩ rfl hn hl hst (by simpa [F0, JFrame.monitorRoom] using hwd) hdg hf) hW hA kk
theorem l_wrI {y : MethodName} {cb : ByteArray} {n d index k t mc ms : Nat} {av st : List Value} {post : Option Value → x_L → x_C → Prop} (cx : CallFix p m c cc nL s args x_gw own) (hk : x_K G s) (hW : l_W A G H0 lo co lm cm H locs) (hA : ∀ q, H0.size ≤ q → A q) (hS : x_I0 own index y cb n k) (hc : x_Wr l G lo co y cb n none d mc ms (.ref (lo t) :: av) post)
    (hl : ls.size = nL) (hn : av.length = k) (hst : st = av.reverse ++ .ref (lo t) :: rest) (hwd : (rest.map fun v => v.category).sum ≤ 8) (hR : d + 1 ≤ R.frames ∧ 8 + (n + 11) + 40 * d ≤ R.locals) (hf : cells + mc ≤ R.cells ∧ slots + ms ≤ R.slots) (hdg : decode cc pc = .ok (.invokespecial index, 3))
    (kk : ∀ (v : Option Value) (lo1 : x_L) (co1 : x_C) (H1 : Heap) (locs1 : List Loc), post v lo1 co1 → l_W A G H0 lo1 co1 lm cm H1 locs1 → W p l e R s m args below meth c H1 locs1 (cells + mc) (slots + ms) Q (F0 m (pc + 3) ls (v.toList ++ rest))) : W p l e R s m args below meth c H locs cells slots Q (F0 m pc ls st) := by
  obtain ⟨h1, h2, h3, h4, h5, h6⟩ := hS
  exact l_cr (va_runI (As := av) (rest := rest) cx (hc hW.1.2.1.1 H.size) (cwI k cx.2.2.2.2 (x_good (y := y) (cc := cb) (n := n) (r := none) h4) rfl rfl rfl (cx.2.2.2.2 _ h3) (cx.2.2.2.2 _ h1) (cx.2.2.2.2 _ h2) h5 h6 hR) ⟨y_blind, fun U hU hWm => ⟨rfl, by rw [hU], by rw [hU]; exact hW.1.1, hk.warm hWm⟩⟩ rfl hn hl hst (by simpa [F0, JFrame.monitorRoom] using hwd) hdg hf) hW hA kk
/-- an int of the script -/
theorem l_arg {b L i : Nat} {xs : Nat → Int32} {q1 q2 : Value} (j : Nat) (cx : CallFix p m c cc nL s args x_gw own) (hX : va_X b L xs s H0) (hbl : b < H0.size) (hbA : ¬ A b) (hS : va_S A H0 H locs) (hl : lv_has ls 4 [(0, .ref b), (1, q1), (2, q2), (3, .int (nI i))]) (hL : L ≤ 3584) (hj : i + j < L) (h0 : decode cc pc = .ok (.aload_n 0, 1)) (h1 : decode cc (pc + 1) = .ok (.iload_n 3, 1)) {z : Int} (h2 : decode cc (pc + 2) = .ok (.iconst z, 1)) (hz : Int32.ofInt z = nI j) (h3 : decode cc (pc + 3) = .ok (.iadd, 1)) (h4 : decode cc (pc + 4) = .ok (.iaload, 1))
    (kk : W p l e R s m args below meth c H locs cells slots Q (F0 m (pc + 5) ls (.int (xs (i + j)) :: rest))) : W p l e R s m args below meth c H locs cells slots Q (F0 m pc ls rest) := by
  refine lv_aload_n cx.1 cx.2.1 h0 rfl (lv_at hl 0 rfl) ?_
  refine lv_iload_n cx.1 cx.2.1 h1 rfl (lv_at hl 3 rfl) ?_
  refine lv_iconst (v := nI j) cx.1 cx.2.1 h2 hz ?_
  refine x_iaddN cx h3 ?_
  refine va_sld cx.1 cx.2.1 hX hbl hbA hS (vp_in_nI hj (by omega)) h4 ?_
  rw [nI_clamp (by omega)]
  exact kk
theorem l_arg6 {b L i : Nat} {xs : Nat → Int32} {q1 q2 : Value} (j : Nat) (cx : CallFix p m c cc nL s args x_gw own) (hX : va_X b L xs s H0) (hbl : b < H0.size) (hbA : ¬ A b) (hS : va_S A H0 H locs) (hl : lv_has ls 4 [(0, .ref b), (1, q1), (2, q2), (3, .int (nI i))]) (hL : L ≤ 3584) (hj : i + j < L) (h0 : decode cc pc = .ok (.aload_n 0, 1)) (h1 : decode cc (pc + 1) = .ok (.iload_n 3, 1)) {z : Int} (h2 : decode cc (pc + 2) = .ok (.bipush z, 2)) (hz : (Int8.ofInt z).toInt32 = nI j) (h3 : decode cc (pc + 4) = .ok (.iadd, 1)) (h4 : decode cc (pc + 5) = .ok (.iaload, 1))
    (kk : W p l e R s m args below meth c H locs cells slots Q (F0 m (pc + 6) ls (.int (xs (i + j)) :: rest))) : W p l e R s m args below meth c H locs cells slots Q (F0 m pc ls rest) := by
  refine lv_aload_n cx.1 cx.2.1 h0 rfl (lv_at hl 0 rfl) ?_
  refine lv_iload_n cx.1 cx.2.1 h1 rfl (lv_at hl 3 rfl) ?_
  refine lv_bipush (v := nI j) cx.1 cx.2.1 h2 hz ?_
  refine x_iaddN cx h3 ?_
  refine va_sld cx.1 cx.2.1 hX hbl hbA hS (vp_in_nI hj (by omega)) h4 ?_
  rw [nI_clamp (by omega)]
  exact kk
end XW40
/-- what holds at the head of the law's loop -/
def l_S (s : State) (G : x_G) (dd b i : Nat) (H : Heap) (locs : List Loc) (ls : Array Slot) : Prop := ∃ (S : St) (X : Sc) (mm : Nat → Nat → Int32) (lo lm : x_L) (co : x_C), Inv S ∧ Mok S mm ∧ isDk G lo co dd S X ∧ l_W (fun q : Nat => s.heap.size ≤ q) G s.heap lo co lm (mco G lm (nS S) (mS S mm)) H locs ∧ lv_has ls 4 [(0, .ref b), (1, .ref (lo 0)), (2, .ref (lm 0)), (3, .int (nI i))]
