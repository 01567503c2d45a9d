def R_law : String := "IndexDeskLaw"
def lw_P (b : Addr) (xs : List Int32) (args : Array Value) (s : State) : Prop := args = #[.ref b] ∧ s.IntsAt b xs ∧ xs.length ≤ 3584 ∧ (Jvm.Cond.and given_1 narrow_1).before args s = true
def lw_Q (_ : Array Value) (s : State) (o : Outcome) (t : State) : Prop := o = .returned (some (.int 1)) ∧ Framed s o t [] 600000 7302250
def lw_Z (below : List Frame) (a : Array Value) (s : State) : State → Prop := fun t => ∃ o, t.status = .running ∧ Ended t below o ∧ lw_Q a s o t
/-- the law's own end, with 1 on the stack, nothing written that was there before, its room as the claim has it -/
theorem lw_ret {p : Program} {l : Launch} {e : Env} {s : State} {m : MethodId} {below : List Frame} {meth : Method} {c : Code} {b : Nat} (hx : p.tables.exec = Jvm.exec) (hb : c.code = code) (hr : meth.sig.returnType = ret) (hlocks : meth.locks = false) {pc : Nat} {H : Heap} {ls : Array Slot} (hdg : decode code pc = .ok (.ireturn, 1)) : W p l e room_1 s m #[Value.ref b] below meth c H [] 600000 7302250 (lw_Z below #[Value.ref b] s) (F0 m pc ls [.int 1]) := by
  intro T hT X
  obtain ⟨fs, hret, hrun, hended, hW, hframe⟩ := X.leave (v := some (.int 1)) (hlocks := hlocks) (fun h => by rw [hr] at h; cases h)
  have hmeth' : T.vm.method? m = some meth := X.method'
  refine ⟨T.setFrames fs, ?_, .returned (some (.int 1)), hrun, hended, rfl, ⟨_, rfl⟩, hW, hframe⟩
  jvm_step X.here [X.here.top, hx, hb, hdg, hmeth', hr, ret, narrow_b1]
  (try refine ⟨rfl, ?_⟩); (try refine ⟨rfl, ?_⟩)
  first | (intro acts; rw [hret _ acts rfl rfl rfl]) | rw [hret _ _ rfl rfl rfl]
  exact Steps.refl _
/-- what holds at the law's entry: the machine, the code, the tables' words (any of lw_tbl by 'hts w (by decide +kernel)'), the script of L ints xs at the cell b, what the Statement gives of the start (any of its parts by flat_of_before) -/
def lw_At (p : Program) (s : State) (m : MethodId) (meth : Method) (c : Code) (b L : Nat) (xs : Nat → Int32) : Prop :=
  p.tables.exec = Jvm.exec ∧ c.code = code ∧ meth.sig.returnType = ret ∧ c.maxLocals = 4 ∧ s.vm.findClass R_law = some m.cls ∧ (∀ w ∈ lw_tbl, w.before #[Value.ref b] s = true) ∧ va_X b L xs s s.heap ∧ b < s.heap.size ∧ meth.locks = false ∧ (Jvm.Cond.and given_1 narrow_1).before #[Value.ref b] s = true
theorem dk_lo {G : x_G} {lo lo1 : x_L} {co : x_C} {dd : Nat} {S : St} {X : Sc} (h : isDk G lo co dd S X) (hS : Sok S) (hl : ∀ i, i ≠ 14 → lo1 i = lo i) : isDk G lo1 co dd S X := by
  obtain ⟨d0, ⟨ft, d1, d1f⟩, d2, d3, d4, d5, d6, d7, d8, d9, d10⟩ := h
  have s2 := hS.2.1
  have s3 := hS.2.2.1
  exact ⟨by rw [hl 1 (by decide), hl 2 (by decide), hl 4 (by decide), hl 6 (by decide)]; exact d0, ⟨ft, d1, fun t ht => by rw [hl (tT t) (by unfold tT; omega)]; exact d1f t ht⟩, d2.of rfl rfl (hl 3 (by decide)) (fun q hq => hl _ (by unfold tQ; omega)), d3.of rfl rfl (hl 5 (by decide)) (fun q hq => hl _ (by unfold tA; omega)), d4.of2 (fun _ _ _ _ => rfl) (fun i _ _ h => hl i h), fun u hu hu2 => (d5 u hu hu2).of (fun _ _ => rfl) (fun i hi => hl _ (by unfold tT; omega)), fun q hq => (d6 q hq).of (fun _ _ => rfl) (fun i hi => hl _ (by unfold tQ; omega)) (hl _ (by unfold tT; omega)), fun a ha => (d7 a ha).of (fun _ _ => rfl) (fun i hi => hl _ (by unfold tA; omega)) (hl _ (by unfold tT; omega)), d8, d9, d10⟩
theorem law_lt {i L : Nat} (hL : L ≤ 3584) (hi : i ≤ 3584) (h : ¬ Int32.ofNat L - nI 7 < nI i) : i + 7 ≤ L := by
  have h : ¬ nI L - nI 7 < nI i := h
  by_cases h7 : 7 ≤ L
  · rw [pk_sub h7, nI_ltI (by omega) (by omega)] at h
    omega
  · exfalso
    apply h
    rw [Int32.lt_iff_toInt_lt, nI_toInt (show i < 2 ^ 31 by omega)]
    have key : ∀ k, k < 7 → (nI k - nI 7).toInt < 0 := by decide
    have := key L (by omega)
    omega
set_option maxHeartbeats 8000000 in
set_option maxRecDepth 100000 in
theorem law_loop {p : Program} {l : Launch} {e : Env} {s : State} {m : MethodId} {below : List Frame} {meth : Method} {c : Code} {b L dd mi : Nat} {xs : Nat → Int32} {G : x_G} (hL : L ≤ 3584) (C0 : lw_At p s m meth c b L xs) (cx : CallFix p m c cL_law 4 s #[Value.ref b] x_gw RL) (hk : x_K G s) (hZ : z_Z dd mi (fun q : Nat => s.heap.size ≤ q) s s.heap) :
    ∀ (n i ce sl : Nat), i ≤ L → L + 7 ≤ i + 7 * n → ce + 5 * n ≤ 600000 → sl + 262 * n ≤ 7302250 → ∀ (H : Heap) (locs : List Loc) (ls : Array Slot), l_S s G dd b i H locs ls → W p l e room_1 s m #[Value.ref b] below meth c H locs ce sl (lw_Z below #[Value.ref b] s) (F0 m 18 ls []) := by
  obtain ⟨hx, hb, hr, hml, hown, hts, hX, hbl, hlocks, hgv⟩ := C0
  have hbA : ¬ (fun q : Nat => s.heap.size ≤ q) b := Nat.not_le.mpr hbl
  intro n
  induction n with
  | zero =>
    intro i ce sl h1 h2
    exact absurd h2 (by omega)
  | succ n ih =>
    intro i ce sl hi hin hce hsl H locs ls hI
    obtain ⟨S, X, mm, lo, lm, co, hInv, hM, hd, hW, hl⟩ := id hI
    refine lv_iload_n hx hb dL_law_18 rfl (lv_at hl 3 rfl) ?_
    refine lv_aload_n hx hb dL_law_19 rfl (lv_at hl 0 rfl) ?_
    refine va_slen hx hb hX hbl hbA hW.1.2.2 dL_law_20 ?_
    refine lv_bipush (v := nI 7) hx hb dL_law_21 rfl ?_
    refine lv_isub hx hb dL_law_23 ?_
    refine lv_icmp_gt (tgt := 980) hx hb dL_law_24 (by decide) (fun h24 => ?_) (fun h24 => ?_)
    · refine lv_iconst (v := 1) hx hb dL_law_980 (by decide) ?_
      refine va_forget (fun q hq => hW.1.2.2.2.2 q hq) ?_
      refine W.widen (k := 600000) (n := 7302250) (by omega) (by omega) ?_
      exact lw_ret hx hb hr hlocks dL_law_981
    have hlt : i + 7 ≤ L := law_lt hL (by omega) h24
    have next : ∀ (ce1 sl1 : Nat) (H1 : Heap) (locs1 : List Loc), ce1 ≤ ce + 5 → sl1 ≤ sl + 262 → l_S s G dd b i H1 locs1 ls → W p l e room_1 s m #[Value.ref b] below meth c H1 locs1 ce1 sl1 (lw_Z below #[Value.ref b] s) (F0 m 974 ls []) := fun ce1 sl1 H1 locs1 h1 h2 hI1 => by
      obtain ⟨S, X, mm, lo, lm, co, a1, a2, a3, a4, hl⟩ := hI1
      refine lv_iinc (v := nI (i + 7)) (lv' := [(3, .int (nI (i + 7))), (0, .ref b), (1, .ref (lo 0)), (2, .ref (lm 0))]) hx hb dL_law_974 hl (k := 3) rfl (nI_add i 7) (by decide) rfl (fun ls hl => ?_)
      refine lv_goto (tgt := 18) hx hb dL_law_977 (by decide) ?_
      exact ih (i + 7) ce1 sl1 hlt (by omega) (by omega) (by omega) _ _ _ ⟨S, X, mm, lo, lm, co, a1, a2, a3, a4, lv_sub hl [1, 2, 3, 0] rfl⟩
    refine lv_aload_n hx hb dL_law_27 rfl (lv_at hl 0 rfl) ?_
    refine lv_iload_n hx hb dL_law_28 rfl (lv_at hl 3 rfl) ?_
    refine va_sld hx hb hX hbl hbA hW.1.2.2 (vp_in_nI (show i < L by omega) (by omega)) dL_law_29 ?_
    refine lv_bipush (v := nI 31) hx hb dL_law_30 rfl ?_
    refine lv_iand hx hb dL_law_32 ?_
    generalize xs (nI i).toNatClampNeg &&& nI 31 = op
    by_cases h0 : op = 0
    · refine x_tin (v := 0) (tgt := 136) (off := 103) cx dL_law_33 h0 (by decide) (by decide) (by decide) (by decide) ?_
      exact law_table cx hk hZ hX hbl hL hlt (by omega) (by omega) hI next
    by_cases h1 : op = 1
    · refine x_tin (v := 1) (tgt := 179) (off := 146) cx dL_law_33 h1 (by decide) (by decide) (by decide) (by decide) ?_
      exact law_put cx hk hZ hX hbl hL hlt (by omega) (by omega) hI next
    by_cases h2 : op = 2
    · refine x_tin (v := 2) (tgt := 242) (off := 209) cx dL_law_33 h2 (by decide) (by decide) (by decide) (by decide) ?_
      exact law_strike cx hk hZ hX hbl hL hlt (by omega) (by omega) hI next
    by_cases h3 : op = 3
    · refine x_tin (v := 3) (tgt := 275) (off := 242) cx dL_law_33 h3 (by decide) (by decide) (by decide) (by decide) ?_
      exact law_recount cx hk hZ hX hbl hL hlt (by omega) (by omega) hI next
    by_cases h4 : op = 4
    · refine x_tin (v := 4) (tgt := 298) (off := 265) cx dL_law_33 h4 (by decide) (by decide) (by decide) (by decide) ?_
      exact law_counts cx hk hZ hX hbl hL hlt (by omega) (by omega) hI next
    by_cases h5 : op = 5
    · refine x_tin (v := 5) (tgt := 341) (off := 308) cx dL_law_33 h5 (by decide) (by decide) (by decide) (by decide) ?_
      exact law_changes cx hk hZ hX hbl hL hlt (by omega) (by omega) hI next
    by_cases h6 : op = 6
    · refine x_tin (v := 6) (tgt := 374) (off := 341) cx dL_law_33 h6 (by decide) (by decide) (by decide) (by decide) ?_
      exact law_question cx hk hZ hX hbl hL hlt (by omega) (by omega) hI next
    by_cases h7 : op = 7
    · refine x_tin (v := 7) (tgt := 427) (off := 394) cx dL_law_33 h7 (by decide) (by decide) (by decide) (by decide) ?_
      exact law_test cx hk hZ hX hbl hL hlt (by omega) (by omega) hI next
    by_cases h8 : op = 8
    · refine x_tin (v := 8) (tgt := 480) (off := 447) cx dL_law_33 h8 (by decide) (by decide) (by decide) (by decide) ?_
      exact law_order cx hk hZ hX hbl hL hlt (by omega) (by omega) hI next
    by_cases h9 : op = 9
    · refine x_tin (v := 9) (tgt := 555) (off := 522) cx dL_law_33 h9 (by decide) (by decide) (by decide) (by decide) ?_
      exact law_part cx hk hZ hX hbl hL hlt (by omega) (by omega) hI next
    by_cases h10 : op = 10
    · refine x_tin (v := 10) (tgt := 630) (off := 597) cx dL_law_33 h10 (by decide) (by decide) (by decide) (by decide) ?_
      exact law_sums cx hk hZ hX hbl hL hlt (by omega) (by omega) hI next
    by_cases h11 : op = 11
    · refine x_tin (v := 11) (tgt := 673) (off := 640) cx dL_law_33 h11 (by decide) (by decide) (by decide) (by decide) ?_
      exact law_build cx hk hZ hX hbl hL hlt (by omega) (by omega) hI next
    by_cases h12 : op = 12
    · refine x_tin (v := 12) (tgt := 722) (off := 689) cx dL_law_33 h12 (by decide) (by decide) (by decide) (by decide) ?_
      exact law_look cx hk hZ hX hbl hL hlt (by omega) (by omega) hI next
    by_cases h13 : op = 13
    · refine x_tin (v := 13) (tgt := 756) (off := 723) cx dL_law_33 h13 (by decide) (by decide) (by decide) (by decide) ?_
      exact law_cost cx hk hZ hX hbl hL hlt (by omega) (by omega) hI next
    by_cases h14 : op = 14
    · refine x_tin (v := 14) (tgt := 789) (off := 756) cx dL_law_33 h14 (by decide) (by decide) (by decide) (by decide) ?_
      exact law_plan cx hk hZ hX hbl hL hlt (by omega) (by omega) hI next
    by_cases h15 : op = 15
    · refine x_tin (v := 15) (tgt := 812) (off := 779) cx dL_law_33 h15 (by decide) (by decide) (by decide) (by decide) ?_
      exact law_run cx hk hZ hX hbl hL hlt (by omega) (by omega) hI next
    by_cases h16 : op = 16
    · refine x_tin (v := 16) (tgt := 845) (off := 812) cx dL_law_33 h16 (by decide) (by decide) (by decide) (by decide) ?_
      exact law_total cx hk hZ hX hbl hL hlt (by omega) (by omega) hI next
    by_cases h17 : op = 17
    · refine x_tin (v := 17) (tgt := 869) (off := 836) cx dL_law_33 h17 (by decide) (by decide) (by decide) (by decide) ?_
      exact law_room cx hk hZ hX hbl hL hlt (by omega) (by omega) hI next
    by_cases h18 : op = 18
    · refine x_tin (v := 18) (tgt := 892) (off := 859) cx dL_law_33 h18 (by decide) (by decide) (by decide) (by decide) ?_
      exact law_built cx hk hZ hX hbl hL hlt (by omega) (by omega) hI next
    by_cases h19 : op = 19
    · refine x_tin (v := 19) (tgt := 905) (off := 872) cx dL_law_33 h19 (by decide) (by decide) (by decide) (by decide) ?_
      exact law_choose cx hk hZ hX hbl hL hlt (by omega) (by omega) hI next
    by_cases h20 : op = 20
    · refine x_tin (v := 20) (tgt := 928) (off := 895) cx dL_law_33 h20 (by decide) (by decide) (by decide) (by decide) ?_
      exact law_greedy cx hk hZ hX hbl hL hlt (by omega) (by omega) hI next
    by_cases h21 : op = 21
    · refine x_tin (v := 21) (tgt := 951) (off := 918) cx dL_law_33 h21 (by decide) (by decide) (by decide) (by decide) ?_
      exact law_count cx hk hZ hX hbl hL hlt (by omega) (by omega) hI next
    refine x_tout (tgt := 974) (lo := 0) (hi := 21) cx dL_law_33 (by decide) (fun z z1 z2 => by rcases (show z = 0 ∨ z = 1 ∨ z = 2 ∨ z = 3 ∨ z = 4 ∨ z = 5 ∨ z = 6 ∨ z = 7 ∨ z = 8 ∨ z = 9 ∨ z = 10 ∨ z = 11 ∨ z = 12 ∨ z = 13 ∨ z = 14 ∨ z = 15 ∨ z = 16 ∨ z = 17 ∨ z = 18 ∨ z = 19 ∨ z = 20 ∨ z = 21 by omega) with rfl | rfl | rfl | rfl | rfl | rfl | rfl | rfl | rfl | rfl | rfl | rfl | rfl | rfl | rfl | rfl | rfl | rfl | rfl | rfl | rfl | rfl <;> (first | exact h0 | exact h1 | exact h2 | exact h3 | exact h4 | exact h5 | exact h6 | exact h7 | exact h8 | exact h9 | exact h10 | exact h11 | exact h12 | exact h13 | exact h14 | exact h15 | exact h16 | exact h17 | exact h18 | exact h19 | exact h20 | exact h21)) ?_
    exact next _ _ _ _ (by omega) (by omega) hI
set_option maxHeartbeats 8000000 in
set_option maxRecDepth 100000 in
/-- THE LAW, from its entry -/
theorem whole_start {p : Program} {e : Env} {s : State} {m : MethodId} {below : List Frame} {meth : Method} {c : Code} (l : Launch) {b L : Nat} {xs : Nat → Int32} (hL : L ≤ 3584) (C0 : lw_At p s m meth c b L xs) : W p l e room_1 s m #[Value.ref b] below meth c s.heap [] 0 0 (lw_Z below #[Value.ref b] s) (entryFrame m ([Value.ref b] : List Value).toArray 4) := by
  obtain ⟨hx, hb, hr, hml, hown, hts, hX, hbl, hlocks, hgv⟩ := id C0
  have hgw := l_gw hts
  obtain ⟨G, hk⟩ := l_K hts hgw
  obtain ⟨dd, mi, hZ⟩ := l_Z hts hgw hgv
  have cx : CallFix p m c cL_law 4 s #[Value.ref b] x_gw RL := ⟨hx, hb, hml, hown, hgw⟩
  have hA : ∀ q : Nat, s.heap.size ≤ q → (fun q : Nat => s.heap.size ≤ q) q := fun _ h => h
  have hl := lv_entry ([.ref b]) (n := 4) (Nat.le_of_ble_eq_true rfl)
  rw [lg_entry_eq]
  generalize (lg_sl ([.ref b]) ++ List.replicate (4 - (lg_sl ([.ref b])).length) Slot.unset).toArray = ls at hl ⊢
  have hl : lv_has ls 4 [(0, .ref b)] := hl
  have hW : x_D (fun q : Nat => s.heap.size ≤ q) G s.heap (fun _ => 0) (fun _ => none) s.heap [] := ⟨fun t e h => (by cases h), ⟨fun t u h => absurd rfl h, fun t h => absurd rfl h⟩, va_S.rf⟩
  refine x_new 0 cx hk hW hA rfl nw_RL_7 (by decide) (by decide) dL_law_0 (fun lo1 H hlo1 hW => ?_)
  refine lv_dup hx hb dL_law_3 rfl ?_
  refine z_wrI (t := 0) (av := []) (rest := [.ref (lo1 0)]) hZ cx hk hW hA ci_RL_9 (k_desk (va_up_self _ _ _) (fun t ht => va_up_ne _ _ ht)) hl.1 rfl rfl (Nat.le_of_ble_eq_true rfl) ⟨by decide, by decide⟩ ⟨by decide, by decide⟩ dL_law_4 (fun v_ lo2 co2 H locs hq_ hW => ?_)
  obtain ⟨hv_, e0, hd⟩ := hq_
  subst hv_
  show W _ _ _ _ _ _ _ _ _ _ _ _ _ _ _ (F0 _ _ _ [.ref (lo1 0)])
  rw [← e0]
  refine lv_astore_n (lv' := [(1, .ref (lo2 0)), (0, .ref b)]) hx hb dL_law_7 rfl hl (by decide) rfl (fun ls hl => ?_)
  have hW := hW.drop 14
  have h14 : va_up co2 14 none 14 = none := va_up_self _ _ _
  have hd := dk_free hd inv_0.1
  generalize va_up co2 14 none = co3 at hW h14 hd
  refine x_new 14 cx hk hW hA h14 nw_RL_10 (by decide) (by decide) dL_law_8 (fun lo3 H hlo3 hW => ?_)
  have hd := dk_lo hd inv_0.1 hlo3
  rw [← hlo3 0 (by decide)] at hl
  have hW := l_split hW h14
  refine lv_dup hx hb dL_law_11 rfl ?_
  refine l_wrI (t := 0) (av := []) (rest := [.ref (lo3 14)]) cx hk hW.swap hA ci_RL_12 (k_model rfl (fun i h => if_neg h)) hl.1 rfl rfl (Nat.le_of_ble_eq_true rfl) ⟨by decide, by decide⟩ ⟨by decide, by decide⟩ dL_law_12 (fun v_ lm1 cm1 H locs hq_ hW => ?_)
  obtain ⟨hv_, e1, hcm⟩ := hq_
  subst hv_ hcm
  rw [mco_0] at hW
  have e1 : lm1 0 = lo3 14 := e1
  show W _ _ _ _ _ _ _ _ _ _ _ _ _ _ _ (F0 _ _ _ [.ref (lo3 14)])
  rw [← e1]
  refine lv_astore_n (lv' := [(2, .ref (lm1 0)), (1, .ref (lo3 0)), (0, .ref b)]) hx hb dL_law_15 rfl hl (by decide) rfl (fun ls hl => ?_)
  refine lv_iconst (v := nI 0) hx hb dL_law_16 rfl ?_
  refine lv_istore_n (lv' := [(3, .int (nI 0)), (2, .ref (lm1 0)), (1, .ref (lo3 0)), (0, .ref b)]) hx hb dL_law_17 rfl hl (by decide) rfl (fun ls hl => ?_)
  exact law_loop hL C0 cx hk hZ 513 0 _ _ (Nat.zero_le _) (by omega) (by decide) (by decide) _ _ _ ⟨S0, X0, fun _ _ => nI 0, lo3, lm1, co3, inv_0, fun a h => absurd h (Nat.not_lt_zero a), hd, hW.swap, lv_sub hl [3, 2, 1, 0] rfl⟩
