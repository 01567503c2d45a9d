/-! the law's start: the tables' words -/
theorem tb {w : Cond} (i : Nat) (h : tables_1[i]? = some w) : w ∈ lw_tbl := List.mem_append_right _ (List.mem_of_getElem? h)
theorem nN_in : ∀ q ∈ x_nN, Cond.methodLinkNest q.1 q.2.1 q.2.2.1 q.2.2.2 ∈ lw_tbl := List.forall_mem_cons.mpr ⟨tb 61 (by decide +kernel), List.forall_mem_cons.mpr ⟨tb 188 (by decide +kernel), List.forall_mem_cons.mpr ⟨tb 221 (by decide +kernel), List.forall_mem_cons.mpr ⟨tb 236 (by decide +kernel), List.forall_mem_cons.mpr ⟨tb 257 (by decide +kernel), List.forall_mem_cons.mpr ⟨tb 402 (by decide +kernel), List.forall_mem_cons.mpr ⟨tb 403 (by decide +kernel), List.forall_mem_cons.mpr ⟨tb 428 (by decide +kernel), List.forall_mem_cons.mpr ⟨tb 573 (by decide +kernel), List.forall_mem_cons.mpr ⟨tb 591 (by decide +kernel), List.forall_mem_cons.mpr ⟨tb 600 (by decide +kernel), List.forall_mem_cons.mpr ⟨tb 630 (by decide +kernel), List.forall_mem_cons.mpr ⟨tb 720 (by decide +kernel), List.forall_mem_cons.mpr ⟨tb 784 (by decide +kernel), List.forall_mem_cons.mpr ⟨tb 837 (by decide +kernel), fun _ h => absurd h List.not_mem_nil⟩⟩⟩⟩⟩⟩⟩⟩⟩⟩⟩⟩⟩⟩⟩
theorem nC_in : ∀ q ∈ x_nC, Cond.castable q.1 q.2 ∈ lw_tbl := List.forall_mem_cons.mpr ⟨tb 1188 (by decide +kernel), List.forall_mem_cons.mpr ⟨tb 1189 (by decide +kernel), List.forall_mem_cons.mpr ⟨tb 1190 (by decide +kernel), List.forall_mem_cons.mpr ⟨tb 1191 (by decide +kernel), List.forall_mem_cons.mpr ⟨tb 1192 (by decide +kernel), List.forall_mem_cons.mpr ⟨tb 1193 (by decide +kernel), List.forall_mem_cons.mpr ⟨tb 1194 (by decide +kernel), List.forall_mem_cons.mpr ⟨tb 1195 (by decide +kernel), List.forall_mem_cons.mpr ⟨tb 1196 (by decide +kernel), List.forall_mem_cons.mpr ⟨tb 1197 (by decide +kernel), List.forall_mem_cons.mpr ⟨tb 1198 (by decide +kernel), List.forall_mem_cons.mpr ⟨tb 1199 (by decide +kernel), List.forall_mem_cons.mpr ⟨tb 1200 (by decide +kernel), List.forall_mem_cons.mpr ⟨tb 1201 (by decide +kernel), List.forall_mem_cons.mpr ⟨tb 1202 (by decide +kernel), List.forall_mem_cons.mpr ⟨tb 1203 (by decide +kernel), List.forall_mem_cons.mpr ⟨tb 1207 (by decide +kernel), List.forall_mem_cons.mpr ⟨tb 1208 (by decide +kernel), List.forall_mem_cons.mpr ⟨tb 1209 (by decide +kernel), List.forall_mem_cons.mpr ⟨tb 1210 (by decide +kernel), List.forall_mem_cons.mpr ⟨tb 1211 (by decide +kernel), fun _ h => absurd h List.not_mem_nil⟩⟩⟩⟩⟩⟩⟩⟩⟩⟩⟩⟩⟩⟩⟩⟩⟩⟩⟩⟩⟩
theorem nD_in : ∀ q ∈ x_nD, Cond.declares q ∈ lw_tbl := List.forall_mem_cons.mpr ⟨tb 564 (by decide +kernel), List.forall_mem_cons.mpr ⟨tb 613 (by decide +kernel), List.forall_mem_cons.mpr ⟨tb 632 (by decide +kernel), List.forall_mem_cons.mpr ⟨tb 667 (by decide +kernel), List.forall_mem_cons.mpr ⟨tb 769 (by decide +kernel), List.forall_mem_cons.mpr ⟨tb 1206 (by decide +kernel), fun _ h => absurd h List.not_mem_nil⟩⟩⟩⟩⟩⟩
theorem x_sel {C : String} {z y : MethodName} {args : Array Value} {s : State} (hy : y.cls ≠ "java/lang/invoke/MethodHandle" ∧ y.cls ≠ "java/lang/invoke/VarHandle") (hc : z.cls = y.cls) (hz : (Cond.selects C z z).before args s = true) (hpriv : (Cond.privateMethod y).before args s = true) (hinst : (Cond.instanceMethod y).before args s = true) : (Cond.selects C y y).before args s = true := by
  obtain ⟨c, r, m, h1, h2, h3, h4, mk0, h5, h6⟩ := Cond.selects_spec hz
  obtain ⟨mk, methM, hnamed, hmethM, -, -⟩ := Cond.instanceMethod_spec hinst
  have hfound : s.methodFound? y.cls y.name y.desc = some mk := State.methodFound?_of_named hnamed hy
  have hcls : mk.cls = m.cls := Option.some.inj ((findClass_of_methodNamed hnamed).symm.trans (by rw [← hc]; exact findClass_of_methodNamed h3))
  have hsel : selectMethod {} s.vm c mk = .method mk := selectMethod_private hmethM (Cond.privateMethod_at hpriv mk methM hnamed hmethM)
  simp only [Cond.before, Cond.holds, Cond.value, h1, hfound, hnamed, hsel, hcls, h5]
  simp; exact h6
theorem l_gw {s : State} {b : Nat} (hts : ∀ w ∈ lw_tbl, w.before #[Value.ref b] s = true) : ∀ w ∈ x_gw, w.before #[Value.ref b] s = true := by
  have hp := hts _ (tb (w := .privateMethod yX4_finds) 787 (by decide +kernel))
  have hi := hts _ (tb (w := .instanceMethod yX4_finds) 788 (by decide +kernel))
  have hy : yX4_finds.cls ≠ "java/lang/invoke/MethodHandle" ∧ yX4_finds.cls ≠ "java/lang/invoke/VarHandle" := ⟨by decide +kernel, by decide +kernel⟩
  have hin : ∀ w ∈ x_ext, w.before #[Value.ref b] s = true := List.forall_mem_cons.mpr ⟨x_sel (z := yX4_usedBy) hy rfl (hts _ (tb 640 (by decide +kernel))) hp hi, List.forall_mem_cons.mpr ⟨x_sel (z := yX4_usedBy) hy rfl (hts _ (tb 641 (by decide +kernel))) hp hi, List.forall_mem_cons.mpr ⟨x_sel (z := yX4_usedBy) hy rfl (hts _ (tb 642 (by decide +kernel))) hp hi, List.forall_mem_cons.mpr ⟨x_sel (z := yX4_usedBy) hy rfl (hts _ (tb 643 (by decide +kernel))) hp hi, fun _ h => absurd h List.not_mem_nil⟩⟩⟩⟩
  intro w hw
  rcases List.mem_append.mp (List.mem_filter.mp hw).1 with h | h
  · exact hin w h
  · exact hts w h
set_option maxHeartbeats 4000000 in
theorem l_K {s : State} {b : Nat} (hts : ∀ w ∈ lw_tbl, w.before #[Value.ref b] s = true) (hgw : ∀ w ∈ x_gw, w.before #[Value.ref b] s = true) : ∃ G : x_G, x_K G s := by
  obtain ⟨c0, i0, k0⟩ := u_known (C := RJx4a65c) (T := TJx4a65c) (N := 3) (n := 3) hgw ui_0 (hgw _ w_34)
  obtain ⟨c1, i1, k1⟩ := u_known (C := RX1) (T := TX1) (N := 5) (n := 5) hgw ui_1 (hgw _ w_480)
  obtain ⟨c2, i2, k2⟩ := u_known (C := RX2) (T := TX2) (N := 6) (n := 6) hgw ui_2 (hgw _ w_465)
  obtain ⟨c3, i3, k3⟩ := u_known (C := RX3) (T := TX3) (N := 5) (n := 5) hgw ui_3 (hgw _ w_417)
  obtain ⟨c4, i4, k4⟩ := u_known (C := RX5) (T := TX5) (N := 8) (n := 8) hgw ui_4 (hgw _ w_496)
  obtain ⟨c5, i5, k5⟩ := u_known (C := RX6) (T := TX6) (N := 7) (n := 7) hgw ui_5 (hgw _ w_285)
  obtain ⟨c6, i6, k6⟩ := u_known (C := RX7) (T := TX7) (N := 10) (n := 10) hgw ui_6 (hgw _ w_60)
  obtain ⟨c7, i7, k7⟩ := u_known (C := RX8) (T := TX8) (N := 5) (n := 5) hgw ui_7 (hgw _ w_527)
  obtain ⟨c8, i8, k8⟩ := u_known (C := RX9) (T := TX9) (N := 10) (n := 10) hgw ui_8 (hgw _ w_119)
  obtain ⟨c9, i9, k9⟩ := u_known (C := RX10) (T := TX10) (N := 4) (n := 4) hgw ui_9 (hgw _ w_24)
  obtain ⟨c10, i10, k10⟩ := u_known (C := RX11) (T := TX11) (N := 29) (n := 29) hgw ui_10 (hgw _ w_867)
  obtain ⟨a0, ka0, m0, p0, q0, r0⟩ := Cond.arrayClass_spec (hgw _ w_98)
  obtain ⟨a1, ka1, m1, p1, q1, r1⟩ := Cond.arrayClass_spec (hgw _ w_960)
  obtain ⟨m2, a2, ka2, f21, -, f23, f24, f25⟩ := Cond.arrayOver_spec (hts _ (tb (w := .arrayOver (.object "IndexDesk$Table")) 32 (by decide +kernel)))
  obtain ⟨m3, a3, ka3, f31, -, f33, f34, f35⟩ := Cond.arrayOver_spec (hts _ (tb (w := .arrayOver (.object "java/lang/Object")) 364 (by decide +kernel)))
  obtain ⟨m4, a4, ka4, f41, -, f43, f44, f45⟩ := arrayOverA_spec (hts _ (tb (w := .arrayOver (.array .int)) 66 (by decide +kernel)))
  refine ⟨((fun k => if k = 0 then c0 else if k = 1 then c1 else if k = 2 then c2 else if k = 3 then c3 else if k = 4 then c4 else if k = 5 then c5 else if k = 6 then c6 else if k = 7 then c7 else if k = 8 then c8 else if k = 9 then c9 else c10, fun k => if k = 0 then i0 else if k = 1 then i1 else if k = 2 then i2 else if k = 3 then i3 else if k = 4 then i4 else if k = 5 then i5 else if k = 6 then i6 else if k = 7 then i7 else if k = 8 then i8 else if k = 9 then i9 else i10), fun k => if k = 0 then a0 else if k = 1 then a1 else if k = 2 then a2 else if k = 3 then a3 else a4), ⟨⟨fun k q hq => ?_, fun k q hq => ?_⟩, fun q hq => va_Nw.of rfl (hts _ (nN_in q hq)), fun q hq => va_Nw.of rfl (hts _ (nC_in q hq)), fun q hq => va_Nw.of rfl (hts _ (nD_in q hq))⟩⟩
  · match k, hq with
    | 0, hq => cases hq; exact k0
    | 1, hq => cases hq; exact k1
    | 2, hq => cases hq; exact k2
    | 3, hq => cases hq; exact k3
    | 4, hq => cases hq; exact k4
    | 5, hq => cases hq; exact k5
    | 6, hq => cases hq; exact k6
    | 7, hq => cases hq; exact k7
    | 8, hq => cases hq; exact k8
    | 9, hq => cases hq; exact k9
    | 10, hq => cases hq; exact k10
    | k + 11, hq => cases hq
  · match k, hq with
    | 0, hq => cases hq; exact ⟨fun N z => ⟨(fun k h => by cases h), ka0, q0, m0, r0⟩, p0⟩
    | 1, hq => cases hq; exact ⟨fun N z => ⟨(fun k h => by cases h), ka1, q1, m1, r1⟩, p1⟩
    | 2, hq => cases hq; exact ⟨fun N z => ⟨(fun k h => by cases h), ka2, f23, m2, f24⟩, ka2, m2, f23, f24, f21, f25⟩
    | 3, hq => cases hq; exact ⟨fun N z => ⟨(fun k h => by cases h), ka3, f33, m3, f34⟩, ka3, m3, f33, f34, f31, f35⟩
    | 4, hq => cases hq; exact ⟨fun N z => ⟨(fun k h => by cases h), ka4, f43, m4, f44⟩, f45⟩
    | k + 5, hq => cases hq
theorem l_Z {s : State} {b : Nat} (hts : ∀ w ∈ lw_tbl, w.before #[Value.ref b] s = true) (hgw : ∀ w ∈ x_gw, w.before #[Value.ref b] s = true) (hgv : (Jvm.Cond.and given_1 narrow_1).before #[Value.ref b] s = true) : ∃ dd mi : Nat, z_Z dd mi (fun q : Nat => s.heap.size ≤ q) s s.heap := by
  have hs := flat_of_before _ hgv
  have harr : (Cond.arrayOf (.static "java/util/ArrayList" "DEFAULTCAPACITY_EMPTY_ELEMENTDATA" "[Ljava/lang/Object;") (.object "java/lang/Object")).before #[Value.ref b] s = true := hs _ (by decide +kernel)
  have hlen : (Cond.eq (.length (.static "java/util/ArrayList" "DEFAULTCAPACITY_EMPTY_ELEMENTDATA" "[Ljava/lang/Object;")) (.int 0)).before #[Value.ref b] s = true := hs _ (by decide +kernel)
  have hmi : (Cond.isRef (.mirror "[Ljava/lang/Object;")).before #[Value.ref b] s = true := hs _ (by decide +kernel)
  have hA : ∀ a : Nat, a < s.heap.size → ¬ (fun q : Nat => s.heap.size ≤ q) a := fun a h => Nat.not_le.mpr h
  obtain ⟨mi, hMi⟩ := va_Mi.of hmi
  obtain ⟨dd, ht, hT⟩ := va_Tof (N := 0) (f := fun _ => .null) (by decide) harr (Cond.eq_int hlen rfl) (fun j hj => absurd hj (Nat.not_lt_zero j)) hA
  exact ⟨dd, mi, va_Zref (hts _ (tb (w := .laysStatic "java/util/ArrayList" "DEFAULTCAPACITY_EMPTY_ELEMENTDATA" "[Ljava/lang/Object;") 46 (by decide +kernel))) (hgw _ w_4) ht hA, hT, hMi, va_AO.of (hts _ (tb (w := .arrayOver (.object "java/lang/Object")) 364 (by decide +kernel))), ⟨va_AO.of (hts _ (tb (w := .arrayOver (.object "IndexDesk$Table")) 32 (by decide +kernel))), z_AOA.of (hts _ (tb (w := .arrayOver (.array .int)) 66 (by decide +kernel)))⟩, va_Nw.of rfl (hts _ (tb (w := .native z_ac) 369 (by decide +kernel))), va_Nw.of rfl (hts _ (tb (w := .native z_gc) 359 (by decide +kernel)))⟩
