/-! contracts of the methods that read the library's empty row (dd) and the class object of Object[] (mi) -/
theorem x_D.drop {A : Nat → Prop} {G : x_G} {H0 H : Heap} {lo : x_L} {co : x_C} {locs : List Loc} (h : x_D A G H0 lo co H locs) (t : Nat) : x_D A G H0 lo (va_up co t none) H locs := by
  have key : ∀ u e, va_up co t none u = some e → co u = some e := fun u e he => by
    by_cases q : u = t
    · rw [q, va_up_self] at he; cases he
    · rw [va_up_ne _ _ q] at he; exact he
  have key2 : ∀ u, va_up co t none u ≠ none → co u ≠ none := fun u hu => by
    by_cases q : u = t
    · rw [q, va_up_self] at hu; exact absurd rfl hu
    · rw [va_up_ne _ _ q] at hu; exact hu
  exact ⟨fun u e he => h.1 u e (key u e he), ⟨fun u v hu hv => h.2.1.1 u v (key2 u hu) (key2 v hv), fun u hu => h.2.1.2 u (key2 u hu)⟩, h.2.2⟩
/-- the row at u becomes the row of d -/
theorem x_D.retag {A : Nat → Prop} {G : x_G} {H0 H : Heap} {lo : x_L} {co : x_C} {locs : List Loc} {d u : Nat} {e : va_E} (h : x_D A G H0 lo co H locs) (hu : co u = some e) (hd : d ≠ u) : x_D A G H0 (va_up lo d (lo u)) (va_up (va_up co u none) d (some e)) H locs := by
  have hun : co u ≠ none := by rw [hu]; exact fun z => by cases z
  have key : ∀ v, v ≠ d → va_up (va_up co u none) d (some e) v ≠ none → v ≠ u ∧ co v ≠ none ∧ va_up lo d (lo u) v = lo v := fun v q hv => by
    rw [va_up_ne _ _ q] at hv
    by_cases r : v = u
    · rw [r, va_up_self] at hv; exact absurd rfl hv
    · rw [va_up_ne _ _ r] at hv; exact ⟨r, hv, va_up_ne _ _ q⟩
  refine ⟨fun v e' hv => ?_, ⟨fun v w hv hw hq => ?_, fun v hv => ?_⟩, h.2.2⟩
  · by_cases q : v = d
    · subst q
      rw [va_up_self] at hv ⊢
      cases hv
      exact h.1 u _ hu
    · obtain ⟨r, -, e3⟩ := key v q (by rw [hv]; exact fun z => by cases z)
      rw [va_up_ne _ _ q, va_up_ne _ _ r] at hv
      rw [e3]; exact h.1 v _ hv
  · by_cases q : v = d
    · by_cases r : w = d
      · rw [q, r]
      · obtain ⟨r1, r2, r3⟩ := key w r hw
        rw [r3, q, va_up_self] at hq
        exact absurd (h.2.1.1 u w hun r2 hq) (fun z => r1 z.symm)
    · obtain ⟨q1, q2, q3⟩ := key v q hv
      by_cases r : w = d
      · rw [q3, r, va_up_self] at hq
        exact absurd (h.2.1.1 v u q2 hun hq) q1
      · obtain ⟨r1, r2, r3⟩ := key w r hw
        rw [q3, r3] at hq
        exact h.2.1.1 v w q2 r2 hq
  · by_cases q : v = d
    · rw [q, va_up_self]; exact h.2.1.2 u hun
    · obtain ⟨q1, q2, q3⟩ := key v q hv
      rw [q3]; exact h.2.1.2 v q2
def z_ac : MethodName := ⟨"java/lang/System", "arraycopy", "(Ljava/lang/Object;ILjava/lang/Object;II)V"⟩
def z_gc : MethodName := ⟨"java/lang/Object", "getClass", "()Ljava/lang/Class;"⟩
theorem z_nat {x : MethodName} {u U : State} (hvm : u.vm.Alike U.vm) (h : va_Nw (.native x) u) : va_Nw (.native x) U := va_tabs rfl (rfl : (u.setVm U.vm).vm = U.vm) (by rw [Cond.native_setVm hvm]; exact h)
def z_AOA (U : State) : Prop := (Cond.arrayOver (.array .int)).before #[] U = true
theorem z_AOA.of {A : Array Value} {U : State} (h : (Cond.arrayOver (.array .int)).before A U = true) : z_AOA U := Jvm.Stand.arrayOver_alikeB (Vm.Alike.refl U.vm) h
theorem z_AOA.use {A : Array Value} {U : State} (h : z_AOA U) : (Cond.arrayOver (.array .int)).before A U = true := Jvm.Stand.arrayOver_alikeB (Vm.Alike.refl U.vm) h
theorem z_AOA.moved {u U : State} (hvm : u.vm.Alike U.vm) (h : z_AOA u) : z_AOA U := Jvm.Stand.arrayOver_alikeB hvm h
def z_Z (dd mi : Nat) (A : Nat → Prop) (U : State) (H : Heap) : Prop := va_Z "java/util/ArrayList" "DEFAULTCAPACITY_EMPTY_ELEMENTDATA" "[Ljava/lang/Object;" (.ref dd) A U H ∧ va_T (.object "java/lang/Object") dd 0 (fun _ => .null) A U H ∧ va_Mi "[Ljava/lang/Object;" mi U ∧ va_AO "java/lang/Object" U ∧ (va_AO "IndexDesk$Table" U ∧ z_AOA U) ∧ va_Nw (.native z_ac) U ∧ va_Nw (.native z_gc) U
theorem z_Z.moved {dd mi : Nat} {A : Nat → Prop} {u U : State} {H : Heap} (hvm : u.vm.Alike U.vm) (h : z_Z dd mi A u H) : z_Z dd mi A U H := ⟨h.1.moved hvm, h.2.1.moved hvm, h.2.2.1.moved hvm, h.2.2.2.1.moved hvm, ⟨h.2.2.2.2.1.1.moved hvm, h.2.2.2.2.1.2.moved hvm⟩, z_nat hvm h.2.2.2.2.2.1, z_nat hvm h.2.2.2.2.2.2⟩
theorem z_Z.kept {dd mi : Nat} {A : Nat → Prop} {U : State} {H H1 : Heap} (h : z_Z dd mi A U H) (hq : ∀ a : Nat, a < H.size → ¬ A a → H1[a]? = H[a]?) : z_Z dd mi A U H1 := ⟨h.1.kept hq, h.2.1.kept hq, h.2.2⟩
theorem z_Z.narrow {dd mi : Nat} {A B : Nat → Prop} {U : State} {H : Heap} (h : z_Z dd mi A U H) (hAB : ∀ q, B q → A q) : z_Z dd mi B U H := ⟨h.1.narrow hAB, h.2.1.narrow hAB, h.2.2⟩
def z_Wr (l : Launch) (dd mi : Nat) (G : x_G) (lo : x_L) (co : x_C) (y : MethodName) (cc : ByteArray) (n : Nat) (r : Option FieldType) (d mc ms : Nat) (av : List Value) (post : Option Value → x_L → x_C → Prop) : Prop :=
  (∀ t u, co t ≠ none → co u ≠ none → lo t = lo u → t = u) → ∀ sz, Met l y (Cond.code y cc n r :: x_gw) (x_rw d mc ms) (va_Pc av (fun U => U.heap.size = sz ∧ x_R G lo co U.heap ∧ x_K G U ∧ z_Z dd mi (x_A lo co sz) U U.heap)) (x_Qw post G (x_A lo co sz)) mc ms (x_A lo co sz)
theorem z_wenter {l : Launch} {dd mi : Nat} {G : x_G} {lo : x_L} {co : x_C} {y : MethodName} {cc : ByteArray} {n : Nat} {r : Option FieldType} {d mc ms : Nat} {av : List Value} {post : Option Value → x_L → x_C → Prop} (own : String) (ho : y.cls = own) (hy : plainName y.cls = true) (hn : (lg_sl av).length ≤ n)
    (body : ∀ (p : Program) (e : Env) (s : State) (m : MethodId) (below : List Frame) (meth : Method) (c : Code) (ls : Array Slot) (A : Nat → Prop), CallFix p m c cc n s av.toArray x_gw own → x_K G s → z_Z dd mi A s s.heap → x_D A G s.heap lo co s.heap [] → (∀ q, s.heap.size ≤ q → A q) → meth.sig.returnType = r → meth.locks = false → meth.name = y.name → lv_has ls n (lv_args 0 av) →
      x_ww l d mc ms p e s m av.toArray below meth c G post A s.heap [] 0 0 0 ls []) : z_Wr l dd mi G lo co y cc n r d mc ms av post := by
  intro hinj sz
  refine Met.ofW (cc := cc) (maxL := n) (ret := r) hy rfl ?_
  intro p e s m args below meth c s₁ B hml hv
  obtain ⟨rfl, hsz, hR, hK, hZ⟩ := hv
  subst hsz
  have hts := atoms_spec (ws := Cond.code y cc n r :: x_gw) B.pre
  have hl := lv_entry av (n := n) hn
  rw [lg_entry_eq]
  exact body p e s m below meth c _ (x_A lo co s.heap.size) ⟨B.exec, B.bytes, hml, by rw [← ho]; exact findClass_of_methodNamed B.named, fun w hw => hts w (List.mem_cons_of_mem _ hw)⟩ hK hZ ⟨hR, ⟨hinj, fun t ht => Or.inl ⟨t, ht, rfl⟩⟩, va_S.rf⟩ (fun q hq => Or.inr hq) B.returns B.notSynchronized (name_of_methodNamed B.named B.method).1 hl
section XW21
variable {p : Program} {l : Launch} {e : Env} {R : Room} {s : State} {m : MethodId} {args : Array Value} {below : List Frame} {meth : Method} {c : Code} {H : Heap} {locs : List Loc} {cells slots : Nat} {Q : State → Prop}
variable {cc : ByteArray} {pc : Nat} {ls : Array Slot} {rest : List Value} {G : x_G} {lo : x_L} {co : x_C} {nL : Nat} {own : String} {A : Nat → Prop} {dd mi : Nat}
theorem z_call (hZ : z_Z dd mi A s s.heap) (hW : x_D A G s.heap lo co H locs) (hA : ∀ q, s.heap.size ≤ q → A q) {U : State} (hU : U.heap = H) (hWm : s.WarmedH U.vm) : z_Z dd mi (x_A lo co H.size) U U.heap := by
  have hsub : ∀ q, x_A lo co H.size q → A q := fun q h => h.elim (fun ⟨t, h1, h2⟩ => h2 ▸ hW.2.1.2 t h1) (fun h => hA q (Nat.le_trans hW.2.2.1 h))
  rw [hU]
  exact ((hZ.moved hWm.alike).kept (fun a h1 h2 => hW.2.2.2.1 a h1 h2)).narrow hsub
theorem z_blind {sz : Nat} {av : List Value} : FrameBlind (va_Pc av (fun U => U.heap.size = sz ∧ x_R G lo co U.heap ∧ x_K G U ∧ z_Z dd mi (x_A lo co sz) U U.heap)) := fun a U g mk h => ⟨h.1, h.2.1, h.2.2.1, x_K.same rfl h.2.2.2.1, h.2.2.2.2.moved (Vm.Alike.refl U.vm)⟩
theorem z_wrS {y : MethodName} {cb : ByteArray} {n d index k mc ms : Nat} {r : Option FieldType} {av st : List Value} {post : Option Value → x_L → x_C → Prop} (hZ : z_Z dd mi A s s.heap) (cx : CallFix p m c cc nL s args x_gw own) (hk : x_K G s) (hW : x_D A G s.heap lo co H locs) (hA : ∀ q, s.heap.size ≤ q → A q) (hS : x_S own index y cb n r k) (hc : z_Wr l dd mi G lo co y cb n r d mc ms av post)
    (hl : ls.size = nL) (hn : av.length = k) (hst : st = av.reverse ++ rest) (hwd : (rest.map fun v => v.category).sum ≤ 8) (hR : d + 1 ≤ R.frames ∧ 8 + (n + 11) + 40 * d ≤ R.locals) (hf : cells + mc ≤ R.cells ∧ slots + ms ≤ R.slots) (hdg : decode cc pc = .ok (.invokestatic index, 3))
    (kk : ∀ (v : Option Value) (lo1 : x_L) (co1 : x_C) (H1 : Heap) (locs1 : List Loc), post v lo1 co1 → x_D A G s.heap lo1 co1 H1 locs1 → W p l e R s m args below meth c H1 locs1 (cells + mc) (slots + ms) Q (F0 m (pc + 3) ls (v.toList ++ rest))) : W p l e R s m args below meth c H locs cells slots Q (F0 m pc ls st) :=
  y_cr (va_runS (As := av) (rest := rest) cx (hc hW.2.1.1 H.size) (va_cwS k cx.2.2.2.2 (x_goodcons hS.1 (x_goodcons hS.2.1 (x_goodcons hS.2.2.1 (x_good (y := y) (cc := cb) (n := n) (r := r) hS.2.2.2.1)))) rfl rfl rfl hS.2.2.2.2 hR) ⟨z_blind, fun U hU hWm => ⟨rfl, by rw [hU], by rw [hU]; exact hW.1, hk.warm hWm, z_call hZ hW hA hU hWm⟩⟩ rfl hn hl hst (by simpa [F0, JFrame.monitorRoom] using hwd) hdg hf) hW hA kk
theorem z_wrV {y : MethodName} {cb : ByteArray} {n d index k ci t mc ms : Nat} {r : Option FieldType} {av st fs : List Value} {post : Option Value → x_L → x_C → Prop} (hZ : z_Z dd mi A s s.heap) (cx : CallFix p m c cc nL s args x_gw own) (hk : x_K G s) (hW : x_D A G s.heap lo co H locs) (hA : ∀ q, s.heap.size ≤ q → A q) (ha : co t = some (.inr (ci, fs))) (hS : x_V own index ci y cb n r k) (hc : z_Wr l dd mi G lo co y cb n r d mc ms (.ref (lo t) :: av) post)
    (hl : ls.size = nL) (hn : av.length = k) (hst : st = av.reverse ++ .ref (lo t) :: rest) (hwd : (rest.map fun v => v.category).sum ≤ 8) (hR : d + 1 ≤ R.frames ∧ 8 + (n + 11) + 40 * d ≤ R.locals) (hf : cells + mc ≤ R.cells ∧ slots + ms ≤ R.slots) (hdg : decode cc pc = .ok (.invokevirtual index, 3))
    (kk : ∀ (v : Option Value) (lo1 : x_L) (co1 : x_C) (H1 : Heap) (locs1 : List Loc), post v lo1 co1 → x_D A G s.heap lo1 co1 H1 locs1 → W p l e R s m args below meth c H1 locs1 (cells + mc) (slots + ms) Q (F0 m (pc + 3) ls (v.toList ++ rest))) : W p l e R s m args below meth c H locs cells slots Q (F0 m pc ls st) := by
  obtain ⟨C, T, N, h0, h1, h2, h3, h4, h5, h6⟩ := hS
  exact y_cr (va_runV (As := av) (rest := rest) cx (hc hW.2.1.1 H.size) (cwV k cx.2.2.2.2 (x_goodcons h1 (x_goodcons h2 (x_goodcons h3 (x_goodcons h4 (x_good (y := y) (cc := cb) (n := n) (r := r) h5))))) rfl rfl rfl h6 hR) ⟨z_blind, va_recv hk.1 (hW.1.P ha) h0 (q0 := 0) rfl, fun U hU hWm => ⟨rfl, by rw [hU], by rw [hU]; exact hW.1, hk.warm hWm, z_call hZ hW hA hU hWm⟩⟩ rfl hn hl hst (by simpa [F0, JFrame.monitorRoom] using hwd) hdg hf) hW hA kk
theorem z_wrI {y : MethodName} {cb : ByteArray} {n d index k t mc ms : Nat} {av st : List Value} {post : Option Value → x_L → x_C → Prop} (hZ : z_Z dd mi A s s.heap) (cx : CallFix p m c cc nL s args x_gw own) (hk : x_K G s) (hW : x_D A G s.heap lo co H locs) (hA : ∀ q, s.heap.size ≤ q → A q) (hS : x_I0 own index y cb n k) (hc : z_Wr l dd mi G lo co y cb n none d mc ms (.ref (lo t) :: av) post)
    (hl : ls.size = nL) (hn : av.length = k) (hst : st = av.reverse ++ .ref (lo t) :: rest) (hwd : (rest.map fun v => v.category).sum ≤ 8) (hR : d + 1 ≤ R.frames ∧ 8 + (n + 11) + 40 * d ≤ R.locals) (hf : cells + mc ≤ R.cells ∧ slots + ms ≤ R.slots) (hdg : decode cc pc = .ok (.invokespecial index, 3))
    (kk : ∀ (v : Option Value) (lo1 : x_L) (co1 : x_C) (H1 : Heap) (locs1 : List Loc), post v lo1 co1 → x_D A G s.heap lo1 co1 H1 locs1 → W p l e R s m args below meth c H1 locs1 (cells + mc) (slots + ms) Q (F0 m (pc + 3) ls (v.toList ++ rest))) : W p l e R s m args below meth c H locs cells slots Q (F0 m pc ls st) := by
  obtain ⟨h1, h2, h3, h4, h5, h6⟩ := hS
  exact y_cr (va_runI (As := av) (rest := rest) cx (hc hW.2.1.1 H.size) (cwI k cx.2.2.2.2 (x_good (y := y) (cc := cb) (n := n) (r := none) h4) rfl rfl rfl (cx.2.2.2.2 _ h3) (cx.2.2.2.2 _ h1) (cx.2.2.2.2 _ h2) h5 h6 hR) ⟨z_blind, fun U hU hWm => ⟨rfl, by rw [hU], by rw [hU]; exact hW.1, hk.warm hWm, z_call hZ hW hA hU hWm⟩⟩ rfl hn hl hst (by simpa [F0, JFrame.monitorRoom] using hwd) hdg hf) hW hA kk
/-- the empty row: read, its length -/
theorem z_gets {index : Nat} (hZ : z_Z dd mi A s s.heap) (cx : CallFix p m c cc nL s args x_gw own) (hW : x_D A G s.heap lo co H locs) (hl : Cond.fieldLink own index "java/util/ArrayList" "DEFAULTCAPACITY_EMPTY_ELEMENTDATA" "[Ljava/lang/Object;" ∈ x_gw) (hdg : decode cc pc = .ok (.getstatic index, 3))
    (kk : W p l e R s m args below meth c H locs cells slots Q (F0 m (pc + 3) ls (.ref dd :: rest))) : W p l e R s m args below meth c H locs cells slots Q (F0 m pc ls rest) :=
  va_gets cx.1 cx.2.1 hZ.1 hW.2.2 cx.2.2.2.1 (cx.2.2.2.2 _ hl) (fun x hx => hx) hdg kk
end XW21
