/-! the worlds of this claim: cells by tags; lo: where a tag lies; co: what it holds -/
abbrev x_G : Type := va_G × (Nat → ClassId)
abbrev x_L : Type := Nat → Nat
abbrev x_C : Type := Nat → Option va_E
def x_tys (G : x_G) : List (ClassId × FieldType) := [(G.2 0, .int), (G.2 1, .boolean), (G.2 2, .object "IndexDesk$Table"), (G.2 3, .object "java/lang/Object"), (G.2 4, .array .int)]
def x_nN : List (String × Nat × MethodName × String) := [(RX10, 27, yX7_init, RX10), (RX9, 42, yX10_isBetween, RX10), (RX9, 66, yX10_bit, RX10), (RX9, 91, yX10_isIn, RX10), (RX9, 60, yX10_dividedUp, RX10), (RX6, 32, yX10_isBetween, RX10), (RX6, 39, yX10_bit, RX10), (RX4, 9, yX10_bit, RX10), (RX2, 42, yX10_dividedUp, RX10), (RX4, 71, yX10_dividedUp, RX10), (RX8, 46, yX10_dividedUp, RX10), (RX7, 81, yX10_rivalsOf, RX10), (RX7, 97, yX10_isIn, RX10), (RX5, 44, yX10_isBetween, RX10), (RX7, 131, yX10_bit, RX10)]
def x_nC : List (String × String) := [(RX1, "IndexDesk$Aid"), (RX2, "IndexDesk$Aid"), (RX3, "IndexDesk$Aid"), (RX5, "IndexDesk$Aid"), (RX8, "IndexDesk$Aid"), (RX9, "java/lang/Object"), (RX10, "java/lang/Object"), (RJx4a65c, "java/lang/Object"), (RX7, "java/lang/Object"), (RX11, "java/lang/Object"), (RX6, "java/lang/Object"), (RX3, "java/lang/Object"), (RX2, "java/lang/Object"), (RX1, "java/lang/Object"), (RX5, "java/lang/Object"), (RX8, "java/lang/Object"), ("[LIndexDesk$Table;", "java/lang/Object"), ("[[I", "java/lang/Object"), ("[I", "java/lang/Object"), ("[Ljava/lang/Object;", "java/lang/Object"), ("[Z", "java/lang/Object")]
def x_nD : List MethodName := [⟨"IndexDesk$Aid", "space", "()I"⟩, ⟨"IndexDesk$Aid", "keeping", "()I"⟩, ⟨"IndexDesk$Aid", "helps", "(LIndexDesk$Question;)Z"⟩, ⟨"IndexDesk$Aid", "foretold", "(LIndexDesk$Question;)I"⟩, ⟨"IndexDesk$Aid", "fetched", "(LIndexDesk$Question;)I"⟩, ⟨"java/lang/Object", "getClass", "()Ljava/lang/Class;"⟩]
def x_K (G : x_G) (U : State) : Prop := va_K G.1 vwCl (x_tys G) U ∧ (∀ q ∈ x_nN, va_Nw (.methodLinkNest q.1 q.2.1 q.2.2.1 q.2.2.2) U) ∧ (∀ q ∈ x_nC, va_Nw (.castable q.1 q.2) U) ∧ ∀ q ∈ x_nD, va_Nw (.declares q) U
theorem x_K.warm {G : x_G} {s U : State} (hW : s.WarmedH U.vm) (h : x_K G s) : x_K G U := ⟨va_K.moved hW.alike h.1, fun q hq => (h.2.1 q hq).warmM hW, fun q hq => (h.2.2.1 q hq).warmC hW, fun q hq => (h.2.2.2 q hq).warmD hW⟩
theorem x_Nw.same {w : Cond} (hw : w.onTables = true) {u U : State} (h : u.vm = U.vm) (hZ : va_Nw w u) : va_Nw w U := va_Nw.same hw h hZ
theorem x_K.same {G : x_G} {s U : State} (e : s.vm = U.vm) (h : x_K G s) : x_K G U := ⟨va_K.moved (by rw [e]; exact Vm.Alike.refl U.vm) h.1, fun q hq => (h.2.1 q hq).same rfl e, fun q hq => (h.2.2.1 q hq).same rfl e, fun q hq => (h.2.2.2 q hq).same rfl e⟩
def x_R (G : x_G) (lo : x_L) (co : x_C) (H : Heap) : Prop := ∀ (t : Nat) (e : va_E), co t = some e → va_at G.1 vwCl (lo t, e) H
theorem x_R.P {G : x_G} {lo : x_L} {co : x_C} {H : Heap} (h : x_R G lo co H) {t : Nat} {e : va_E} (ht : co t = some e) : va_P G.1 vwCl [(lo t, e)] H := fun k q hq => by
  have hz : k < 1 := (List.getElem?_eq_some_iff.mp hq).1
  rw [show k = 0 by omega] at hq
  cases hq
  exact h t e ht
/-- a bool as an int -/
def bI (b : Bool) : Int32 := if b then 1 else 0
theorem bI_t : bI true = 1 := rfl
theorem bI_f : bI false = 0 := rfl
theorem bI_0 {b : Bool} : bI b = 0 ↔ b = false := by cases b <;> decide
theorem bI_nar (b : Bool) : narrow .boolean (.int (bI b)) = .int (bI b) := by cases b <;> rfl
abbrev x_rm (d : Nat) : Room := { frames := d, cells := 0, slots := 0, locals := 40 * d }
/-- a reader's contract: given the cells, from these arguments, this answer, nothing changed -/
def x_Qr (v : Option Value) : Array Value → State → Outcome → State → Prop := fun _ st o t => o = .returned v ∧ t.heap = st.heap
def x_Rd (l : Launch) (G : x_G) (lo : x_L) (co : x_C) (y : MethodName) (cc : ByteArray) (n : Nat) (r : Option FieldType) (d : Nat) (av : List Value) (v : Option Value) : Prop :=
  Met l y (Cond.code y cc n r :: x_gw) (x_rm d) (va_Pc av (fun U => x_R G lo co U.heap ∧ x_K G U)) (x_Qr v) 0 0 (fun _ => False)
theorem x_Rd.to {l : Launch} {G : x_G} {lo : x_L} {co : x_C} {y : MethodName} {cc : ByteArray} {n : Nat} {r : Option FieldType} {d : Nat} {av : List Value} {v v' : Option Value} (h : x_Rd l G lo co y cc n r d av v) (e : v = v') : x_Rd l G lo co y cc n r d av v' := e ▸ h
theorem x_good {y y' : MethodName} {cc cc' : ByteArray} {n n' : Nat} {r r' : Option FieldType} (h : Cond.code y' cc' n' r' ∈ x_gw) : GoodIn x_gw (Cond.code y' cc' n' r' :: x_gw) := fun w hw => by
  have hm : w ∈ x_gw := (List.mem_cons.mp hw).elim (fun e => by rw [e]; exact h) id
  exact ⟨hm, good_of_word (List.mem_filter.mp hm).2⟩
theorem x_goodw {w : Cond} (hm : w ∈ x_gw) : w ∈ x_gw ∧ ((w.onTables && w.keeps) = true ∨ ∃ ty, w = .arrayClass ty) := ⟨hm, good_of_word (List.mem_filter.mp hm).2⟩
theorem x_goodcons {w : Cond} {ws : List Cond} (hm : w ∈ x_gw) (h : GoodIn x_gw ws) : GoodIn x_gw (w :: ws) := fun q hq => (List.mem_cons.mp hq).elim (fun e => by rw [e]; exact x_goodw hm) (h q)
theorem x_enter {l : Launch} {G : x_G} {lo : x_L} {co : x_C} {y : MethodName} {cc : ByteArray} {n : Nat} {r : Option FieldType} {d : Nat} {av : List Value} {v : Option Value} (own : String) (ho : y.cls = own) (hy : plainName y.cls = true) (hn : (lg_sl av).length ≤ n)
    (body : ∀ (p : Program) (e : Env) (s : State) (m : MethodId) (below : List Frame) (meth : Method) (c : Code) (ls : Array Slot), CallFix p m c cc n s av.toArray x_gw own → x_K G s → x_R G lo co s.heap → meth.sig.returnType = r → meth.locks = false → lv_has ls n (lv_args 0 av) →
      W p l e (x_rm d) s m av.toArray below meth c s.heap [] 0 0 (MQ below (x_Qr v) av.toArray s 0 0 (fun _ => False)) (F0 m 0 ls [])) : x_Rd l G lo co y cc n r d av v := by
  refine Met.ofW (cc := cc) (maxL := n) (ret := r) hy rfl ?_
  intro p e s m args below meth c s₁ B hml hv
  obtain ⟨rfl, hR, hK⟩ := hv
  have hts := atoms_spec (ws := Cond.code y cc n r :: x_gw) B.pre
  have hl := lv_entry av (n := n) hn
  rw [lg_entry_eq]
  exact body p e s m below meth c _ ⟨B.exec, B.bytes, hml, by rw [← ho]; exact findClass_of_methodNamed B.named, fun w hw => hts w (List.mem_cons_of_mem _ hw)⟩ hK hR B.returns B.notSynchronized hl
section XW
variable {p : Program} {l : Launch} {e : Env} {R : Room} {s : State} {m : MethodId} {args : Array Value} {below : List Frame} {meth : Method} {c : Code} {H : Heap} {locs : List Loc} {cells slots : Nat} {Q : State → Prop}
variable {cc : ByteArray} {pc : Nat} {ls : Array Slot} {rest : List Value} {G : x_G} {lo : x_L} {co : x_C} {nL : Nat} {own : String}
/-- an answer -/
theorem x_iret {v : Option Value} {x : Int32} (cx : CallFix p m c cc nL s args x_gw own) (hr : meth.sig.returnType = some .int) (hlk : meth.locks = false) (hdg : decode cc pc = .ok (.ireturn, 1)) (hv : some (Value.int x) = v) : W p l e R s m args below meth c s.heap [] 0 0 (MQ below (x_Qr v) args s 0 0 (fun _ => False)) (F0 m pc ls [.int x]) :=
  W.iret cx.1 cx.2.1 hr (fun t ht _ => ⟨by rw [← hv], ht⟩) (fun q h => absurd h List.not_mem_nil) hdg hlk
theorem x_zret {v : Option Value} {x : Int32} (b : Bool) (cx : CallFix p m c cc nL s args x_gw own) (hr : meth.sig.returnType = some .boolean) (hlk : meth.locks = false) (hdg : decode cc pc = .ok (.ireturn, 1)) (hx : x = bI b) (hv : some (Value.int (bI b)) = v) : W p l e R s m args below meth c s.heap [] 0 0 (MQ below (x_Qr v) args s 0 0 (fun _ => False)) (F0 m pc ls [.int x]) := by
  subst hx
  exact W.zret cx.1 cx.2.1 hr (bI_nar b) (fun t ht _ => ⟨by rw [← hv], ht⟩) (fun q h => absurd h List.not_mem_nil) hdg hlk
theorem x_lret {v : Option Value} {x : Int64} (cx : CallFix p m c cc nL s args x_gw own) (hr : meth.sig.returnType = some .long) (hlk : meth.locks = false) (hdg : decode cc pc = .ok (.lreturn, 1)) (hv : some (Value.long x) = v) : W p l e R s m args below meth c s.heap [] 0 0 (MQ below (x_Qr v) args s 0 0 (fun _ => False)) (F0 m pc ls [.long x]) :=
  W.lret cx.1 cx.2.1 hr (fun t ht _ => ⟨by rw [← hv], ht⟩) (fun q h => absurd h List.not_mem_nil) hdg hlk
theorem x_aret {v : Option Value} {w : Value} {rt : String} (cx : CallFix p m c cc nL s args x_gw own) (hr : meth.sig.returnType = some (.object rt)) (hlk : meth.locks = false) (hw : w = .null ∨ ∃ a, w = .ref a) (hdg : decode cc pc = .ok (.areturn, 1)) (hv : some w = v) : W p l e R s m args below meth c s.heap [] 0 0 (MQ below (x_Qr v) args s 0 0 (fun _ => False)) (F0 m pc ls [w]) :=
  W.aret cx.1 cx.2.1 hr (Or.inl ⟨_, rfl⟩) hw (fun t ht _ => ⟨by rw [← hv], ht⟩) (fun q h => absurd h List.not_mem_nil) hdg hlk
theorem x_vret {v : Option Value} (cx : CallFix p m c cc nL s args x_gw own) (hr : meth.sig.returnType = none) (hlk : meth.locks = false) (hdg : decode cc pc = .ok (.return_, 1)) (hv : none = v) : W p l e R s m args below meth c s.heap [] 0 0 (MQ below (x_Qr v) args s 0 0 (fun _ => False)) (F0 m pc ls []) :=
  W.vret cx.1 cx.2.1 hr (fun t ht _ => ⟨by rw [← hv], ht⟩) (fun q h => absurd h List.not_mem_nil) hdg hlk
/-- branches on a bool -/
theorem x_if_eq {b : Bool} {off : Int} {tgt : Nat} (cx : CallFix p m c cc nL s args x_gw own) (hdg : decode cc pc = .ok (.ifCond .eq off, 3)) (ht : (pc : Int) + off = (tgt : Int))
    (kt : b = false → W p l e R s m args below meth c H locs cells slots Q (F0 m tgt ls rest)) (kf : b = true → W p l e R s m args below meth c H locs cells slots Q (F0 m (pc + 3) ls rest)) : W p l e R s m args below meth c H locs cells slots Q (F0 m pc ls (.int (bI b) :: rest)) :=
  lv_if_eq cx.1 cx.2.1 hdg ht (fun h => kt (bI_0.mp h)) (fun h => kf (by cases b with | true => rfl | false => exact absurd rfl h))
theorem x_if_ne {b : Bool} {off : Int} {tgt : Nat} (cx : CallFix p m c cc nL s args x_gw own) (hdg : decode cc pc = .ok (.ifCond .ne off, 3)) (ht : (pc : Int) + off = (tgt : Int))
    (kt : b = true → W p l e R s m args below meth c H locs cells slots Q (F0 m tgt ls rest)) (kf : b = false → W p l e R s m args below meth c H locs cells slots Q (F0 m (pc + 3) ls rest)) : W p l e R s m args below meth c H locs cells slots Q (F0 m pc ls (.int (bI b) :: rest)) :=
  lv_if_ne cx.1 cx.2.1 hdg ht (fun h => kt (by cases b with | true => rfl | false => exact absurd rfl h)) (fun h => kf (bI_0.mp h))
/-- field facts: the field at index, as own spells it, is the k-th of class ci -/
def x_F (own : String) (index ci k : Nat) : Prop := ∃ (C : String) (T : u_T) (N : Nat) (ref : String), vwCl[ci]? = some (C, T, N) ∧ k < N ∧ (∀ w ∈ u_ws C T N, w ∈ x_gw) ∧ Cond.fieldLink own index ref (T k).2.1 (T k).2.2.1 ∈ x_gw ∧ (ref = (T k).1 ∨ Cond.sameField ref (T k).1 (T k).2.1 (T k).2.2.1 ∈ x_gw)
theorem x_get {t ci k index : Nat} {fs : List Value} {v : Value} (cx : CallFix p m c cc nL s args x_gw own) (hk : x_K G s) (hw : x_R G lo co H) (ha : co t = some (.inr (ci, fs))) (hF : x_F own index ci k) (hv : fs[k]? = some v) (hdg : decode cc pc = .ok (.getfield index, 3))
    (kk : W p l e R s m args below meth c H locs cells slots Q (F0 m (pc + 3) ls (v :: rest))) : W p l e R s m args below meth c H locs cells slots Q (F0 m pc ls (.ref (lo t) :: rest)) := by
  obtain ⟨C, T, N, ref, h1, h2, h3, h4, h5⟩ := hF
  exact va_get cx.1 cx.2.1 cx.2.2.2.2 h3 cx.2.2.2.1 hk.1 (hw.P ha) 0 rfl h1 k h2 (cx.2.2.2.2 _ h4) (fun x hx => h5.elim (fun e => e ▸ hx) (fun h => u_same (cx.2.2.2.2 _ h) x hx)) hv hdg kk
theorem x_iald {t n : Nat} {f : Nat → Int32} {i : Int32} (cx : CallFix p m c cc nL s args x_gw own) (hk : x_K G s) (hw : x_R G lo co H) (ha : co t = some (.inl (G.2 0, n, .inl f))) (hin : vp_in i n) (hdg : decode cc pc = .ok (.iaload, 1))
    (kk : W p l e R s m args below meth c H locs cells slots Q (F0 m (pc + 1) ls (.int (f i.toNatClampNeg) :: rest))) : W p l e R s m args below meth c H locs cells slots Q (F0 m pc ls (.int i :: .ref (lo t) :: rest)) :=
  va_iald cx.1 cx.2.1 hk.1 (hw.P ha) 0 0 rfl rfl hin hdg kk
theorem x_zald {t n : Nat} {f : Nat → Int32} {i : Int32} (cx : CallFix p m c cc nL s args x_gw own) (hk : x_K G s) (hw : x_R G lo co H) (ha : co t = some (.inl (G.2 1, n, .inl f))) (hin : vp_in i n) (hdg : decode cc pc = .ok (.baload, 1))
    (kk : W p l e R s m args below meth c H locs cells slots Q (F0 m (pc + 1) ls (.int (f i.toNatClampNeg) :: rest))) : W p l e R s m args below meth c H locs cells slots Q (F0 m pc ls (.int i :: .ref (lo t) :: rest)) :=
  va_zald cx.1 cx.2.1 hk.1 (hw.P ha) 0 1 rfl rfl hin hdg kk
theorem x_aaldT {t n : Nat} {f : Nat → Option Nat} {i : Int32} (cx : CallFix p m c cc nL s args x_gw own) (hk : x_K G s) (hw : x_R G lo co H) (ha : co t = some (.inl (G.2 2, n, .inr (.inr (.inr (.inr f)))))) (hin : vp_in i n) (hdg : decode cc pc = .ok (.aaload, 1))
    (kk : W p l e R s m args below meth c H locs cells slots Q (F0 m (pc + 1) ls (va_rf (f i.toNatClampNeg) :: rest))) : W p l e R s m args below meth c H locs cells slots Q (F0 m pc ls (.int i :: .ref (lo t) :: rest)) :=
  va_aldq cx.1 cx.2.1 hk.1 (hw.P ha) 0 2 rfl rfl hin hdg kk
theorem x_aaldO {t n : Nat} {f : Nat → Option Nat} {i : Int32} (cx : CallFix p m c cc nL s args x_gw own) (hk : x_K G s) (hw : x_R G lo co H) (ha : co t = some (.inl (G.2 3, n, .inr (.inr (.inr (.inr f)))))) (hin : vp_in i n) (hdg : decode cc pc = .ok (.aaload, 1))
    (kk : W p l e R s m args below meth c H locs cells slots Q (F0 m (pc + 1) ls (va_rf (f i.toNatClampNeg) :: rest))) : W p l e R s m args below meth c H locs cells slots Q (F0 m pc ls (.int i :: .ref (lo t) :: rest)) :=
  va_aldq cx.1 cx.2.1 hk.1 (hw.P ha) 0 3 rfl rfl hin hdg kk
theorem x_alenI {t n : Nat} {f : Nat → Int32} (cx : CallFix p m c cc nL s args x_gw own) (hk : x_K G s) (hw : x_R G lo co H) (ha : co t = some (.inl (G.2 0, n, .inl f))) (hdg : decode cc pc = .ok (.arraylength, 1))
    (kk : W p l e R s m args below meth c H locs cells slots Q (F0 m (pc + 1) ls (.int (nI n) :: rest))) : W p l e R s m args below meth c H locs cells slots Q (F0 m pc ls (.ref (lo t) :: rest)) :=
  va_alen cx.1 cx.2.1 hk.1 (hw.P ha) 0 0 rfl rfl rfl hdg kk
/-- calls of readers -/
theorem x_cr {v : Option Value} {st0 : List Value} {a : Array Value} (hr : va_Run p l e R s m args below meth c H locs cells slots 0 0 (F0 m pc ls st0) rest (x_Qr v a) (fun _ => False))
    (kk : W p l e R s m args below meth c H locs cells slots Q (F0 m (pc + 3) ls (v.toList ++ rest))) : W p l e R s m args below meth c H locs cells slots Q (F0 m pc ls st0) := by
  intro T hT X
  obtain ⟨v', st₀, t, T', L, h0, X', hL, e1, e2, ⟨hv, hh⟩, st⟩ := hr T hT X
  cases hv
  obtain ⟨t2, a1, b1⟩ := kk T' (by rw [e1, hh, h0]) (Stand.forget X' (fun q h => (hL q h).elim))
  exact ⟨t2, st t2 a1, b1⟩
theorem x_blind {G : x_G} {lo : x_L} {co : x_C} {av : List Value} : FrameBlind (va_Pc av (fun U => x_R G lo co U.heap ∧ x_K G U)) := fun a U g mk h => ⟨h.1, h.2.1, x_K.same rfl h.2.2⟩
/-- what a static call of y at index needs -/
def x_S (own : String) (index : Nat) (y : MethodName) (cb : ByteArray) (n : Nat) (r : Option FieldType) (k : Nat) : Prop := Cond.methodLink own index y ∈ x_gw ∧ Cond.static y ∈ x_gw ∧ Cond.initialized y.cls ∈ x_gw ∧ Cond.code y cb n r ∈ x_gw ∧ (y.cls ≠ "java/lang/invoke/MethodHandle" ∧ y.cls ≠ "java/lang/invoke/VarHandle" ∧ (parseMethodDescriptor y.desc).map (fun d => d.parameters.length) = some k)
theorem x_rdS {y : MethodName} {cb : ByteArray} {n d index k : Nat} {r : Option FieldType} {av st : List Value} {v : Option Value} (cx : CallFix p m c cc nL s args x_gw own) (hk : x_K G s) (hw : x_R G lo co H) (hS : x_S own index y cb n r k) (hc : x_Rd l G lo co y cb n r d av v)
    (hl : ls.size = nL) (hn : av.length = k) (hst : st = av.reverse ++ rest) (hW : (rest.map fun v => v.category).sum ≤ 8) (hR : d + 1 ≤ R.frames ∧ 8 + (n + 11) + 40 * d ≤ R.locals) (hf : cells ≤ R.cells ∧ slots ≤ R.slots) (hdg : decode cc pc = .ok (.invokestatic index, 3))
    (kk : W p l e R s m args below meth c H locs cells slots Q (F0 m (pc + 3) ls (v.toList ++ rest))) : W p l e R s m args below meth c H locs cells slots Q (F0 m pc ls st) :=
  x_cr (va_runS (As := av) (rest := rest) cx hc (va_cwS k cx.2.2.2.2 (x_goodcons hS.1 (x_goodcons hS.2.1 (x_goodcons hS.2.2.1 (x_good (y := y) (cc := cb) (n := n) (r := r) hS.2.2.2.1)))) rfl rfl rfl hS.2.2.2.2 hR) ⟨x_blind, fun U hU hWm => ⟨rfl, by rw [hU]; exact hw, hk.warm hWm⟩⟩ rfl hn hl hst (by simpa [F0, JFrame.monitorRoom] using hW) hdg hf) kk
/-- what a virtual call of y at index on an object of class ci needs -/
def x_V (own : String) (index ci : Nat) (y : MethodName) (cb : ByteArray) (n : Nat) (r : Option FieldType) (k : Nat) : Prop := ∃ (C : String) (T : u_T) (N : Nat), vwCl[ci]? = some (C, T, N) ∧ Cond.methodLink own index y ∈ x_gw ∧ Cond.instanceMethod y ∈ x_gw ∧ Cond.selects C y y ∈ x_gw ∧ Cond.initialized C ∈ x_gw ∧ Cond.code y cb n r ∈ x_gw ∧ (y.cls = C ∧ y.cls ≠ "java/lang/invoke/MethodHandle" ∧ y.cls ≠ "java/lang/invoke/VarHandle" ∧ (parseMethodDescriptor y.desc).map (fun d => d.parameters.length) = some k)
theorem x_rdV {y : MethodName} {cb : ByteArray} {n d index k ci t : Nat} {r : Option FieldType} {av st fs : List Value} {v : Option Value} (cx : CallFix p m c cc nL s args x_gw own) (hk : x_K G s) (hw : x_R G lo co H) (ha : co t = some (.inr (ci, fs))) (hS : x_V own index ci y cb n r k) (hc : x_Rd l G lo co y cb n r d (.ref (lo t) :: av) v)
    (hl : ls.size = nL) (hn : av.length = k) (hst : st = av.reverse ++ .ref (lo t) :: rest) (hW : (rest.map fun v => v.category).sum ≤ 8) (hR : d + 1 ≤ R.frames ∧ 8 + (n + 11) + 40 * d ≤ R.locals) (hf : cells ≤ R.cells ∧ slots ≤ R.slots) (hdg : decode cc pc = .ok (.invokevirtual index, 3))
    (kk : W p l e R s m args below meth c H locs cells slots Q (F0 m (pc + 3) ls (v.toList ++ rest))) : W p l e R s m args below meth c H locs cells slots Q (F0 m pc ls st) := by
  obtain ⟨C, T, N, h0, h1, h2, h3, h4, h5, h6⟩ := hS
  exact x_cr (va_runV (As := av) (rest := rest) cx hc (cwV k cx.2.2.2.2 (x_goodcons h1 (x_goodcons h2 (x_goodcons h3 (x_goodcons h4 (x_good (y := y) (cc := cb) (n := n) (r := r) h5))))) rfl rfl rfl h6 hR) ⟨x_blind, va_recv hk.1 (hw.P ha) h0 (q0 := 0) rfl, fun U hU hWm => ⟨rfl, by rw [hU]; exact hw, hk.warm hWm⟩⟩ rfl hn hl hst (by simpa [F0, JFrame.monitorRoom] using hW) hdg hf) kk
/-- a private static of a nest mate -/
def x_SN (own : String) (index : Nat) (y : MethodName) (cb : ByteArray) (n : Nat) (r : Option FieldType) (k : Nat) : Prop := ∃ host : String, (own, index, y, host) ∈ x_nN ∧ Cond.static y ∈ x_gw ∧ Cond.initialized y.cls ∈ x_gw ∧ Cond.code y cb n r ∈ x_gw ∧ (y.cls ≠ "java/lang/invoke/MethodHandle" ∧ y.cls ≠ "java/lang/invoke/VarHandle" ∧ (parseMethodDescriptor y.desc).map (fun d => d.parameters.length) = some k)
theorem x_rdSN {y : MethodName} {cb : ByteArray} {n d index k : Nat} {r : Option FieldType} {av st : List Value} {v : Option Value} (cx : CallFix p m c cc nL s args x_gw own) (hk : x_K G s) (hw : x_R G lo co H) (hS : x_SN own index y cb n r k) (hc : x_Rd l G lo co y cb n r d av v)
    (hl : ls.size = nL) (hn : av.length = k) (hst : st = av.reverse ++ rest) (hW : (rest.map fun v => v.category).sum ≤ 8) (hR : d + 1 ≤ R.frames ∧ 8 + (n + 11) + 40 * d ≤ R.locals) (hf : cells ≤ R.cells ∧ slots ≤ R.slots) (hdg : decode cc pc = .ok (.invokestatic index, 3))
    (kk : W p l e R s m args below meth c H locs cells slots Q (F0 m (pc + 3) ls (v.toList ++ rest))) : W p l e R s m args below meth c H locs cells slots Q (F0 m pc ls st) := by
  obtain ⟨host, h1, h2, h3, h4, h5⟩ := hS
  exact x_cr (va_runSN (As := av) (rest := rest) cx hc ⟨va_cnB k cx.2.2.2.2 (x_good (y := y) (cc := cb) (n := n) (r := r) h4) rfl rfl rfl (hk.2.1 _ h1) (cx.2.2.2.2 _ h3) h5 hR, cx.2.2.2.2 _ h2, trivial⟩ ⟨x_blind, fun U hU hWm => ⟨rfl, by rw [hU]; exact hw, hk.warm hWm⟩⟩ rfl hn hl hst (by simpa [F0, JFrame.monitorRoom] using hW) hdg hf) kk
/-- a call that names x, of class owner; the receiver's class ci selects y. x is y itself (U), another with code (O), abstract (A) -/
def x_U (own : String) (index ci : Nat) (owner : String) (x y : MethodName) (cb : ByteArray) (n : Nat) (r : Option FieldType) (k : Nat) : Prop := ∃ (C : String) (T : u_T) (N : Nat), vwCl[ci]? = some (C, T, N) ∧ Cond.methodLink own index x ∈ x_gw ∧ Cond.sameMethod x.cls owner x.name x.desc ∈ x_gw ∧ Cond.selects C x y ∈ x_gw ∧ Cond.instanceMethod y ∈ x_gw ∧ Cond.initialized y.cls ∈ x_gw ∧ Cond.code y cb n r ∈ x_gw ∧
  (y = ⟨owner, x.name, x.desc⟩ ∨ (Cond.instanceMethod ⟨owner, x.name, x.desc⟩ ∈ x_gw ∧ ∃ (b0 : ByteArray) (m0 : Nat) (r0 : Option FieldType), Cond.code ⟨owner, x.name, x.desc⟩ b0 m0 r0 ∈ x_gw) ∨ (⟨owner, x.name, x.desc⟩ : MethodName) ∈ x_nD) ∧ (owner ≠ "java/lang/invoke/MethodHandle" ∧ owner ≠ "java/lang/invoke/VarHandle" ∧ (parseMethodDescriptor x.desc).map (fun d => d.parameters.length) = some k)
theorem x_rdU {owner : String} {x y : MethodName} {cb : ByteArray} {n d index k ci t : Nat} {r : Option FieldType} {av st fs : List Value} {v : Option Value} (cx : CallFix p m c cc nL s args x_gw own) (hk : x_K G s) (hw : x_R G lo co H) (ha : co t = some (.inr (ci, fs))) (hS : x_U own index ci owner x y cb n r k) (hc : x_Rd l G lo co y cb n r d (.ref (lo t) :: av) v)
    (hl : ls.size = nL) (hn : av.length = k) (hst : st = av.reverse ++ .ref (lo t) :: rest) (hW : (rest.map fun v => v.category).sum ≤ 8) (hR : d + 1 ≤ R.frames ∧ 8 + (n + 11) + 40 * d ≤ R.locals) (hf : cells ≤ R.cells ∧ slots ≤ R.slots) (hdg : decode cc pc = .ok (.invokevirtual index, 3))
    (kk : W p l e R s m args below meth c H locs cells slots Q (F0 m (pc + 3) ls (v.toList ++ rest))) : W p l e R s m args below meth c H locs cells slots Q (F0 m pc ls st) := by
  obtain ⟨C, T, N, h0, h1, h2, h3, h4, h5, h6, h7, h8⟩ := hS
  have hg : GoodIn x_gw (va_wsU own index C owner x y (Cond.code y cb n r :: x_gw)) := x_goodcons h1 (x_goodcons h2 (x_goodcons h3 (x_goodcons h4 (x_goodcons h5 (x_good (y := y) (cc := cb) (n := n) (r := r) h6)))))
  have cw : va_CU R s args own C owner index x y cb n r (Cond.code y cb n r :: x_gw) (x_rm d) 0 0 k := by
    rcases h7 with e | ⟨e, b0, m0, r0, e2⟩ | e
    · exact va_cwU k cx.2.2.2.2 hg rfl rfl rfl e h8 hR
    · exact va_cwO k cx.2.2.2.2 (x_goodcons h1 (x_goodcons h2 (x_goodcons e (x_goodcons h3 (x_goodcons h4 (x_goodcons h5 (x_good (y := y) (cc := cb) (n := n) (r := r) h6))))))) rfl rfl rfl e2 h8 hR
    · exact va_cwA k cx.2.2.2.2 hg rfl rfl rfl (hk.2.2.2 _ e) h8 hR
  exact x_cr (va_runU (As := av) (rest := rest) cx hc cw ⟨x_blind, va_recv hk.1 (hw.P ha) h0 (q0 := 0) rfl, fun U hU hWm => ⟨rfl, by rw [hU]; exact hw, hk.warm hWm⟩⟩ rfl hn hl hst (by simpa [F0, JFrame.monitorRoom] using hW) hdg hf) kk
end XW
