/-! writing: x_I: the tags' places are apart, and may be written; x_D: the world while a writer walks -/
def x_I (A : Nat → Prop) (lo : x_L) (co : x_C) : Prop := (∀ t u, co t ≠ none → co u ≠ none → lo t = lo u → t = u) ∧ ∀ t, co t ≠ none → A (lo t)
def x_D (A : Nat → Prop) (G : x_G) (H0 : Heap) (lo : x_L) (co : x_C) (H : Heap) (locs : List Loc) : Prop := x_R G lo co H ∧ x_I A lo co ∧ va_S A H0 H locs
theorem x_up_some {co : x_C} {t u : Nat} {e : va_E} (ht : co t ≠ none) (h : va_up co t (some e) u ≠ none) : co u ≠ none := by
  by_cases q : u = t
  · rw [q]; exact ht
  · rw [va_up_ne _ _ q] at h; exact h
theorem x_D.put {A : Nat → Prop} {G : x_G} {H0 H H1 : Heap} {lo : x_L} {co : x_C} {locs : List Loc} {t k : Nat} {e : va_E} (h : x_D A G H0 lo co H locs) (ht : co t ≠ none) (he : va_at G.1 vwCl (lo t, e) H1) (z : H1.size = H.size) (oq : ∀ q : Nat, q ≠ lo t → H1[q]? = H[q]?) : x_D A G H0 lo (va_up co t (some e)) H1 (locs ++ [⟨lo t, k⟩]) := by
  refine ⟨fun u e' hu => ?_, ⟨fun u v hu hv => h.2.1.1 u v (x_up_some ht hu) (x_up_some ht hv), fun u hu => h.2.1.2 u (x_up_some ht hu)⟩, h.2.2.put z oq (h.2.1.2 t ht)⟩
  by_cases q : u = t
  · subst q
    rw [va_up_self] at hu
    cases hu
    exact he
  · rw [va_up_ne _ _ q] at hu
    exact (h.1 u e' hu).kept (oq _ (fun w => q (h.2.1.1 u t (by rw [hu]; exact fun z => by cases z) ht w)))
/-- a fresh tag u gets the next place -/
theorem x_D.push {A : Nat → Prop} {G : x_G} {H0 H H1 : Heap} {lo : x_L} {co : x_C} {locs : List Loc} {u : Nat} {e : va_E} (h : x_D A G H0 lo co H locs) (hu : co u = none) (hA : ∀ q, H0.size ≤ q → A q) (he : va_at G.1 vwCl (H.size, e) H1) (z : H.size ≤ H1.size) (oq : ∀ q : Nat, q < H.size → H1[q]? = H[q]?) : x_D A G H0 (va_up lo u H.size) (va_up co u (some e)) H1 locs := by
  have old : ∀ v, va_up co u (some e) v ≠ none → v ≠ u → co v ≠ none ∧ va_up lo u H.size v = lo v := fun v hv q => by
    rw [va_up_ne _ _ q] at hv
    exact ⟨hv, va_up_ne _ _ q⟩
  have lt : ∀ v, co v ≠ none → lo v < H.size := fun v hv => by
    cases q : co v with
    | none => exact absurd q hv
    | some e' => exact (h.1 v e' q).lt
  refine ⟨fun v e' hv => ?_, ⟨fun v w hv hw hq => ?_, fun v hv => ?_⟩, ⟨Nat.le_trans h.2.2.1 z, fun q h1 h2 => (oq q (Nat.lt_of_lt_of_le h1 h.2.2.1)).trans (h.2.2.2.1 q h1 h2), h.2.2.2.2⟩⟩
  · by_cases q : v = u
    · subst q
      rw [va_up_self] at hv ⊢
      cases hv
      exact he
    · rw [va_up_ne _ _ q] at hv ⊢
      exact (h.1 v e' hv).kept (oq _ (lt v (by rw [hv]; exact fun z => by cases z)))
  · by_cases q : v = u <;> by_cases r : w = u
    · rw [q, r]
    · have := old w hw r
      rw [q, va_up_self, this.2] at hq
      have := lt w this.1
      omega
    · have := old v hv q
      rw [r, va_up_self, this.2] at hq
      have := lt v this.1
      omega
    · rw [(old v hv q).2, (old w hw r).2] at hq
      exact h.2.1.1 v w (old v hv q).1 (old w hw r).1 hq
  · by_cases q : v = u
    · rw [q, va_up_self]; exact hA _ h.2.2.1
    · rw [(old v hv q).2]; exact h.2.1.2 v (old v hv q).1
/-- a writer's contract -/
def x_A (lo : x_L) (co : x_C) (sz : Nat) : Nat → Prop := fun q => (∃ t, co t ≠ none ∧ lo t = q) ∨ sz ≤ q
abbrev x_rw (d mc ms : Nat) : Room := { frames := d, cells := mc, slots := ms, locals := 40 * d }
def x_Qw (post : Option Value → x_L → x_C → Prop) (G : x_G) (A : Nat → Prop) : Array Value → State → Outcome → State → Prop := fun _ st o t => ∃ (v : Option Value) (lo : x_L) (co : x_C), o = .returned v ∧ post v lo co ∧ x_R G lo co t.heap ∧ x_I A lo co ∧ va_F A st t
def x_Wr (l : Launch) (G : x_G) (lo : x_L) (co : x_C) (y : MethodName) (cc : ByteArray) (n : Nat) (r : Option FieldType) (d mc ms : Nat) (av : List Value) (post : Option Value → x_L → x_C → Prop) : Prop :=
  (∀ t u, co t ≠ none → co u ≠ none → lo t = lo u → t = u) → ∀ sz, Met l y (Cond.code y cc n r :: x_gw) (x_rw d mc ms) (va_Pc av (fun U => U.heap.size = sz ∧ x_R G lo co U.heap ∧ x_K G U)) (x_Qw post G (x_A lo co sz)) mc ms (x_A lo co sz)
abbrev x_ww (l : Launch) (d mc ms : Nat) (p : Program) (e : Env) (s : State) (m : MethodId) (av : Array Value) (below : List Frame) (meth : Method) (c : Code) (G : x_G) (post : Option Value → x_L → x_C → Prop) (A : Nat → Prop) (H : Heap) (locs : List Loc) (cells slots : Nat) (pc : Nat) (ls : Array Slot) (st : List Value) : Prop :=
  W p l e (x_rw d mc ms) s m av below meth c H locs cells slots (MQ below (x_Qw post G A) av s mc ms A) (F0 m pc ls st)
theorem x_wenter {l : Launch} {G : x_G} {lo : x_L} {co : x_C} {y : MethodName} {cc : ByteArray} {n : Nat} {r : Option FieldType} {d mc ms : Nat} {av : List Value} {post : Option Value → x_L → x_C → Prop} (own : String) (ho : y.cls = own) (hy : plainName y.cls = true) (hn : (lg_sl av).length ≤ n)
    (body : ∀ (p : Program) (e : Env) (s : State) (m : MethodId) (below : List Frame) (meth : Method) (c : Code) (ls : Array Slot) (A : Nat → Prop), CallFix p m c cc n s av.toArray x_gw own → x_K G s → x_D A G s.heap lo co s.heap [] → (∀ q, s.heap.size ≤ q → A q) → meth.sig.returnType = r → meth.locks = false → meth.name = y.name → lv_has ls n (lv_args 0 av) →
      x_ww l d mc ms p e s m av.toArray below meth c G post A s.heap [] 0 0 0 ls []) : x_Wr l G lo co y cc n r d mc ms av post := by
  intro hinj sz
  refine Met.ofW (cc := cc) (maxL := n) (ret := r) hy rfl ?_
  intro p e s m args below meth c s₁ B hml hv
  obtain ⟨rfl, hsz, hR, hK⟩ := hv
  subst hsz
  have hts := atoms_spec (ws := Cond.code y cc n r :: x_gw) B.pre
  have hl := lv_entry av (n := n) hn
  rw [lg_entry_eq]
  exact body p e s m below meth c _ (x_A lo co s.heap.size) ⟨B.exec, B.bytes, hml, by rw [← ho]; exact findClass_of_methodNamed B.named, fun w hw => hts w (List.mem_cons_of_mem _ hw)⟩ hK ⟨hR, ⟨hinj, fun t ht => Or.inl ⟨t, ht, rfl⟩⟩, va_S.rf⟩ (fun q hq => Or.inr hq) B.returns B.notSynchronized (name_of_methodNamed B.named B.method).1 hl
section XW9
variable {p : Program} {l : Launch} {e : Env} {R : Room} {s : State} {m : MethodId} {args : Array Value} {below : List Frame} {meth : Method} {c : Code} {H : Heap} {locs : List Loc} {cells slots : Nat} {Q : State → Prop}
variable {cc : ByteArray} {pc : Nat} {ls : Array Slot} {rest : List Value} {G : x_G} {lo : x_L} {co : x_C} {nL : Nat} {own : String} {A : Nat → Prop} {H0 : Heap}
theorem y_q {post : Option Value → x_L → x_C → Prop} {v : Option Value} (hW : x_D A G s.heap lo co H locs) (hp : post v lo co) : ∀ t : State, t.heap = H → s.WarmedH t.vm → x_Qw post G A args s (.returned v) t := fun t ht _ => ⟨v, lo, co, rfl, hp, by rw [ht]; exact hW.1, hW.2.1, hW.2.2.F ht⟩
theorem y_iret {d mc ms : Nat} {post : Option Value → x_L → x_C → Prop} {x : Int32} (cx : CallFix p m c cc nL s args x_gw own) (hW : x_D A G s.heap lo co H locs) (hr : meth.sig.returnType = some .int) (hlk : meth.locks = false) (hc : cells ≤ mc ∧ slots ≤ ms) (hdg : decode cc pc = .ok (.ireturn, 1)) (hp : post (some (.int x)) lo co) : x_ww l d mc ms p e s m args below meth c G post A H locs cells slots pc ls [.int x] :=
  W.widen hc.1 hc.2 (W.iret cx.1 cx.2.1 hr (y_q hW hp) hW.2.2.2.2 hdg hlk)
theorem y_zret {d mc ms : Nat} {post : Option Value → x_L → x_C → Prop} {x : Int32} (b : Bool) (cx : CallFix p m c cc nL s args x_gw own) (hW : x_D A G s.heap lo co H locs) (hr : meth.sig.returnType = some .boolean) (hlk : meth.locks = false) (hc : cells ≤ mc ∧ slots ≤ ms) (hdg : decode cc pc = .ok (.ireturn, 1)) (hx : x = bI b) (hp : post (some (.int (bI b))) lo co) : x_ww l d mc ms p e s m args below meth c G post A H locs cells slots pc ls [.int x] := by
  subst hx
  exact W.widen hc.1 hc.2 (W.zret cx.1 cx.2.1 hr (bI_nar b) (y_q hW hp) hW.2.2.2.2 hdg hlk)
theorem y_lret {d mc ms : Nat} {post : Option Value → x_L → x_C → Prop} {x : Int64} (cx : CallFix p m c cc nL s args x_gw own) (hW : x_D A G s.heap lo co H locs) (hr : meth.sig.returnType = some .long) (hlk : meth.locks = false) (hc : cells ≤ mc ∧ slots ≤ ms) (hdg : decode cc pc = .ok (.lreturn, 1)) (hp : post (some (.long x)) lo co) : x_ww l d mc ms p e s m args below meth c G post A H locs cells slots pc ls [.long x] :=
  W.widen hc.1 hc.2 (W.lret cx.1 cx.2.1 hr (y_q hW hp) hW.2.2.2.2 hdg hlk)
theorem y_vret {d mc ms : Nat} {post : Option Value → x_L → x_C → Prop} (cx : CallFix p m c cc nL s args x_gw own) (hW : x_D A G s.heap lo co H locs) (hr : meth.sig.returnType = none) (hlk : meth.locks = false) (hc : cells ≤ mc ∧ slots ≤ ms) (hdg : decode cc pc = .ok (.return_, 1)) (hp : post none lo co) : x_ww l d mc ms p e s m args below meth c G post A H locs cells slots pc ls [] :=
  W.widen hc.1 hc.2 (W.vret cx.1 cx.2.1 hr (y_q hW hp) hW.2.2.2.2 hdg hlk)
theorem y_aret {d mc ms : Nat} {post : Option Value → x_L → x_C → Prop} {w : Value} {rt : FieldType} (cx : CallFix p m c cc nL s args x_gw own) (hW : x_D A G s.heap lo co H locs) (hr : meth.sig.returnType = some rt) (hrt : (∃ n, rt = .object n) ∨ ∃ t, rt = .array t) (hlk : meth.locks = false) (hc : cells ≤ mc ∧ slots ≤ ms) (hw : w = .null ∨ ∃ a, w = .ref a) (hdg : decode cc pc = .ok (.areturn, 1)) (hp : post (some w) lo co) : x_ww l d mc ms p e s m args below meth c G post A H locs cells slots pc ls [w] :=
  W.widen hc.1 hc.2 (W.aret cx.1 cx.2.1 hr hrt hw (y_q hW hp) hW.2.2.2.2 hdg hlk)
/-- stores into rows of ints, of booleans -/
theorem x_iast {t n : Nat} {f : Nat → Int32} {i x : Int32} (cx : CallFix p m c cc nL s args x_gw own) (hk : x_K G s) (hW : x_D A G H0 lo co H locs) (ha : co t = some (.inl (G.2 0, n, .inl f))) (hin : vp_in i n) (hdg : decode cc pc = .ok (.iastore, 1))
    (kk : ∀ (H1 : Heap) (locs1 : List Loc), x_D A G H0 lo (va_up co t (some (.inl (G.2 0, n, .inl (upd f i.toNatClampNeg x))))) H1 locs1 → W p l e R s m args below meth c H1 locs1 cells slots Q (F0 m (pc + 1) ls rest)) : W p l e R s m args below meth c H locs cells slots Q (F0 m pc ls (.int x :: .int i :: .ref (lo t) :: rest)) := by
  refine W.iast cx.1 cx.2.1 (hW.1 t _ ha) ((hk.1.2 0 (G.2 0, .int) rfl).1 n (fun j => .int (f j))) (fun q => by cases q) (by show ¬ (i < 0 ∨ (arrV _ _ _).slots.size ≤ _); rw [arrV_size]; exact hin) rfl rfl hdg fun H1 e1 z oq => ?_
  refine kk H1 _ (hW.put (by rw [ha]; exact fun q => by cases q) ?_ z oq)
  show H1[lo t]? = some (vp_cell _ _)
  rw [e1, vp_cell_i, vp_cell_i, arrV_store]
  congr 2
  funext q
  by_cases hq : q = i.toNatClampNeg
  · subst hq; simp [updV, upd]
  · simp [updV, upd, hq]
theorem x_zast {t n : Nat} {f : Nat → Int32} {i : Int32} (b : Bool) {x : Int32} (cx : CallFix p m c cc nL s args x_gw own) (hk : x_K G s) (hW : x_D A G H0 lo co H locs) (ha : co t = some (.inl (G.2 1, n, .inl f))) (hin : vp_in i n) (hx : x = bI b) (hdg : decode cc pc = .ok (.bastore, 1))
    (kk : ∀ (H1 : Heap) (locs1 : List Loc), x_D A G H0 lo (va_up co t (some (.inl (G.2 1, n, .inl (upd f i.toNatClampNeg (bI b)))))) H1 locs1 → W p l e R s m args below meth c H1 locs1 cells slots Q (F0 m (pc + 1) ls rest)) : W p l e R s m args below meth c H locs cells slots Q (F0 m pc ls (.int x :: .int i :: .ref (lo t) :: rest)) := by
  subst hx
  refine W.zast cx.1 cx.2.1 (hW.1 t _ ha) ((hk.1.2 1 (G.2 1, .boolean) rfl).1 n (fun j => .int (f j))) (fun q => by cases q) (by show ¬ (i < 0 ∨ (arrV _ _ _).slots.size ≤ _); rw [arrV_size]; exact hin) rfl rfl hdg fun H1 e1 z oq => ?_
  refine kk H1 _ (hW.put (by rw [ha]; exact fun q => by cases q) ?_ z oq)
  show H1[lo t]? = some (vp_cell _ _)
  rw [e1, bI_nar, vp_cell_i, vp_cell_i, arrV_store]
  congr 2
  funext q
  by_cases hq : q = i.toNatClampNeg
  · subst hq; simp [updV, upd]
  · simp [updV, upd, hq]
/-- a field's facts, for a store -/
def x_P (own : String) (index ci k : Nat) (fin : Bool) (ty : FieldType) : Prop := ∃ (C : String) (T : u_T) (N : Nat) (ref : String) (ty0 : Nat → FieldType), vwCl[ci]? = some (C, T, N) ∧ k < N ∧ (∀ w ∈ u_ws C T N, w ∈ x_gw) ∧ Cond.fieldLink own index ref (T k).2.1 (T k).2.2.1 ∈ x_gw ∧ (ref = (T k).1 ∨ Cond.sameField ref (T k).1 (T k).2.1 (T k).2.2.1 ∈ x_gw) ∧ (∀ j, j < N → parseFieldDescriptor (T j).2.2.1 = some (ty0 j)) ∧ (∀ a, a < N → ∀ b, b < N → a ≠ b → (T a).2.1 ≠ (T b).2.1) ∧ (T k).2.2.2 = fin ∧ parseFieldDescriptor (T k).2.2.1 = some ty ∧ (fin = true → (T k).1 = own)
theorem x_put {t ci k index : Nat} {fs : List Value} {v : Value} {fin : Bool} {ty : FieldType} (cx : CallFix p m c cc nL s args x_gw own) (hk : x_K G s) (hW : x_D A G H0 lo co H locs) (ha : co t = some (.inr (ci, fs))) (hF : x_P own index ci k fin ty) (hi : fin = true → meth.name = "<init>") (hl : k < fs.length) (hn : narrow ty v = v) (hfit : fits ty v = true) (hdg : decode cc pc = .ok (.putfield index, 3))
    (kk : ∀ (H1 : Heap) (locs1 : List Loc), x_D A G H0 lo (va_up co t (some (.inr (ci, fs.set k v)))) H1 locs1 → W p l e R s m args below meth c H1 locs1 cells slots Q (F0 m (pc + 3) ls rest)) : W p l e R s m args below meth c H locs cells slots Q (F0 m pc ls (v :: .ref (lo t) :: rest)) := by
  obtain ⟨C, T, N, ref, ty0, hc, hkN, hin, hlink, hsame, hty, hnm, hfin, hd, hdecl⟩ := hF
  have hts := cx.2.2.2.2
  have hown := cx.2.2.2.1
  have hap := va_apart (own := own) hts hin ty0 hty hnm hk.1 hc
  obtain ⟨r, h1, cell, q1, q2, q3, q4⟩ := hW.1 t _ ha
  have hr : r = (C, T, N) := Option.some.inj (h1.symm.trans hc)
  subst hr
  obtain ⟨hS, hfc, kC, hkC, hkind⟩ := hk.1.1 ci _ hc
  obtain ⟨cf, kf, fi, f, hif, hsl⟩ := hS k hkN
  have hsm : s.fieldFound? ref (T k).2.1 (T k).2.2.1 = some (cf, kf, fi, f) := hsame.elim (fun e => e ▸ hif) (fun h => u_same (hts _ h) _ hif)
  have hlay := hts _ (hin _ (u_in_lay hkN))
  unfold u_lay at hlay
  have hst := (u_facts hfc hkC (u_lays hts hin hkN) hif).1
  have fin' : ∀ H1, H1[lo t]? = some (cell.setSlot (G.1.2 ci k) v) → va_at G.1 vwCl (lo t, .inr (ci, fs.set k v)) H1 := fun H1 e1 => ⟨_, hc, t_OB.to (V := updV (vp_V fs) k v) ⟨_, e1, q2, q3, t_set q4 hap hkN v⟩ (fun j _ => vp_updV_set hl v j)⟩
  cases fin with
  | false =>
    rw [if_neg (by rw [hfin]; decide)] at hlay
    have h6 := u_store hfc hkC hkind hlay hif hd hn hfit
    refine W.putK cx.1 cx.2.1 (f := f) ⟨hown, hts _ hlink, ⟨_, _, _, hsm⟩, hst⟩ (by rw [q2]; exact h6) q1 q3 (by rw [hsl]; exact k2_hasslot (q4 k hkN)) rfl rfl hdg fun H' e1 e2 e3 => ?_
    rw [hsl] at e1 ⊢
    exact kk H' _ (hW.put (by rw [ha]; exact fun q => by cases q) (fin' H' e1) e2 e3)
  | true =>
    rw [if_pos hfin] at hlay
    have hcf : m.cls = cf := by
      obtain ⟨_, _, c', _, _, _, -, -, hf', -, -, -, hown2, -⟩ := Cond.laysFinal_spec hlay
      have e1 : c' = cf := by have := hif.symm.trans hf'; simp at this; exact this.1.symm
      rw [hdecl rfl] at hown2
      rw [← e1]; exact Option.some.inj (hown.symm.trans hown2)
    have h6 := u_fits hfc hkC hkind (Or.inr hlay) hif hd hn hfit
    refine W.putFinK cx.1 cx.2.1 hown (hts _ hlink) hsm hst hcf (hi rfl) (by rw [q2]; exact h6) q1 q3 (by rw [hsl]; exact k2_hasslot (q4 k hkN)) rfl rfl hdg fun H' e1 e2 e3 => ?_
    rw [hsl] at e1 ⊢
    exact kk H' _ (hW.put (by rw [ha]; exact fun q => by cases q) (fin' H' e1) e2 e3)
/-- a call of a writer: the whole world is handed over -/
theorem y_cr {post : Option Value → x_L → x_C → Prop} {st0 : List Value} {a : Array Value} {mc ms : Nat} (hr : va_Run p l e R s m args below meth c H locs cells slots mc ms (F0 m pc ls st0) rest (x_Qw post G (x_A lo co H.size) a) (x_A lo co H.size)) (hW : x_D A G H0 lo co H locs) (hA : ∀ q, H0.size ≤ q → A q)
    (kk : ∀ (v : Option Value) (lo1 : x_L) (co1 : x_C) (H1 : Heap) (locs1 : List Loc), post v lo1 co1 → x_D A G H0 lo1 co1 H1 locs1 → W p l e R s m args below meth c H1 locs1 (cells + mc) (slots + ms) Q (F0 m (pc + 3) ls (v.toList ++ rest))) : W p l e R s m args below meth c H locs cells slots Q (F0 m pc ls st0) := by
  have hsub : ∀ q, x_A lo co H.size q → A q := fun q h => h.elim (fun ⟨t, h1, h2⟩ => h2 ▸ hW.2.1.2 t h1) (fun h => hA q (Nat.le_trans hW.2.2.1 h))
  intro T hT X
  obtain ⟨v', st₀, t, T', L, h0, X', hL, e1, e2, ⟨v, lo1, co1, hv, hp, hR1, hI1, hz, hkk⟩, st⟩ := hr T hT X
  cases hv
  rw [h0] at hz hkk
  have hS := hW.2.2
  obtain ⟨t2, a1, b1⟩ := kk v' lo1 co1 T'.heap (locs ++ L) hp ⟨by rw [e1]; exact hR1, ⟨hI1.1, fun u hu => hsub _ (hI1.2 u hu)⟩, ⟨Nat.le_trans hS.1 (by rw [e1]; exact hz), fun q h1 h2 => by rw [e1, hkk q (Nat.lt_of_lt_of_le h1 hS.1) (fun z => h2 (hsub q z))]; exact hS.2.1 q h1 h2, fun q hq => by
      rcases List.mem_append.mp hq with h | h
      · exact hS.2.2 q h
      · exact hsub _ (hL q h)⟩⟩ T' rfl X'
  exact ⟨t2, st t2 a1, b1⟩
theorem y_blind {sz : Nat} {av : List Value} : FrameBlind (va_Pc av (fun U => U.heap.size = sz ∧ x_R G lo co U.heap ∧ x_K G U)) := fun a U g mk h => ⟨h.1, h.2.1, h.2.2.1, x_K.same rfl h.2.2.2⟩
theorem y_wrS {y : MethodName} {cb : ByteArray} {n d index k mc ms : Nat} {r : Option FieldType} {av st : List Value} {post : Option Value → x_L → x_C → Prop} (cx : CallFix p m c cc nL s args x_gw own) (hk : x_K G s) (hW : x_D A G H0 lo co H locs) (hA : ∀ q, H0.size ≤ q → A q) (hS : x_S own index y cb n r k) (hc : x_Wr l G lo co y cb n r d mc ms av post)
    (hl : ls.size = nL) (hn : av.length = k) (hst : st = av.reverse ++ rest) (hwd : (rest.map fun v => v.category).sum ≤ 8) (hR : d + 1 ≤ R.frames ∧ 8 + (n + 11) + 40 * d ≤ R.locals) (hf : cells + mc ≤ R.cells ∧ slots + ms ≤ R.slots) (hdg : decode cc pc = .ok (.invokestatic index, 3))
    (kk : ∀ (v : Option Value) (lo1 : x_L) (co1 : x_C) (H1 : Heap) (locs1 : List Loc), post v lo1 co1 → x_D A G H0 lo1 co1 H1 locs1 → W p l e R s m args below meth c H1 locs1 (cells + mc) (slots + ms) Q (F0 m (pc + 3) ls (v.toList ++ rest))) : W p l e R s m args below meth c H locs cells slots Q (F0 m pc ls st) :=
  y_cr (va_runS (As := av) (rest := rest) cx (hc hW.2.1.1 H.size) (va_cwS k cx.2.2.2.2 (x_goodcons hS.1 (x_goodcons hS.2.1 (x_goodcons hS.2.2.1 (x_good (y := y) (cc := cb) (n := n) (r := r) hS.2.2.2.1)))) rfl rfl rfl hS.2.2.2.2 hR) ⟨y_blind, fun U hU hWm => ⟨rfl, by rw [hU], by rw [hU]; exact hW.1, hk.warm hWm⟩⟩ rfl hn hl hst (by simpa [F0, JFrame.monitorRoom] using hwd) hdg hf) hW hA kk
theorem y_wrV {y : MethodName} {cb : ByteArray} {n d index k ci t mc ms : Nat} {r : Option FieldType} {av st fs : List Value} {post : Option Value → x_L → x_C → Prop} (cx : CallFix p m c cc nL s args x_gw own) (hk : x_K G s) (hW : x_D A G H0 lo co H locs) (hA : ∀ q, H0.size ≤ q → A q) (ha : co t = some (.inr (ci, fs))) (hS : x_V own index ci y cb n r k) (hc : x_Wr l G lo co y cb n r d mc ms (.ref (lo t) :: av) post)
    (hl : ls.size = nL) (hn : av.length = k) (hst : st = av.reverse ++ .ref (lo t) :: rest) (hwd : (rest.map fun v => v.category).sum ≤ 8) (hR : d + 1 ≤ R.frames ∧ 8 + (n + 11) + 40 * d ≤ R.locals) (hf : cells + mc ≤ R.cells ∧ slots + ms ≤ R.slots) (hdg : decode cc pc = .ok (.invokevirtual index, 3))
    (kk : ∀ (v : Option Value) (lo1 : x_L) (co1 : x_C) (H1 : Heap) (locs1 : List Loc), post v lo1 co1 → x_D A G H0 lo1 co1 H1 locs1 → W p l e R s m args below meth c H1 locs1 (cells + mc) (slots + ms) Q (F0 m (pc + 3) ls (v.toList ++ rest))) : W p l e R s m args below meth c H locs cells slots Q (F0 m pc ls st) := by
  obtain ⟨C, T, N, h0, h1, h2, h3, h4, h5, h6⟩ := hS
  exact y_cr (va_runV (As := av) (rest := rest) cx (hc hW.2.1.1 H.size) (cwV k cx.2.2.2.2 (x_goodcons h1 (x_goodcons h2 (x_goodcons h3 (x_goodcons h4 (x_good (y := y) (cc := cb) (n := n) (r := r) h5))))) rfl rfl rfl h6 hR) ⟨y_blind, va_recv hk.1 (hW.1.P ha) h0 (q0 := 0) rfl, fun U hU hWm => ⟨rfl, by rw [hU], by rw [hU]; exact hW.1, hk.warm hWm⟩⟩ rfl hn hl hst (by simpa [F0, JFrame.monitorRoom] using hwd) hdg hf) hW hA kk
end XW9
