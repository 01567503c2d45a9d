/-- all but the tags b to b + n - 1 as before -/
def ofr (co co1 : x_C) (b n : Nat) : Prop := ∀ i, (i < b ∨ b + n ≤ i) → co1 i = co i
theorem ofr.rf (co : x_C) (b n : Nat) : ofr co co b n := fun _ _ => rfl
theorem ofr.tr {co co1 co2 : x_C} {b n : Nat} (h : ofr co co1 b n) (h2 : ofr co1 co2 b n) : ofr co co2 b n := fun i hi => (h2 i hi).trans (h i hi)
theorem upd_nI {f : Nat → Nat} {k v : Nat} : upd (fun j => nI (f j)) k (nI v) = fun j => nI (va_up f k v j) := by
  funext j
  by_cases e : j = k
  · subst e; rw [va_up_self]; exact if_pos rfl
  · rw [va_up_ne _ _ e]; exact if_neg e
theorem vu_at {α : Type} {f : Nat → α} {k : Nat} {v w : α} (h : v = w) : va_up f k v k = w := by rw [va_up_self, h]
section XW11
variable {p : Program} {l : Launch} {e : Env} {R : Room} {s : State} {m : MethodId} {args : Array Value} {below : List Frame} {meth : Method} {c : Code} {H : Heap} {locs : List Loc} {cells slots : Nat} {Q : State → Prop}
variable {cc : ByteArray} {pc : Nat} {ls : Array Slot} {rest : List Value} {G : x_G} {lo : x_L} {co : x_C} {nL : Nat} {own : String} {A : Nat → Prop} {H0 : Heap}
theorem t_st0 {b k v : Nat} {T : Tb} (cx : CallFix p m c cc nL s args x_gw own) (hk : x_K G s) (hW : x_D A G H0 lo co H locs) (ht : isTb G lo co b T) (hin : k < 240) (hdg : decode cc pc = .ok (.iastore, 1)) (kk : ∀ (co1 : x_C) (H1 : Heap) (locs1 : List Loc), isTb G lo co1 b (T.1, va_up T.2 0 (va_up (T.2 0) k v)) → ofr co co1 b 5 → x_D A G H0 lo co1 H1 locs1 → W p l e R s m args below meth c H1 locs1 cells slots Q (F0 m (pc + 1) ls (rest))) : W p l e R s m args below meth c H locs cells slots Q (F0 m (pc) ls (.int (nI v) :: .int (nI k) :: .ref (lo (b + 1)) :: rest)) := by
  refine x_iast (t := b + 1) cx hk hW ht.2.1 (vp_in_nI hin (by decide)) hdg fun H1 locs1 h => ?_
  rw [nI_clamp (by omega)] at h
  exact kk _ H1 locs1 ⟨(va_up_ne _ _ (by omega)).trans ht.1, vu_at (by rw [upd_nI]; rfl), (va_up_ne _ _ (by omega)).trans ht.2.2.1, (va_up_ne _ _ (by omega)).trans ht.2.2.2.1, (va_up_ne _ _ (by omega)).trans ht.2.2.2.2⟩ (fun i hi => va_up_ne _ _ (by omega)) h
theorem t_st1 {b k v : Nat} {T : Tb} (cx : CallFix p m c cc nL s args x_gw own) (hk : x_K G s) (hW : x_D A G H0 lo co H locs) (ht : isTb G lo co b T) (hin : k < 4) (hdg : decode cc pc = .ok (.iastore, 1)) (kk : ∀ (co1 : x_C) (H1 : Heap) (locs1 : List Loc), isTb G lo co1 b (T.1, va_up T.2 1 (va_up (T.2 1) k v)) → ofr co co1 b 5 → x_D A G H0 lo co1 H1 locs1 → W p l e R s m args below meth c H1 locs1 cells slots Q (F0 m (pc + 1) ls (rest))) : W p l e R s m args below meth c H locs cells slots Q (F0 m (pc) ls (.int (nI v) :: .int (nI k) :: .ref (lo (b + 2)) :: rest)) := by
  refine x_iast (t := b + 2) cx hk hW ht.2.2.1 (vp_in_nI hin (by decide)) hdg fun H1 locs1 h => ?_
  rw [nI_clamp (by omega)] at h
  exact kk _ H1 locs1 ⟨(va_up_ne _ _ (by omega)).trans ht.1, (va_up_ne _ _ (by omega)).trans ht.2.1, vu_at (by rw [upd_nI]; rfl), (va_up_ne _ _ (by omega)).trans ht.2.2.2.1, (va_up_ne _ _ (by omega)).trans ht.2.2.2.2⟩ (fun i hi => va_up_ne _ _ (by omega)) h
theorem t_st2 {b k v : Nat} {T : Tb} (cx : CallFix p m c cc nL s args x_gw own) (hk : x_K G s) (hW : x_D A G H0 lo co H locs) (ht : isTb G lo co b T) (hin : k < 4) (hdg : decode cc pc = .ok (.iastore, 1)) (kk : ∀ (co1 : x_C) (H1 : Heap) (locs1 : List Loc), isTb G lo co1 b (T.1, va_up T.2 2 (va_up (T.2 2) k v)) → ofr co co1 b 5 → x_D A G H0 lo co1 H1 locs1 → W p l e R s m args below meth c H1 locs1 cells slots Q (F0 m (pc + 1) ls (rest))) : W p l e R s m args below meth c H locs cells slots Q (F0 m (pc) ls (.int (nI v) :: .int (nI k) :: .ref (lo (b + 3)) :: rest)) := by
  refine x_iast (t := b + 3) cx hk hW ht.2.2.2.1 (vp_in_nI hin (by decide)) hdg fun H1 locs1 h => ?_
  rw [nI_clamp (by omega)] at h
  exact kk _ H1 locs1 ⟨(va_up_ne _ _ (by omega)).trans ht.1, (va_up_ne _ _ (by omega)).trans ht.2.1, (va_up_ne _ _ (by omega)).trans ht.2.2.1, vu_at (by rw [upd_nI]; rfl), (va_up_ne _ _ (by omega)).trans ht.2.2.2.2⟩ (fun i hi => va_up_ne _ _ (by omega)) h
theorem t_st3 {b k v : Nat} {T : Tb} (cx : CallFix p m c cc nL s args x_gw own) (hk : x_K G s) (hW : x_D A G H0 lo co H locs) (ht : isTb G lo co b T) (hin : k < 4) (hdg : decode cc pc = .ok (.iastore, 1)) (kk : ∀ (co1 : x_C) (H1 : Heap) (locs1 : List Loc), isTb G lo co1 b (T.1, va_up T.2 3 (va_up (T.2 3) k v)) → ofr co co1 b 5 → x_D A G H0 lo co1 H1 locs1 → W p l e R s m args below meth c H1 locs1 cells slots Q (F0 m (pc + 1) ls (rest))) : W p l e R s m args below meth c H locs cells slots Q (F0 m (pc) ls (.int (nI v) :: .int (nI k) :: .ref (lo (b + 4)) :: rest)) := by
  refine x_iast (t := b + 4) cx hk hW ht.2.2.2.2 (vp_in_nI hin (by decide)) hdg fun H1 locs1 h => ?_
  rw [nI_clamp (by omega)] at h
  exact kk _ H1 locs1 ⟨(va_up_ne _ _ (by omega)).trans ht.1, (va_up_ne _ _ (by omega)).trans ht.2.1, (va_up_ne _ _ (by omega)).trans ht.2.2.1, (va_up_ne _ _ (by omega)).trans ht.2.2.2.1, vu_at (by rw [upd_nI]; rfl)⟩ (fun i hi => va_up_ne _ _ (by omega)) h
theorem t_pf3 {b v index : Nat} {T : Tb} (cx : CallFix p m c cc nL s args x_gw own) (hk : x_K G s) (hW : x_D A G H0 lo co H locs) (ht : isTb G lo co b T) (hF : x_P own index 8 3 false .int) (hdg : decode cc pc = .ok (.putfield index, 3)) (kk : ∀ (co1 : x_C) (H1 : Heap) (locs1 : List Loc), isTb G lo co1 b (va_up T.1 3 v, T.2) → ofr co co1 b 5 → x_D A G H0 lo co1 H1 locs1 → W p l e R s m args below meth c H1 locs1 cells slots Q (F0 m (pc + 3) ls (rest))) : W p l e R s m args below meth c H locs cells slots Q (F0 m (pc) ls (.int (nI v) :: .ref (lo b) :: rest)) := by
  refine x_put (t := b) cx hk hW ht.1 hF (fun q => by cases q) (by simp) rfl rfl hdg fun H1 locs1 h => ?_
  exact kk _ H1 locs1 ⟨va_up_self _ _ _, (va_up_ne _ _ (by omega)).trans ht.2.1, (va_up_ne _ _ (by omega)).trans ht.2.2.1, (va_up_ne _ _ (by omega)).trans ht.2.2.2.1, (va_up_ne _ _ (by omega)).trans ht.2.2.2.2⟩ (fun i hi => va_up_ne _ _ (by omega)) h
theorem t_pf4 {b v index : Nat} {T : Tb} (cx : CallFix p m c cc nL s args x_gw own) (hk : x_K G s) (hW : x_D A G H0 lo co H locs) (ht : isTb G lo co b T) (hF : x_P own index 8 4 false .int) (hdg : decode cc pc = .ok (.putfield index, 3)) (kk : ∀ (co1 : x_C) (H1 : Heap) (locs1 : List Loc), isTb G lo co1 b (va_up T.1 4 v, T.2) → ofr co co1 b 5 → x_D A G H0 lo co1 H1 locs1 → W p l e R s m args below meth c H1 locs1 cells slots Q (F0 m (pc + 3) ls (rest))) : W p l e R s m args below meth c H locs cells slots Q (F0 m (pc) ls (.int (nI v) :: .ref (lo b) :: rest)) := by
  refine x_put (t := b) cx hk hW ht.1 hF (fun q => by cases q) (by simp) rfl rfl hdg fun H1 locs1 h => ?_
  exact kk _ H1 locs1 ⟨va_up_self _ _ _, (va_up_ne _ _ (by omega)).trans ht.2.1, (va_up_ne _ _ (by omega)).trans ht.2.2.1, (va_up_ne _ _ (by omega)).trans ht.2.2.2.1, (va_up_ne _ _ (by omega)).trans ht.2.2.2.2⟩ (fun i hi => va_up_ne _ _ (by omega)) h
theorem t_pf5 {b v index : Nat} {T : Tb} (cx : CallFix p m c cc nL s args x_gw own) (hk : x_K G s) (hW : x_D A G H0 lo co H locs) (ht : isTb G lo co b T) (hF : x_P own index 8 5 false .int) (hdg : decode cc pc = .ok (.putfield index, 3)) (kk : ∀ (co1 : x_C) (H1 : Heap) (locs1 : List Loc), isTb G lo co1 b (va_up T.1 5 v, T.2) → ofr co co1 b 5 → x_D A G H0 lo co1 H1 locs1 → W p l e R s m args below meth c H1 locs1 cells slots Q (F0 m (pc + 3) ls (rest))) : W p l e R s m args below meth c H locs cells slots Q (F0 m (pc) ls (.int (nI v) :: .ref (lo b) :: rest)) := by
  refine x_put (t := b) cx hk hW ht.1 hF (fun q => by cases q) (by simp) rfl rfl hdg fun H1 locs1 h => ?_
  exact kk _ H1 locs1 ⟨va_up_self _ _ _, (va_up_ne _ _ (by omega)).trans ht.2.1, (va_up_ne _ _ (by omega)).trans ht.2.2.1, (va_up_ne _ _ (by omega)).trans ht.2.2.2.1, (va_up_ne _ _ (by omega)).trans ht.2.2.2.2⟩ (fun i hi => va_up_ne _ _ (by omega)) h
theorem q_st0 {b tb k v : Nat} {Q_ : Qn} (cx : CallFix p m c cc nL s args x_gw own) (hk : x_K G s) (hW : x_D A G H0 lo co H locs) (hq : isQn G lo co b tb Q_) (hin : k < 4) (hdg : decode cc pc = .ok (.iastore, 1)) (kk : ∀ (co1 : x_C) (H1 : Heap) (locs1 : List Loc), isQn G lo co1 b tb (Q_.1, va_up Q_.2 0 (va_up (Q_.2 0) k v)) → ofr co co1 b 3 → x_D A G H0 lo co1 H1 locs1 → W p l e R s m args below meth c H1 locs1 cells slots Q (F0 m (pc + 1) ls (rest))) : W p l e R s m args below meth c H locs cells slots Q (F0 m (pc) ls (.int (nI v) :: .int (nI k) :: .ref (lo (b + 1)) :: rest)) := by
  refine x_iast (t := b + 1) cx hk hW hq.2.1 (vp_in_nI hin (by decide)) hdg fun H1 locs1 h => ?_
  rw [nI_clamp (by omega)] at h
  exact kk _ H1 locs1 ⟨(va_up_ne _ _ (by omega)).trans hq.1, vu_at (by rw [upd_nI]; rfl), (va_up_ne _ _ (by omega)).trans hq.2.2⟩ (fun i hi => va_up_ne _ _ (by omega)) h
theorem q_st1 {b tb k v : Nat} {Q_ : Qn} (cx : CallFix p m c cc nL s args x_gw own) (hk : x_K G s) (hW : x_D A G H0 lo co H locs) (hq : isQn G lo co b tb Q_) (hin : k < 4) (hdg : decode cc pc = .ok (.iastore, 1)) (kk : ∀ (co1 : x_C) (H1 : Heap) (locs1 : List Loc), isQn G lo co1 b tb (Q_.1, va_up Q_.2 1 (va_up (Q_.2 1) k v)) → ofr co co1 b 3 → x_D A G H0 lo co1 H1 locs1 → W p l e R s m args below meth c H1 locs1 cells slots Q (F0 m (pc + 1) ls (rest))) : W p l e R s m args below meth c H locs cells slots Q (F0 m (pc) ls (.int (nI v) :: .int (nI k) :: .ref (lo (b + 2)) :: rest)) := by
  refine x_iast (t := b + 2) cx hk hW hq.2.2 (vp_in_nI hin (by decide)) hdg fun H1 locs1 h => ?_
  rw [nI_clamp (by omega)] at h
  exact kk _ H1 locs1 ⟨(va_up_ne _ _ (by omega)).trans hq.1, (va_up_ne _ _ (by omega)).trans hq.2.1, vu_at (by rw [upd_nI]; rfl)⟩ (fun i hi => va_up_ne _ _ (by omega)) h
theorem q_pf {b tb v index : Nat} {Q_ : Qn} (cx : CallFix p m c cc nL s args x_gw own) (hk : x_K G s) (hW : x_D A G H0 lo co H locs) (hq : isQn G lo co b tb Q_) (hF : x_P own index 5 4 false .int) (hdg : decode cc pc = .ok (.putfield index, 3)) (kk : ∀ (co1 : x_C) (H1 : Heap) (locs1 : List Loc), isQn G lo co1 b tb (va_up Q_.1 2 v, Q_.2) → ofr co co1 b 3 → x_D A G H0 lo co1 H1 locs1 → W p l e R s m args below meth c H1 locs1 cells slots Q (F0 m (pc + 3) ls (rest))) : W p l e R s m args below meth c H locs cells slots Q (F0 m (pc) ls (.int (nI v) :: .ref (lo b) :: rest)) := by
  refine x_put (t := b) cx hk hW hq.1 hF (fun q => by cases q) (by simp) rfl rfl hdg fun H1 locs1 h => ?_
  exact kk _ H1 locs1 ⟨va_up_self _ _ _, (va_up_ne _ _ (by omega)).trans hq.2.1, (va_up_ne _ _ (by omega)).trans hq.2.2⟩ (fun i hi => va_up_ne _ _ (by omega)) h
end XW11
section XW12
variable {p : Program} {l : Launch} {e : Env} {R : Room} {s : State} {m : MethodId} {args : Array Value} {below : List Frame} {meth : Method} {c : Code} {H : Heap} {locs : List Loc} {cells slots : Nat} {Q : State → Prop}
variable {cc : ByteArray} {pc : Nat} {ls : Array Slot} {rest : List Value} {G : x_G} {lo : x_L} {co : x_C} {nL : Nat} {own : String} {A : Nat → Prop} {H0 : Heap}
/-- what a call of a constructor y at index needs -/
def x_I0 (own : String) (index : Nat) (y : MethodName) (cb : ByteArray) (n : Nat) (k : Nat) : Prop := Cond.methodLink own index y ∈ x_gw ∧ Cond.instanceMethod y ∈ x_gw ∧ Cond.initialized y.cls ∈ x_gw ∧ Cond.code y cb n none ∈ x_gw ∧ y.name = "<init>" ∧ (y.cls ≠ "java/lang/invoke/MethodHandle" ∧ y.cls ≠ "java/lang/invoke/VarHandle" ∧ (parseMethodDescriptor y.desc).map (fun d => d.parameters.length) = some k)
theorem y_wrI {y : MethodName} {cb : ByteArray} {n d index k t mc ms : Nat} {av st : List Value} {post : Option Value → x_L → x_C → Prop} (cx : CallFix p m c cc nL s args x_gw own) (hk : x_K G s) (hW : x_D A G H0 lo co H locs) (hA : ∀ q, H0.size ≤ q → A q) (hS : x_I0 own index y cb n k) (hc : x_Wr l G lo co y cb n none d mc ms (.ref (lo t) :: av) post)
    (hl : ls.size = nL) (hn : av.length = k) (hst : st = av.reverse ++ .ref (lo t) :: rest) (hwd : (rest.map fun v => v.category).sum ≤ 8) (hR : d + 1 ≤ R.frames ∧ 8 + (n + 11) + 40 * d ≤ R.locals) (hf : cells + mc ≤ R.cells ∧ slots + ms ≤ R.slots) (hdg : decode cc pc = .ok (.invokespecial index, 3))
    (kk : ∀ (v : Option Value) (lo1 : x_L) (co1 : x_C) (H1 : Heap) (locs1 : List Loc), post v lo1 co1 → x_D A G H0 lo1 co1 H1 locs1 → W p l e R s m args below meth c H1 locs1 (cells + mc) (slots + ms) Q (F0 m (pc + 3) ls (v.toList ++ rest))) : W p l e R s m args below meth c H locs cells slots Q (F0 m pc ls st) := by
  obtain ⟨h1, h2, h3, h4, h5, h6⟩ := hS
  exact y_cr (va_runI (As := av) (rest := rest) cx (hc hW.2.1.1 H.size) (cwI k cx.2.2.2.2 (x_good (y := y) (cc := cb) (n := n) (r := none) h4) rfl rfl rfl (cx.2.2.2.2 _ h3) (cx.2.2.2.2 _ h1) (cx.2.2.2.2 _ h2) h5 h6 hR) ⟨y_blind, fun U hU hWm => ⟨rfl, by rw [hU], by rw [hU]; exact hW.1, hk.warm hWm⟩⟩ rfl hn hl hst (by simpa [F0, JFrame.monitorRoom] using hwd) hdg hf) hW hA kk
/-- Object's constructor -/
theorem x_oi {a : Nat} {index : Nat} (cx : CallFix p m c cc nL s args x_gw own) (hl : ls.size = nL) (h1 : Cond.methodLink own index Lib.objectInit ∈ x_gw) (h2 : Cond.instanceMethod Lib.objectInit ∈ x_gw) (h3 : Cond.code Lib.objectInit ⟨#[0xb1]⟩ 1 none ∈ x_gw) (hR : 1 ≤ R.frames ∧ (rest.map fun v => v.category).sum + 12 ≤ R.locals) (hdg : decode cc pc = .ok (.invokespecial index, 3))
    (kk : W p l e R s m args below meth c H locs cells slots Q (F0 m (pc + 3) ls rest)) : W p l e R s m args below meth c H locs cells slots Q (F0 m pc ls (.ref a :: rest)) :=
  W.objInit cx.1 cx.2.1 cx.2.2.2.1 (cx.2.2.2.2 _ h1) (cx.2.2.2.2 _ h2) (cx.2.2.2.2 _ h3) rfl (by rw [cx.2.2.1]; exact hl) rfl hdg hR.1 (by simpa [F0, JFrame.monitorRoom] using hR.2) kk
/-- a new place for a fresh tag -/
theorem x_D.fresh {H1 : Heap} {u : Nat} {e : va_E} (h : x_D A G H0 lo co H locs) (hu : co u = none) (hA : ∀ q, H0.size ≤ q → A q) (he : va_at G.1 vwCl (H.size, e) H1) (z : H.size ≤ H1.size) (oq : ∀ q : Nat, q < H.size → H1[q]? = H[q]?) : ∃ lo1 : x_L, lo1 u = H.size ∧ (∀ t, t ≠ u → lo1 t = lo t) ∧ x_D A G H0 lo1 (va_up co u (some e)) H1 locs := ⟨_, va_up_self _ _ _, fun t ht => va_up_ne _ _ ht, h.push hu hA he z oq⟩
/-- a row of ints is made, at the fresh tag u -/
theorem x_newI {n : Nat} (u : Nat) (cx : CallFix p m c cc nL s args x_gw own) (hk : x_K G s) (hW : x_D A G H0 lo co H locs) (hA : ∀ q, H0.size ≤ q → A q) (hu : co u = none) (hc : Cond.arrayClass .int ∈ x_gw) (hn : n < 2 ^ 20) (hcells : cells + 1 ≤ R.cells) (hslots : slots + n ≤ R.slots) (hdg : decode cc pc = .ok (.newarray .int, 2))
    (kk : ∀ (lo1 : x_L) (H1 : Heap), (∀ t, t ≠ u → lo1 t = lo t) → x_D A G H0 lo1 (va_up co u (some (.inl (G.2 0, n, .inl (fun _ => nI 0))))) H1 locs → W p l e R s m args below meth c H1 locs (cells + 1) (slots + n) Q (F0 m (pc + 2) ls (.ref (lo1 u) :: rest))) : W p l e R s m args below meth c H locs cells slots Q (F0 m pc ls (.int (nI n) :: rest)) := by
  refine va_newaK cx.1 cx.2.1 (atype := .int) (cx.2.2.2.2 _ hc) rfl hdg rfl (nI_pos (by omega)) (nI_clamp (by omega)) (by show n * 4 ≤ _; omega) hcells hslots rfl fun H1 cA e1 z1 o1 hAr hNm => ?_
  have hcA : cA = G.2 0 := Option.some.inj (hNm.symm.trans (hk.1.2 0 (G.2 0, .int) rfl).2)
  subst hcA
  obtain ⟨lo1, h1, h2, h3⟩ := hW.fresh (u := u) (e := .inl (G.2 0, n, .inl (fun _ => nI 0))) hu hA (by show H1[H.size]? = some (vp_cell _ _); rw [e1, vp_cell_i]; rfl) (by omega) o1
  have := kk lo1 H1 h2 h3
  rw [h1] at this
  exact this
theorem x_newZ {n : Nat} (u : Nat) (cx : CallFix p m c cc nL s args x_gw own) (hk : x_K G s) (hW : x_D A G H0 lo co H locs) (hA : ∀ q, H0.size ≤ q → A q) (hu : co u = none) (hc : Cond.arrayClass .boolean ∈ x_gw) (hn : n < 2 ^ 20) (hcells : cells + 1 ≤ R.cells) (hslots : slots + n ≤ R.slots) (hdg : decode cc pc = .ok (.newarray .boolean, 2))
    (kk : ∀ (lo1 : x_L) (H1 : Heap), (∀ t, t ≠ u → lo1 t = lo t) → x_D A G H0 lo1 (va_up co u (some (.inl (G.2 1, n, .inl (fun _ => nI 0))))) H1 locs → W p l e R s m args below meth c H1 locs (cells + 1) (slots + n) Q (F0 m (pc + 2) ls (.ref (lo1 u) :: rest))) : W p l e R s m args below meth c H locs cells slots Q (F0 m pc ls (.int (nI n) :: rest)) := by
  refine va_newaK cx.1 cx.2.1 (atype := .boolean) (cx.2.2.2.2 _ hc) rfl hdg rfl (nI_pos (by omega)) (nI_clamp (by omega)) (by show n * 1 ≤ _; omega) hcells hslots rfl fun H1 cA e1 z1 o1 hAr hNm => ?_
  have hcA : cA = G.2 1 := Option.some.inj (hNm.symm.trans (hk.1.2 1 (G.2 1, .boolean) rfl).2)
  subst hcA
  obtain ⟨lo1, h1, h2, h3⟩ := hW.fresh (u := u) (e := .inl (G.2 1, n, .inl (fun _ => nI 0))) hu hA (by show H1[H.size]? = some (vp_cell _ _); rw [e1, vp_cell_i]; rfl) (by omega) o1
  have := kk lo1 H1 h2 h3
  rw [h1] at this
  exact this
/-- what 'new' at index needs -/
def x_N (own : String) (index ci : Nat) (fs : List Value) (N : Nat) : Prop := ∃ (C : String) (T : u_T) (ty0 : Nat → FieldType), vwCl[ci]? = some (C, T, N) ∧ (∀ w ∈ u_ws C T N, w ∈ x_gw) ∧ Cond.classLink own index C ∈ x_gw ∧ Cond.instantiable C N ∈ x_gw ∧ Cond.initialized C ∈ x_gw ∧ (∀ j, j < N → parseFieldDescriptor (T j).2.2.1 = some (ty0 j)) ∧ ∀ j, j < N → defaultValue (ty0 j) = vp_V fs j
theorem x_new {ci index N : Nat} {fs : List Value} (u : Nat) (cx : CallFix p m c cc nL s args x_gw own) (hk : x_K G s) (hW : x_D A G H0 lo co H locs) (hA : ∀ q, H0.size ≤ q → A q) (hu : co u = none) (hN : x_N own index ci fs N) (hcells : cells + 1 ≤ R.cells) (hslots : slots + N ≤ R.slots) (hdg : decode cc pc = .ok (.new index, 3))
    (kk : ∀ (lo1 : x_L) (H1 : Heap), (∀ t, t ≠ u → lo1 t = lo t) → x_D A G H0 lo1 (va_up co u (some (.inr (ci, fs)))) H1 locs → W p l e R s m args below meth c H1 locs (cells + 1) (slots + N) Q (F0 m (pc + 3) ls (.ref (lo1 u) :: rest))) : W p l e R s m args below meth c H locs cells slots Q (F0 m pc ls rest) := by
  obtain ⟨C, T, ty0, hc, hin, hcl, hinst, hini, hty, hfs⟩ := hN
  have hts := cx.2.2.2.2
  have hKn := hk.1.1 ci _ hc
  refine W.newcK cx.1 cx.2.1 cx.2.2.2.1 (hts _ hcl) (hts _ hinst) (hts _ hini) rfl hdg hcells hslots hKn.2.1 rfl fun H1 kC hkC e1 z1 o1 => ?_
  obtain ⟨lo1, h1, h2, h3⟩ := hW.fresh (u := u) (e := .inr (ci, fs)) hu hA ⟨_, hc, (u_born ty0 hts hin hKn hkC e1 hty).to hfs⟩ (by omega) o1
  have := kk lo1 H1 h2 h3
  rw [h1] at this
  exact this
end XW12
