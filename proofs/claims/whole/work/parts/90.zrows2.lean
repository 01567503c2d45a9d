theorem x_D.putL {A : Nat → Prop} {G : x_G} {H0 H H1 : Heap} {lo : x_L} {co : x_C} {locs locs1 : List Loc} {t : Nat} {e : va_E} (h : x_D A G H0 lo co H locs) (ht : co t ≠ none) (he : va_at G.1 vwCl (lo t, e) H1) (z : H1.size = H.size) (oq : ∀ q : Nat, q ≠ lo t → H1[q]? = H[q]?) (hl : ∀ q ∈ locs1, q ∈ locs ∨ q.base = lo t) : x_D A G H0 lo (va_up co t (some e)) H1 locs1 := by
  have h1 := h.put (k := 0) ht he z oq
  refine ⟨h1.1, h1.2.1, h1.2.2.1, h1.2.2.2.1, fun q hq => ?_⟩
  rcases hl q hq with r | r
  · exact h.2.2.2.2 q r
  · rw [r]; exact h.2.1.2 t ht
section XW22
variable {p : Program} {l : Launch} {e : Env} {R : Room} {s : State} {m : MethodId} {args : Array Value} {below : List Frame} {meth : Method} {c : Code} {H : Heap} {locs : List Loc} {cells slots : Nat} {Q : State → Prop}
variable {cc : ByteArray} {pc : Nat} {ls : Array Slot} {rest : List Value} {G : x_G} {lo : x_L} {co : x_C} {nL : Nat} {own : String} {A : Nat → Prop} {H0 : Heap} {dd mi : Nat}
theorem x_any {E : String} {t ci : Nat} {fs : List Value} {C : String} {T : u_T} {N : Nat} (hk : x_K G s) (hw : x_R G lo co H) (ha : co t = some (.inr (ci, fs))) (hc : vwCl[ci]? = some (C, T, N)) (hca : (C, E) ∈ x_nC) : va_Any E s H (lo t) :=
  va_rAny hk.1 (hw.P ha) (q0 := 0) rfl hc (fun comp c0 h1 h2 => by
    obtain ⟨a1, t1, f1, f2, f3⟩ := Cond.castable_spec (va_Nw.use (A := #[]) rfl (hk.2.2.1 _ hca))
    cases h2.symm.trans f1; cases h1.symm.trans f2; exact f3)
theorem z_alen (hZ : z_Z dd mi A s s.heap) (cx : CallFix p m c cc nL s args x_gw own) (hW : x_D A G s.heap lo co H locs) (hdg : decode cc pc = .ok (.arraylength, 1))
    (kk : W p l e R s m args below meth c H locs cells slots Q (F0 m (pc + 1) ls (.int (nI 0) :: rest))) : W p l e R s m args below meth c H locs cells slots Q (F0 m pc ls (.ref dd :: rest)) :=
  va_tlen cx.1 cx.2.1 hZ.2.1 hW.2.2 rfl hdg kk
/-- a row of references stores -/
theorem x_astM (k : Nat) {E : String} {t n v : Nat} {f : Nat → Option Nat} {i : Int32} (cx : CallFix p m c cc nL s args x_gw own) (hk : x_K G s) (hW : x_D A G H0 lo co H locs) (ha : co t = some (.inl (G.2 k, n, .inr (.inr (.inr (.inr f)))))) (ht : (x_tys G)[k]? = some (G.2 k, .object E)) (hr : va_Any E s H v) (hin : vp_in i n) (hdg : decode cc pc = .ok (.aastore, 1))
    (kk : ∀ (H1 : Heap) (locs1 : List Loc), x_D A G H0 lo (va_up co t (some (.inl (G.2 k, n, .inr (.inr (.inr (.inr (va_up f i.toNatClampNeg (some v))))))))) H1 locs1 → W p l e R s m args below meth c H1 locs1 cells slots Q (F0 m (pc + 1) ls rest)) : W p l e R s m args below meth c H locs cells slots Q (F0 m pc ls (.ref v :: .int i :: .ref (lo t) :: rest)) := by
  have hlt : i.toNatClampNeg < n := Nat.not_le.mp fun q => hin (Or.inr q)
  have h0 : ¬ i < 0 := fun q => hin (Or.inl q)
  obtain ⟨cellV, g1, g3, ⟨kC, hkC⟩, hasg⟩ := hr
  obtain ⟨kA, comp, k1, k2, k3, -⟩ := (hk.1.2 k _ ht).2
  obtain ⟨kE, hkE, -⟩ := Vm.findClass_spec k3
  refine W.aast cx.1 cx.2.1 (hW.1 t _ ha) (fun q h => by cases h) (fun h => by cases h) k1 k2 rfl hkE ⟨h0, by show _ < (arrV _ _ _).slots.size; rw [arrV_size]; exact hlt⟩ g1 (fun q h => by rw [h] at g3; cases g3) hkC (hasg _ k3) rfl rfl hdg fun H1 e z oq => ?_
  refine kk H1 _ (hW.put (by rw [ha]; exact fun q => by cases q) ?_ z oq)
  show H1[lo t]? = some (vp_cell _ _)
  rw [e]
  rw [vp_cell_q, vp_cell_q, arrV_store]
  congr 2
  funext q
  by_cases hq : q = i.toNatClampNeg
  · subst hq
    simp [updV, va_up, va_rf]
  · simp [updV, va_up, hq]
/-- a new row of references -/
theorem x_newA (k : Nat) {C : String} {n index : Nat} (u : Nat) (cx : CallFix p m c cc nL s args x_gw own) (hk : x_K G s) (hW : x_D A G H0 lo co H locs) (hA : ∀ q, H0.size ≤ q → A q) (hu : co u = none) (ht : (x_tys G)[k]? = some (G.2 k, .object C)) (hc : Cond.classLink own index C ∈ x_gw) (ho : va_AO C s) (hn : n < 2 ^ 20) (hcells : cells + 1 ≤ R.cells) (hslots : slots + n ≤ R.slots) (hdg : decode cc pc = .ok (.anewarray index, 3))
    (kk : ∀ (lo1 : x_L) (H1 : Heap), (∀ t, t ≠ u → lo1 t = lo t) → x_D A G H0 lo1 (va_up co u (some (.inl (G.2 k, n, .inr (.inr (.inr (.inr (fun _ => none)))))))) H1 locs → W p l e R s m args below meth c H1 locs (cells + 1) (slots + n) Q (F0 m (pc + 3) ls (.ref (lo1 u) :: rest))) : W p l e R s m args below meth c H locs cells slots Q (F0 m pc ls (.int (nI n) :: rest)) := by
  have hcl : (nI n).toNatClampNeg = n := nI_clamp (by omega)
  refine W.anew cx.1 cx.2.1 cx.2.2.2.1 (cx.2.2.2.2 _ hc) (va_AO.use ho) rfl hdg rfl (nI_pos (by omega)) (by rw [hcl]; omega) hcells (by rw [hcl]; exact hslots) fun cA kA comp f1 f2 f3 f4 => ?_
  obtain ⟨-, -, -, -, -, r4⟩ := (hk.1.2 k _ ht).2
  have hcA : cA = G.2 k := Option.some.inj (f1.symm.trans r4)
  subst hcA
  rw [hcl]
  generalize hH1 : H.push ({ cls := G.2 k, slots := Array.replicate n .null, vm := .none } : Cell) = H1
  have z1 : H1.size = H.size + 1 := by rw [← hH1, Array.size_push]
  have e1 : H1[H.size]? = some (arrV (G.2 k) n (fun _ => .null)) := by rw [← hH1, Array.getElem?_push_size, ← arrV_new]
  have o1 : ∀ q : Nat, q < H.size → H1[q]? = H[q]? := fun q hq => by rw [← hH1, Array.getElem?_push, if_neg (Nat.ne_of_lt hq)]
  have h3 := hW.push (u := u) (e := .inl (G.2 k, n, .inr (.inr (.inr (.inr (fun _ => none)))))) hu hA (by show H1[H.size]? = some (vp_cell _ _); rw [e1, vp_cell_q]; rfl) (by omega) o1
  have := kk _ H1 (fun t q => va_up_ne _ _ q) h3
  rw [va_up_self] at this
  exact this
/-- the class object of a row of objects -/
theorem z_getC {t n index : Nat} {f : Nat → Option Nat} (hZ : z_Z dd mi A s s.heap) (cx : CallFix p m c cc nL s args x_gw own) (hk : x_K G s) (hw : x_R G lo co H) (hl : ls.size = nL) (ha : co t = some (.inl (G.2 3, n, .inr (.inr (.inr (.inr f)))))) (h1 : Cond.methodLink own index ⟨"java/lang/Object", "getClass", "()Ljava/lang/Class;"⟩ ∈ x_gw) (hf : 1 ≤ R.frames) (hlo : (rest.map fun v => v.category).sum + 14 ≤ R.locals) (hdg : decode cc pc = .ok (.invokevirtual index, 3))
    (kk : W p l e R s m args below meth c H locs cells slots Q (F0 m (pc + 3) ls (.ref mi :: rest))) : W p l e R s m args below meth c H locs cells slots Q (F0 m pc ls (.ref (lo t) :: rest)) :=
  va_getC (C := "[Ljava/lang/Object;") cx.1 cx.2.1 (cx.2.2.1.trans hl.symm) cx.2.2.2.1 (cx.2.2.2.2 _ h1) (va_Nw.use rfl (hk.2.2.2 _ (by simp [x_nD]))) (cx.2.2.2.2 _ w_1205) (cx.2.2.2.2 _ w_346) (va_Nw.use rfl hZ.2.2.2.2.2.2) hZ.2.2.1
    ⟨_, hw t _ ha, rfl, va_nmO (hk.1.2 3 (G.2 3, .object "java/lang/Object") rfl).2 rfl⟩ hf hlo hdg kk
theorem z_ldcM {index : Nat} (hZ : z_Z dd mi A s s.heap) (cx : CallFix p m c cc nL s args x_gw own) (h1 : Cond.classLink own index "[Ljava/lang/Object;" ∈ x_gw) (hdg : decode cc pc = .ok (.ldc index, 2))
    (kk : W p l e R s m args below meth c H locs cells slots Q (F0 m (pc + 2) ls (.ref mi :: rest))) : W p l e R s m args below meth c H locs cells slots Q (F0 m pc ls rest) :=
  va_ldcM cx.1 cx.2.1 cx.2.2.2.1 (cx.2.2.2.2 _ h1) hZ.2.2.1 hdg kk
/-- arraycopy between rows of objects, from the first to the first -/
theorem x_copyO {index t0 t1 n0 n1 n : Nat} {f g : Nat → Option Nat} (hZ : z_Z dd mi A s s.heap) (cx : CallFix p m c cc nL s args x_gw own) (hk : x_K G s) (hW : x_D A G H0 lo co H locs) (hl : ls.size = nL) (hlink : Cond.methodLink own index z_ac ∈ x_gw) (ha0 : co t0 = some (.inl (G.2 3, n0, .inr (.inr (.inr (.inr f)))))) (ha1 : co t1 = some (.inl (G.2 3, n1, .inr (.inr (.inr (.inr g))))))
    (hn : n < 2 ^ 20) (h4 : n ≤ n0) (h5 : n ≤ n1) (hel : ∀ i : Nat, i < n → ∀ y : Nat, f i = some y → va_Any "java/lang/Object" s H y)
    (hframes : 1 ≤ R.frames) (hlocals : (rest.map fun v => v.category).sum + (nativeFrameWords "java/lang/System" "arraycopy" 5 + 11) ≤ R.locals) (hdg : decode cc pc = .ok (.invokestatic index, 3))
    (kk : ∀ (H1 : Heap) (locs1 : List Loc), x_D A G H0 lo (va_up co t1 (some (.inl (G.2 3, n1, .inr (.inr (.inr (.inr (va_cpy f g 0 0 n)))))))) H1 locs1 → W p l e R s m args below meth c H1 locs1 cells slots Q (F0 m (pc + 3) ls rest)) : W p l e R s m args below meth c H locs cells slots Q (F0 m pc ls (.int (nI n) :: .int (nI 0) :: .ref (lo t1) :: .int (nI 0) :: .ref (lo t0) :: rest)) := by
  have hcl : (nI n).toNatClampNeg = n := nI_clamp (by omega)
  have hc00 : (nI 0).toNatClampNeg = 0 := nI_clamp (by omega)
  have nn : ∀ z : Int32, ¬ z < 0 → z.toInt = (z.toNatClampNeg : Int) := by
    intro z hz
    have hz0 : (0 : Int) ≤ z.toInt := by
      have := Int32.not_lt.mp hz
      simpa using Int32.le_iff_toInt_le.mp this
    show z.toInt = ((z.toInt.toNat : Nat) : Int)
    omega
  have h1 : ¬ nI 0 < 0 := nI_pos (by omega)
  have h3 : ¬ nI n < 0 := nI_pos (by omega)
  have ty : (x_tys G)[3]? = some (G.2 3, .object "java/lang/Object") := rfl
  intro T hT X
  have hc0 : H[lo t0]? = some (vp_cell (G.2 3) (n0, .inr (.inr (.inr (.inr f))))) := hW.1 t0 _ ha0
  have hc1 : H[lo t1]? = some (vp_cell (G.2 3) (n1, .inr (.inr (.inr (.inr g))))) := hW.1 t1 _ ha1
  obtain ⟨-, k0, hk0, cm0, hkk0⟩ := (hk.1.2 3 _ ty).1 n0 (fun j => va_rf (f j))
  obtain ⟨-, k1, hk1, cm1, hkk1⟩ := (hk.1.2 3 _ ty).1 n1 (fun j => va_rf (g j))
  obtain ⟨vm', X', step⟩ := X.arraycopy cx.1 cx.2.2.2.1 (cx.2.2.2.2 _ hlink) (va_Nw.use rfl hZ.2.2.2.2.2.1) (cx.2.2.2.2 _ w_368) (cx.2.2.2.2 _ w_12) (src := lo t0) (dst := lo t1) (cs := vp_cell (G.2 3) (n0, .inr (.inr (.inr (.inr f))))) (cd := vp_cell (G.2 3) (n1, .inr (.inr (.inr (.inr g))))) (srcPos := nI 0) (destPos := nI 0) (n := nI n) (by rw [hT]; exact hc0) (by rw [hT]; exact hc1)
    (fun _ h => by cases h) (fun _ h => by cases h) (fun h => by cases h) (fun h => by cases h) hk0 hk1 hkk0 hkk1 rfl h1 h1 h3
    (by rw [nn _ h1, nn _ h3, hcl, hc00]; show ¬ _ > ((arrV (G.2 3) n0 (fun j => va_rf (f j))).slots.size : Int); rw [arrV_size]; omega)
    (by rw [nn _ h1, nn _ h3, hcl, hc00]; show ¬ _ > ((arrV (G.2 3) n1 (fun j => va_rf (g j))).slots.size : Int); rw [arrV_size]; omega)
    (fun vm₁ hal i hi => by
      have hi' : i < n := by rw [hcl] at hi; exact hi
      have e : (vp_cell (G.2 3) (n0, .inr (.inr (.inr (.inr f))))).slots.getD ((nI 0).toNatClampNeg + i) .null = va_rf (f i) := by
        show (arrV (G.2 3) n0 (fun j => va_rf (f j))).slots.getD _ _ = _
        rw [hc00, Nat.zero_add, Array.getD_eq_getD_getElem?, arrV_read _ _ (by omega)]
        rfl
      rw [e]
      cases hy : f i with
      | none => exact ⟨rfl, trivial⟩
      | some y =>
        obtain ⟨cellV, g1, g2, ⟨kC, hkC⟩, hasg⟩ := hel i hi' y hy
        obtain ⟨kA, comp, r1, r2, r3, -⟩ := (hk.1.2 3 _ ty).2
        cases hk1.symm.trans r1
        cases hkk1.symm.trans r2
        obtain ⟨kE, hkE, -⟩ := Vm.findClass_spec r3
        obtain ⟨kC', hkC', -⟩ := hal.2.2 _ _ hkC
        obtain ⟨kE', hkE', -⟩ := hal.2.2 _ _ hkE
        refine ⟨rfl, cellV, (show T.heap[y]? = some cellV by rw [hT]; exact g1), (fun q h => by rw [h] at g2; cases g2), ⟨kC', hkC'⟩, ?_, ?_⟩
        · exact ⟨kE', hkE'⟩
        · show vm₁.assignable _ _ = true
          rw [hal.assignable]
          exact hasg _ r3)
    (g := F0 m pc ls (.int (nI n) :: .int (nI 0) :: .ref (lo t1) :: .int (nI 0) :: .ref (lo t0) :: rest)) rfl (by show ls.size = _; rw [cx.2.2.1]; exact hl) (rest := rest) rfl (by rw [cx.2.1]; exact hdg) hframes (by show 2 * 0 + _ + _ ≤ _; omega)
  have e1 : copied (vp_cell (G.2 3) (n0, .inr (.inr (.inr (.inr f))))) (vp_cell (G.2 3) (n1, .inr (.inr (.inr (.inr g))))) (nI 0) (nI 0) (nI n) = vp_cell (G.2 3) (n1, .inr (.inr (.inr (.inr (va_cpy f g 0 0 n))))) := by
    rw [vp_cell_q, vp_cell_q, vp_cell_q]
    have := va_copied (fun z => va_rf z) (G.2 3) (G.2 3) (n0 := n0) (n1 := n1) (sp := (nI 0).toNatClampNeg) (dp := (nI 0).toNatClampNeg) (n := (nI n).toNatClampNeg) f g (by rw [hc00, hcl]; omega)
    refine Eq.trans this ?_
    rw [hc00, hcl]
  rw [e1] at X' step
  have hlt : lo t1 < H.size := (Array.getElem?_eq_some_iff.mp hc1).1
  have hheap : ((T.setVm vm').setCell (lo t1) (vp_cell (G.2 3) (n1, .inr (.inr (.inr (.inr (va_cpy f g 0 0 n))))))).heap = H.setIfInBounds (lo t1) (vp_cell (G.2 3) (n1, .inr (.inr (.inr (.inr (va_cpy f g 0 0 n)))))) := by rw [← hT]; rfl
  have oq : ∀ q : Nat, q ≠ lo t1 → (H.setIfInBounds (lo t1) (vp_cell (G.2 3) (n1, .inr (.inr (.inr (.inr (va_cpy f g 0 0 n)))))))[q]? = H[q]? := fun q hq => by simp [Array.getElem?_setIfInBounds, Ne.symm hq]
  obtain ⟨t, a1, b1⟩ := kk _ _ (hW.putL (by rw [ha1]; exact fun q => by cases q) (show (H.setIfInBounds (lo t1) _)[lo t1]? = some _ by simp [Array.getElem?_setIfInBounds, hlt]) (by simp) oq (fun q hq => by
      rcases List.mem_append.mp hq with h | h
      · exact Or.inl h
      · obtain ⟨z, -, hz⟩ := List.mem_map.mp h
        rw [← hz]
        exact Or.inr rfl)) _ hheap X'
  exact ⟨t, step t a1, b1⟩
end XW22
