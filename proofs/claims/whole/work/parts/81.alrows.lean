/-! makings: rows where the heap's size is told, and the places are chosen ahead -/
theorem x_D.relo {A : Nat → Prop} {G : x_G} {H0 H : Heap} {lo lo1 : x_L} {co : x_C} {locs : List Loc} (h : x_D A G H0 lo co H locs) (hl : ∀ i, co i ≠ none → lo1 i = lo i) : x_D A G H0 lo1 co H locs := by
  refine ⟨fun t e he => ?_, ⟨fun t u ht hu hq => ?_, fun t ht => ?_⟩, h.2.2⟩
  · rw [hl t (by rw [he]; exact fun z => by cases z)]; exact h.1 t e he
  · rw [hl t ht, hl u hu] at hq; exact h.2.1.1 t u ht hu hq
  · rw [hl t ht]; exact h.2.1.2 t ht
theorem x_D.pushS {A : Nat → Prop} {G : x_G} {H0 H H1 : Heap} {lo : x_L} {co : x_C} {locs : List Loc} {u : Nat} {e : va_E} (h : x_D A G H0 lo co H locs) (hu : co u = none) (hl : lo u = H.size) (hA : ∀ q, H0.size ≤ q → A q) (he : va_at G.1 vwCl (H.size, e) H1) (z : H.size ≤ H1.size) (oq : ∀ q : Nat, q < H.size → H1[q]? = H[q]?) : x_D A G H0 lo (va_up co u (some e)) H1 locs := by
  have := h.push hu hA he z oq
  rw [← hl, va_up_id] at this
  exact this
/-- a row's contents beyond its end don't count -/
theorem arrV_congr {cI : ClassId} {N : Nat} {f g : Nat → Value} (h : ∀ j, j < N → f j = g j) : arrV cI N f = arrV cI N g := by
  unfold arrV
  have : (Array.ofFn (n := N) fun j => f j.val) = Array.ofFn (n := N) fun j => g j.val := by
    congr 1
    funext j
    exact h j.val j.isLt
  rw [this]
theorem x_D.rerow {A : Nat → Prop} {G : x_G} {H0 H : Heap} {lo : x_L} {co : x_C} {locs : List Loc} {t n : Nat} {cA : ClassId} {f g : Nat → Int32} (h : x_D A G H0 lo co H locs) (ht : co t = some (.inl (cA, n, .inl f))) (hf : ∀ j, j < n → f j = g j) : x_D A G H0 lo (va_up co t (some (.inl (cA, n, .inl g)))) H locs := by
  have hne : co t ≠ none := by rw [ht]; exact fun z => by cases z
  refine ⟨fun u e he => ?_, ⟨fun u v hu hv => h.2.1.1 u v (x_up_some hne hu) (x_up_some hne hv), fun u hu => h.2.1.2 u (x_up_some hne hu)⟩, h.2.2⟩
  by_cases q : u = t
  · subst q
    rw [va_up_self] at he
    cases he
    have := h.1 u _ ht
    show H[lo u]? = some (vp_cell _ _)
    rw [vp_cell_i, ← arrV_congr (f := fun j => .int (f j)) (fun j hj => by rw [hf j hj])]
    exact this
  · rw [va_up_ne _ _ q] at he
    exact h.1 u e he
section XW16
variable {p : Program} {l : Launch} {e : Env} {R : Room} {s : State} {m : MethodId} {args : Array Value} {below : List Frame} {meth : Method} {c : Code} {H : Heap} {locs : List Loc} {cells slots : Nat} {Q : State → Prop}
variable {cc : ByteArray} {pc : Nat} {ls : Array Slot} {rest : List Value} {G : x_G} {lo : x_L} {co : x_C} {nL : Nat} {own : String} {A : Nat → Prop} {H0 : Heap}
theorem x_newIS {n : Nat} (u : Nat) (cx : CallFix p m c cc nL s args x_gw own) (hk : x_K G s) (hW : x_D A G H0 lo co H locs) (hA : ∀ q, H0.size ≤ q → A q) (hu : co u = none) (hl : lo u = H.size) (hc : Cond.arrayClass .int ∈ x_gw) (hn : n < 2 ^ 20) (hcells : cells + 1 ≤ R.cells) (hslots : slots + n ≤ R.slots) (hdg : decode cc pc = .ok (.newarray .int, 2))
    (kk : ∀ H1 : Heap, H1.size = H.size + 1 → x_D A G H0 lo (va_up co u (some (.inl (G.2 0, n, .inl (fun _ => nI 0))))) H1 locs → W p l e R s m args below meth c H1 locs (cells + 1) (slots + n) Q (F0 m (pc + 2) ls (.ref (lo u) :: rest))) : W p l e R s m args below meth c H locs cells slots Q (F0 m pc ls (.int (nI n) :: rest)) := by
  refine va_newaK cx.1 cx.2.1 (atype := .int) (cx.2.2.2.2 _ hc) rfl hdg rfl (nI_pos (by omega)) (nI_clamp (by omega)) (by show n * 4 ≤ _; omega) hcells hslots rfl fun H1 cA e1 z1 o1 hAr hNm => ?_
  have hcA : cA = G.2 0 := Option.some.inj (hNm.symm.trans (hk.1.2 0 (G.2 0, .int) rfl).2)
  subst hcA
  have := kk H1 z1 (hW.pushS hu hl hA (by show H1[H.size]? = some (vp_cell _ _); rw [e1, vp_cell_i]; rfl) (by omega) o1)
  rw [hl] at this
  exact this
theorem x_newZS {n : Nat} (u : Nat) (cx : CallFix p m c cc nL s args x_gw own) (hk : x_K G s) (hW : x_D A G H0 lo co H locs) (hA : ∀ q, H0.size ≤ q → A q) (hu : co u = none) (hl : lo u = H.size) (hc : Cond.arrayClass .boolean ∈ x_gw) (hn : n < 2 ^ 20) (hcells : cells + 1 ≤ R.cells) (hslots : slots + n ≤ R.slots) (hdg : decode cc pc = .ok (.newarray .boolean, 2))
    (kk : ∀ H1 : Heap, H1.size = H.size + 1 → x_D A G H0 lo (va_up co u (some (.inl (G.2 1, n, .inl (fun _ => nI 0))))) H1 locs → W p l e R s m args below meth c H1 locs (cells + 1) (slots + n) Q (F0 m (pc + 2) ls (.ref (lo u) :: rest))) : W p l e R s m args below meth c H locs cells slots Q (F0 m pc ls (.int (nI n) :: rest)) := by
  refine va_newaK cx.1 cx.2.1 (atype := .boolean) (cx.2.2.2.2 _ hc) rfl hdg rfl (nI_pos (by omega)) (nI_clamp (by omega)) (by show n * 1 ≤ _; omega) hcells hslots rfl fun H1 cA e1 z1 o1 hAr hNm => ?_
  have hcA : cA = G.2 1 := Option.some.inj (hNm.symm.trans (hk.1.2 1 (G.2 1, .boolean) rfl).2)
  subst hcA
  have := kk H1 z1 (hW.pushS hu hl hA (by show H1[H.size]? = some (vp_cell _ _); rw [e1, vp_cell_i]; rfl) (by omega) o1)
  rw [hl] at this
  exact this
/-- a store into a field, the heap's size told -/
theorem x_putS {t ci k index : Nat} {fs : List Value} {v : Value} {fin : Bool} {ty : FieldType} (cx : CallFix p m c cc nL s args x_gw own) (hk : x_K G s) (hW : x_D A G H0 lo co H locs) (ha : co t = some (.inr (ci, fs))) (hF : x_P own index ci k fin ty) (hi : fin = true → meth.name = "<init>") (hl : k < fs.length) (hn : narrow ty v = v) (hfit : fits ty v = true) (hdg : decode cc pc = .ok (.putfield index, 3))
    (kk : ∀ (H1 : Heap) (locs1 : List Loc), H1.size = H.size → x_D A G H0 lo (va_up co t (some (.inr (ci, fs.set k v)))) H1 locs1 → W p l e R s m args below meth c H1 locs1 cells slots Q (F0 m (pc + 3) ls rest)) : W p l e R s m args below meth c H locs cells slots Q (F0 m pc ls (v :: .ref (lo t) :: rest)) := by
  obtain ⟨C, T, N, ref, ty0, hc, hkN, hin, hlink, hsame, hty, hnm, hfin, hd, hdecl⟩ := hF
  have hts := cx.2.2.2.2
  have hown := cx.2.2.2.1
  have hap := va_apart (own := own) hts hin ty0 hty hnm hk.1 hc
  obtain ⟨r, h1, cell, q1, q2, q3, q4⟩ := hW.1 t _ ha
  have hr : r = (C, T, N) := Option.some.inj (h1.symm.trans hc)
  subst hr
  obtain ⟨hS, hfc, kC, hkC, hkind⟩ := hk.1.1 ci _ hc
  obtain ⟨cf, kf, fi, f, hif, hsl⟩ := hS k hkN
  have hsm : s.fieldFound? ref (T k).2.1 (T k).2.2.1 = some (cf, kf, fi, f) := hsame.elim (fun e => e ▸ hif) (fun h => u_same (hts _ h) _ hif)
  have hlay := hts _ (hin _ (u_in_lay hkN))
  unfold u_lay at hlay
  have hst := (u_facts hfc hkC (u_lays hts hin hkN) hif).1
  have fin' : ∀ H1, H1[lo t]? = some (cell.setSlot (G.1.2 ci k) v) → va_at G.1 vwCl (lo t, .inr (ci, fs.set k v)) H1 := fun H1 e1 => ⟨_, hc, t_OB.to (V := updV (vp_V fs) k v) ⟨_, e1, q2, q3, t_set q4 hap hkN v⟩ (fun j _ => vp_updV_set hl v j)⟩
  cases fin with
  | false =>
    rw [if_neg (by rw [hfin]; decide)] at hlay
    have h6 := u_store hfc hkC hkind hlay hif hd hn hfit
    refine W.putK cx.1 cx.2.1 (f := f) ⟨hown, hts _ hlink, ⟨_, _, _, hsm⟩, hst⟩ (by rw [q2]; exact h6) q1 q3 (by rw [hsl]; exact k2_hasslot (q4 k hkN)) rfl rfl hdg fun H' e1 e2 e3 => ?_
    rw [hsl] at e1 ⊢
    exact kk H' _ e2 (hW.put (by rw [ha]; exact fun q => by cases q) (fin' H' e1) e2 e3)
  | true =>
    rw [if_pos hfin] at hlay
    have hcf : m.cls = cf := by
      obtain ⟨_, _, c', _, _, _, -, -, hf', -, -, -, hown2, -⟩ := Cond.laysFinal_spec hlay
      have e1 : c' = cf := by have := hif.symm.trans hf'; simp at this; exact this.1.symm
      rw [hdecl rfl] at hown2
      rw [← e1]; exact Option.some.inj (hown.symm.trans hown2)
    have h6 := u_fits hfc hkC hkind (Or.inr hlay) hif hd hn hfit
    refine W.putFinK cx.1 cx.2.1 hown (hts _ hlink) hsm hst hcf (hi rfl) (by rw [q2]; exact h6) q1 q3 (by rw [hsl]; exact k2_hasslot (q4 k hkN)) rfl rfl hdg fun H' e1 e2 e3 => ?_
    rw [hsl] at e1 ⊢
    exact kk H' _ e2 (hW.put (by rw [ha]; exact fun q => by cases q) (fin' H' e1) e2 e3)
end XW16
/-- what a constructor leaves: its own tags b to b + n - 1 beside the old -/
def ctr (lo lo1 : x_L) (co co1 : x_C) (b n : Nat) : Prop := (∀ i, (i < b ∨ b + n ≤ i) → co1 i = co i ∧ lo1 i = lo i) ∧ lo1 b = lo b
