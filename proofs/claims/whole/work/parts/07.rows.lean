abbrev x_w (l : Launch) (d : Nat) (p : Program) (e : Env) (s : State) (m : MethodId) (av : Array Value) (below : List Frame) (meth : Method) (c : Code) (v : Option Value) (pc : Nat) (ls : Array Slot) (st : List Value) : Prop :=
  W p l e (x_rm d) s m av below meth c s.heap [] 0 0 (MQ below (x_Qr v) av s 0 0 (fun _ => False)) (F0 m pc ls st)
section XW2
variable {p : Program} {l : Launch} {e : Env} {R : Room} {s : State} {m : MethodId} {args : Array Value} {below : List Frame} {meth : Method} {c : Code} {H : Heap} {locs : List Loc} {cells slots : Nat} {Q : State → Prop}
variable {cc : ByteArray} {pc : Nat} {ls : Array Slot} {rest : List Value} {G : x_G} {lo : x_L} {co : x_C} {nL : Nat} {own : String}
theorem x_ialdN {t n k : Nat} {f : Nat → Int32} (cx : CallFix p m c cc nL s args x_gw own) (hk : x_K G s) (hw : x_R G lo co H) (ha : co t = some (.inl (G.2 0, n, .inl f))) (hlt : k < n) (hn : n < 2 ^ 31) (hdg : decode cc pc = .ok (.iaload, 1))
    (kk : W p l e R s m args below meth c H locs cells slots Q (F0 m (pc + 1) ls (.int (f k) :: rest))) : W p l e R s m args below meth c H locs cells slots Q (F0 m pc ls (.int (nI k) :: .ref (lo t) :: rest)) := by
  refine x_iald cx hk hw ha (vp_in_nI hlt hn) hdg ?_
  rw [nI_clamp (Nat.lt_trans hlt hn)]; exact kk
theorem x_ialdL {t n : Nat} {f : Nat → Int32} {i : Int32} (k : Nat) (cx : CallFix p m c cc nL s args x_gw own) (hk : x_K G s) (hw : x_R G lo co H) (ha : co t = some (.inl (G.2 0, n, .inl f))) (hlt : k < n) (hn : n < 2 ^ 31) (hi : i = nI k) (hdg : decode cc pc = .ok (.iaload, 1))
    (kk : W p l e R s m args below meth c H locs cells slots Q (F0 m (pc + 1) ls (.int (f k) :: rest))) : W p l e R s m args below meth c H locs cells slots Q (F0 m pc ls (.int i :: .ref (lo t) :: rest)) := by
  subst hi; exact x_ialdN cx hk hw ha hlt hn hdg kk
theorem x_zaldN {t n k : Nat} {f : Nat → Int32} (cx : CallFix p m c cc nL s args x_gw own) (hk : x_K G s) (hw : x_R G lo co H) (ha : co t = some (.inl (G.2 1, n, .inl f))) (hlt : k < n) (hn : n < 2 ^ 31) (hdg : decode cc pc = .ok (.baload, 1))
    (kk : W p l e R s m args below meth c H locs cells slots Q (F0 m (pc + 1) ls (.int (f k) :: rest))) : W p l e R s m args below meth c H locs cells slots Q (F0 m pc ls (.int (nI k) :: .ref (lo t) :: rest)) := by
  refine x_zald cx hk hw ha (vp_in_nI hlt hn) hdg ?_
  rw [nI_clamp (Nat.lt_trans hlt hn)]; exact kk
theorem x_aaldI {t n : Nat} {f : Nat → Option Nat} {i : Int32} (cx : CallFix p m c cc nL s args x_gw own) (hk : x_K G s) (hw : x_R G lo co H) (ha : co t = some (.inl (G.2 4, n, .inr (.inr (.inr (.inr f)))))) (hin : vp_in i n) (hdg : decode cc pc = .ok (.aaload, 1))
    (kk : W p l e R s m args below meth c H locs cells slots Q (F0 m (pc + 1) ls (va_rf (f i.toNatClampNeg) :: rest))) : W p l e R s m args below meth c H locs cells slots Q (F0 m pc ls (.int i :: .ref (lo t) :: rest)) := by
  have hlt : i.toNatClampNeg < n := Nat.not_le.mp fun q => hin (Or.inr q)
  exact W.aald (v := va_rf (f i.toNatClampNeg)) cx.1 cx.2.1 (hw t _ ha) ((hk.1.2 4 (G.2 4, .array .int) rfl).1 n (fun j => va_rf (f j))) rfl (fun q => by cases q) (by show ¬ (i < 0 ∨ (arrV _ _ _).slots.size ≤ _); rw [arrV_size]; exact hin) (by show (arrV _ _ _).slots[_]? = _; rw [arrV_read _ _ hlt]) rfl rfl hdg kk
theorem x_aaldTN {t n k : Nat} {f : Nat → Option Nat} {v : Value} (cx : CallFix p m c cc nL s args x_gw own) (hk : x_K G s) (hw : x_R G lo co H) (ha : co t = some (.inl (G.2 2, n, .inr (.inr (.inr (.inr f)))))) (hlt : k < n) (hn : n < 2 ^ 31) (hv : va_rf (f k) = v) (hdg : decode cc pc = .ok (.aaload, 1))
    (kk : W p l e R s m args below meth c H locs cells slots Q (F0 m (pc + 1) ls (v :: rest))) : W p l e R s m args below meth c H locs cells slots Q (F0 m pc ls (.int (nI k) :: .ref (lo t) :: rest)) := by
  refine x_aaldT cx hk hw ha (vp_in_nI hlt hn) hdg ?_
  rw [nI_clamp (Nat.lt_trans hlt hn), hv]; exact kk
theorem x_aaldON {t n k : Nat} {f : Nat → Option Nat} {v : Value} (cx : CallFix p m c cc nL s args x_gw own) (hk : x_K G s) (hw : x_R G lo co H) (ha : co t = some (.inl (G.2 3, n, .inr (.inr (.inr (.inr f)))))) (hlt : k < n) (hn : n < 2 ^ 31) (hv : va_rf (f k) = v) (hdg : decode cc pc = .ok (.aaload, 1))
    (kk : W p l e R s m args below meth c H locs cells slots Q (F0 m (pc + 1) ls (v :: rest))) : W p l e R s m args below meth c H locs cells slots Q (F0 m pc ls (.int (nI k) :: .ref (lo t) :: rest)) := by
  refine x_aaldO cx hk hw ha (vp_in_nI hlt hn) hdg ?_
  rw [nI_clamp (Nat.lt_trans hlt hn), hv]; exact kk
theorem x_aaldIN {t n k : Nat} {f : Nat → Option Nat} {v : Value} (cx : CallFix p m c cc nL s args x_gw own) (hk : x_K G s) (hw : x_R G lo co H) (ha : co t = some (.inl (G.2 4, n, .inr (.inr (.inr (.inr f)))))) (hlt : k < n) (hn : n < 2 ^ 31) (hv : va_rf (f k) = v) (hdg : decode cc pc = .ok (.aaload, 1))
    (kk : W p l e R s m args below meth c H locs cells slots Q (F0 m (pc + 1) ls (v :: rest))) : W p l e R s m args below meth c H locs cells slots Q (F0 m pc ls (.int (nI k) :: .ref (lo t) :: rest)) := by
  refine x_aaldI cx hk hw ha (vp_in_nI hlt hn) hdg ?_
  rw [nI_clamp (Nat.lt_trans hlt hn), hv]; exact kk
theorem x_aaldIL {t n : Nat} {f : Nat → Option Nat} {v : Value} {i : Int32} (k : Nat) (cx : CallFix p m c cc nL s args x_gw own) (hk : x_K G s) (hw : x_R G lo co H) (ha : co t = some (.inl (G.2 4, n, .inr (.inr (.inr (.inr f)))))) (hlt : k < n) (hn : n < 2 ^ 31) (hi : i = nI k) (hv : va_rf (f k) = v) (hdg : decode cc pc = .ok (.aaload, 1))
    (kk : W p l e R s m args below meth c H locs cells slots Q (F0 m (pc + 1) ls (v :: rest))) : W p l e R s m args below meth c H locs cells slots Q (F0 m pc ls (.int i :: .ref (lo t) :: rest)) := by
  subst hi; exact x_aaldIN cx hk hw ha hlt hn hv hdg kk
theorem x_castS {t ci index : Nat} {C : String} {T : u_T} {N : Nat} {fs : List Value} (cx : CallFix p m c cc nL s args x_gw own) (hk : x_K G s) (hw : x_R G lo co H) (ha : co t = some (.inr (ci, fs))) (hc : vwCl[ci]? = some (C, T, N)) (hlink : (Cond.classLink own index C).before args s = true) (hdg : decode cc pc = .ok (.checkcast index, 3))
    (kk : W p l e R s m args below meth c H locs cells slots Q (F0 m (pc + 3) ls (.ref (lo t) :: rest))) : W p l e R s m args below meth c H locs cells slots Q (F0 m pc ls (.ref (lo t) :: rest)) :=
  va_castS cx.1 cx.2.1 cx.2.2.2.1 hlink (hk.1.1 ci _ hc).2 (va_recv hk.1 (hw.P ha) hc (q0 := 0) rfl) hdg kk
theorem x_castY {t ci index : Nat} {C nm : String} {T : u_T} {N : Nat} {fs : List Value} (cx : CallFix p m c cc nL s args x_gw own) (hk : x_K G s) (hw : x_R G lo co H) (ha : co t = some (.inr (ci, fs))) (hc : vwCl[ci]? = some (C, T, N)) (hy : (C, nm) ∈ x_nC) (hlink : (Cond.classLink own index nm).before args s = true) (hdg : decode cc pc = .ok (.checkcast index, 3))
    (kk : W p l e R s m args below meth c H locs cells slots Q (F0 m (pc + 3) ls (.ref (lo t) :: rest))) : W p l e R s m args below meth c H locs cells slots Q (F0 m pc ls (.ref (lo t) :: rest)) :=
  va_castY cx.1 cx.2.1 cx.2.2.2.1 hlink (hk.2.2.1 _ hy) (va_recv hk.1 (hw.P ha) hc (q0 := 0) rfl) hdg kk
theorem x_tin {x : Int32} {dflt lo hi off : Int} {offs : Array Int} {len tgt : Nat} {v : Int32} (cx : CallFix p m c cc nL s args x_gw own) (hdg : decode cc pc = .ok (.tableswitch dflt lo hi offs, len)) (hx : x = v) (h1 : ¬ v.toInt < lo) (h2 : ¬ hi < v.toInt) (ho : offs[(v.toInt - lo).toNat]? = some off) (ht : (pc : Int) + off = (tgt : Int))
    (k : W p l e R s m args below meth c H locs cells slots Q (F0 m tgt ls rest)) : W p l e R s m args below meth c H locs cells slots Q (F0 m pc ls (.int x :: rest)) := by
  subst hx; exact lv_tableIn cx.1 cx.2.1 hdg h1 h2 ho ht k
theorem x_tout {x : Int32} {dflt : Int} {lo hi : Int} {offs : Array Int} {len tgt : Nat} (cx : CallFix p m c cc nL s args x_gw own) (hdg : decode cc pc = .ok (.tableswitch dflt lo hi offs, len)) (ht : (pc : Int) + dflt = (tgt : Int)) (h : ∀ z : Int, lo ≤ z → z ≤ hi → ¬ x = Int32.ofInt z)
    (k : W p l e R s m args below meth c H locs cells slots Q (F0 m tgt ls rest)) : W p l e R s m args below meth c H locs cells slots Q (F0 m pc ls (.int x :: rest)) := by
  refine lv_tableOut cx.1 cx.2.1 hdg ?_ ht k
  by_cases h1 : x.toInt < lo
  · exact Or.inl h1
  · by_cases h2 : hi < x.toInt
    · exact Or.inr h2
    · exact absurd (Int32.ofInt_toInt x).symm (h _ (by omega) (by omega))
end XW2
