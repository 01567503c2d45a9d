/-! the desk's world, one picture changed -/
theorem isTb.of {G : x_G} {lo lo1 : x_L} {co co1 : x_C} {b : Nat} {T : Tb} (h : isTb G lo co b T) (hc : ∀ i, i < 5 → co1 (b + i) = co (b + i)) (hl : ∀ i, i < 5 → lo1 (b + i) = lo (b + i)) : isTb G lo1 co1 b T := by
  obtain ⟨h0, h1, h2, h3, h4⟩ := h
  have e1 := hl 1 (by decide); have e2 := hl 2 (by decide); have e3 := hl 3 (by decide); have e4 := hl 4 (by decide)
  refine ⟨?_, (hc 1 (by decide)).trans h1, (hc 2 (by decide)).trans h2, (hc 3 (by decide)).trans h3, (hc 4 (by decide)).trans h4⟩
  rw [e1, e2, e3, e4]
  exact (hc 0 (by decide)).trans h0
theorem isQn.of {G : x_G} {lo lo1 : x_L} {co co1 : x_C} {b tb : Nat} {Q : Qn} (h : isQn G lo co b tb Q) (hc : ∀ i, i < 3 → co1 (b + i) = co (b + i)) (hl : ∀ i, i < 3 → lo1 (b + i) = lo (b + i)) (ht : lo1 tb = lo tb) : isQn G lo1 co1 b tb Q := by
  obtain ⟨h0, h1, h2⟩ := h
  refine ⟨?_, (hc 1 (by decide)).trans h1, (hc 2 (by decide)).trans h2⟩
  rw [hl 1 (by decide), hl 2 (by decide), ht]
  exact (hc 0 (by decide)).trans h0
theorem isAd.of {G : x_G} {lo lo1 : x_L} {co co1 : x_C} {b tb : Nat} {A : Ad} (h : isAd G lo co b tb A) (hc : ∀ i, i < 2 → co1 (b + i) = co (b + i)) (hl : ∀ i, i < 2 → lo1 (b + i) = lo (b + i)) (ht : lo1 tb = lo tb) : isAd G lo1 co1 b tb A := by
  have c0 := hc 0 (by decide); have c1 := hc 1 (by decide); have l1 := hl 1 (by decide)
  rcases h with ⟨e, h⟩ | ⟨e, h⟩ | ⟨e, h⟩ | ⟨e, h⟩ | ⟨e, h⟩
  · exact Or.inl ⟨e, by rw [l1, ht]; exact c0.trans h.1, c1.trans h.2⟩
  · exact Or.inr (Or.inl ⟨e, by rw [l1, ht]; exact c0.trans h.1, c1.trans h.2⟩)
  · exact Or.inr (Or.inr (Or.inl ⟨e, by rw [l1, ht]; exact c0.trans h.1, c1.trans h.2⟩))
  · exact Or.inr (Or.inr (Or.inr (Or.inl ⟨e, by rw [l1, ht]; exact c0.trans h.1, c1.trans h.2⟩)))
  · refine Or.inr (Or.inr (Or.inr (Or.inr ⟨e, ?_⟩)))
    unfold isO7 at h ⊢
    rw [ht]; exact c0.trans h
theorem isL.of {G : x_G} {lo lo1 : x_L} {co co1 : x_C} {dd b d n : Nat} {f f1 : Nat → Nat} (h : isL G lo co dd b d n f) (hb : co1 b = co b) (hd : co1 d = co d) (hl : lo1 d = lo d) (hf : ∀ i, i < n → f1 i = f i) : isL G lo1 co1 dd b d n f1 := by
  obtain ⟨mc, ⟨h1, h2, h3⟩ | ⟨cap, g, h1, h2, h3, h4, h5, h6⟩⟩ := h
  · exact ⟨mc, Or.inl ⟨h1, hb.trans h2, hd.trans h3⟩⟩
  · exact ⟨mc, Or.inr ⟨cap, g, h1, h2, h3, fun i hi => (h4 i hi).trans (congrArg some (hf i hi).symm), by rw [hl]; exact hb.trans h5, hd.trans h6⟩⟩
theorem isSc.of {G : x_G} {lo lo1 : x_L} {co co1 : x_C} {X : Sc} (h : isSc G lo co X) (hc : ∀ i, 6 ≤ i → i < 53 → co1 i = co i) (hl : ∀ i, 6 ≤ i → i < 53 → lo1 i = lo i) : isSc G lo1 co1 X := by
  obtain ⟨h0, h1, ⟨f8, h2, h2f⟩, h3, h4, h5, ⟨f12, h6, h6f⟩, h7, h8⟩ := h
  refine ⟨?_, (hc 7 (by decide) (by decide)).trans h1, ⟨f8, (hc 8 (by decide) (by decide)).trans h2, fun a ha => ?_⟩, (hc 9 (by decide) (by decide)).trans h3, (hc 10 (by decide) (by decide)).trans h4, (hc 11 (by decide) (by decide)).trans h5, ⟨f12, (hc 12 (by decide) (by decide)).trans h6, fun a ha => ?_⟩, fun a ha => ?_, fun a ha => ?_⟩
  · rw [hl 7 (by decide) (by decide), hl 8 (by decide) (by decide), hl 9 (by decide) (by decide), hl 10 (by decide) (by decide), hl 11 (by decide) (by decide), hl 12 (by decide) (by decide)]
    exact (hc 6 (by decide) (by decide)).trans h0
  · rw [h2f a ha, hl _ (by unfold tC; omega) (by unfold tC; omega)]
  · rw [h6f a ha, hl _ (by unfold tL; omega) (by unfold tL; omega)]
  · exact (hc _ (by unfold tC; omega) (by unfold tC; omega)).trans (h7 a ha)
  · exact (hc _ (by unfold tL; omega) (by unfold tL; omega)).trans (h8 a ha)
theorem qt_lt {S : St} (hS : Sok S) {q : Nat} (hq : q < sn S 0) : qt S q < 4 := (hS.2.2.2.2.1 q hq).1
theorem ao_lt {S : St} (hS : Sok S) {a : Nat} (ha : a < sn S 1) : ao S a < 4 := (hS.2.2.2.2.2 a ha).1
/-- one table's picture changed -/
theorem dk_T {G : x_G} {lo : x_L} {co co1 : x_C} {dd t : Nat} {S : St} {X : Sc} {T : Tb} (h : isDk G lo co dd S X) (hS : Sok S) (h1 : t < 4) (h2 : 0 < (sT S t).1 1) (ht : isTb G lo co1 (tT t) T) (ho : ofr co co1 (tT t) 5) (hc : T.1 1 = (sT S t).1 1) : isDk G lo co1 dd (setT S t T) X := by
  obtain ⟨d0, ⟨ft, d1, d1f⟩, d2, d3, d4, d5, d6, d7, d8, d9, d10⟩ := h
  have hcol : ∀ u, (sT (setT S t T) u).1 1 = (sT S u).1 1 := fun u => by
    rw [sT_set]; by_cases e : u = t
    · rw [if_pos e, hc, e]
    · rw [if_neg e]
  have s2 := hS.2.1
  have s3 := hS.2.2.1
  have o : ∀ i, i < 100 → co1 i = co i := fun i hi => ho i (Or.inl (by unfold tT; omega))
  refine ⟨(o 0 (by decide)).trans d0, ⟨ft, (o 1 (by decide)).trans d1, fun u hu => ?_⟩, d2.of (o 2 (by decide)) (o 3 (by decide)) rfl (fun _ _ => rfl), d3.of (o 4 (by decide)) (o 5 (by decide)) rfl (fun _ _ => rfl), d4.of (fun i _ hi => o i (by omega)) (fun _ _ _ => rfl), fun u hu hu2 => ?_, fun q hq => ?_, fun a ha => ?_, fun u hu hu2 i hi => ?_, fun q hq hq2 i hi => ?_, fun a ha ha2 i hi => ?_⟩
  · rw [hcol]; exact d1f u hu
  · rw [sT_set]
    by_cases e : u = t
    · rw [if_pos e, e]; exact ht
    · rw [if_neg e]
      rw [hcol] at hu2
      exact (d5 u hu hu2).of (fun i hi => ho _ (by unfold tT; omega)) (fun _ _ => rfl)
  · exact (d6 q hq).of (fun i hi => ho _ (Or.inr (by unfold tT tQ; omega))) (fun _ _ => rfl) rfl
  · exact (d7 a ha).of (fun i hi => ho _ (Or.inr (by unfold tT tA; omega))) (fun _ _ => rfl) rfl
  · rw [hcol] at hu2
    rw [ho _ (by have : u ≠ t := fun e => by rw [e] at hu2; omega
                 unfold tT; omega)]
    exact d8 u hu hu2 i hi
  · rw [ho _ (Or.inr (by unfold tT tQ; omega))]; exact d9 q hq hq2 i hi
  · rw [ho _ (Or.inr (by unfold tT tA; omega))]; exact d10 a ha ha2 i hi
/-- one question's -/
theorem dk_Q {G : x_G} {lo : x_L} {co co1 : x_C} {dd q : Nat} {S : St} {X : Sc} {Q : Qn} (h : isDk G lo co dd S X) (hS : Sok S) (h1 : q < sn S 0) (hq : isQn G lo co1 (tQ q) (tT (qt S q)) Q) (ho : ofr co co1 (tQ q) 3) : isDk G lo co1 dd (setQ S q Q) X := by
  obtain ⟨d0, ⟨ft, d1, d1f⟩, d2, d3, d4, d5, d6, d7, d8, d9, d10⟩ := h
  have s2 := hS.2.1
  have s3 := hS.2.2.1
  have o : ∀ i, i < 200 → co1 i = co i := fun i hi => ho i (Or.inl (by unfold tQ; omega))
  refine ⟨(o 0 (by decide)).trans d0, ⟨ft, (o 1 (by decide)).trans d1, d1f⟩, d2.of (o 2 (by decide)) (o 3 (by decide)) rfl (fun _ _ => rfl), d3.of (o 4 (by decide)) (o 5 (by decide)) rfl (fun _ _ => rfl), d4.of (fun i _ hi => o i (by omega)) (fun _ _ _ => rfl), fun u hu hu2 => ?_, fun p hp => ?_, fun a ha => ?_, fun u hu hu2 i hi => ?_, fun p hp hp2 i hi => ?_, fun a ha ha2 i hi => ?_⟩
  · exact (d5 u hu hu2).of (fun i hi => ho _ (Or.inl (by unfold tT tQ; omega))) (fun _ _ => rfl)
  · have hp' : p < sn S 0 := hp
    by_cases e : p = q
    · subst e
      rw [show qt (setQ S p Q) p = qt S p from by show (va_up S.2.1 p (qt S p, Q) p).1 = qt S p; rw [va_up_self], show qQ (setQ S p Q) p = Q from by show (va_up S.2.1 p (qt S p, Q) p).2 = Q; rw [va_up_self]]
      exact hq
    · rw [show qt (setQ S q Q) p = qt S p from by show (va_up S.2.1 q (qt S q, Q) p).1 = qt S p; rw [va_up_ne _ _ e], show qQ (setQ S q Q) p = qQ S p from by show (va_up S.2.1 q (qt S q, Q) p).2 = qQ S p; rw [va_up_ne _ _ e]]
      exact (d6 p hp').of (fun i hi => ho _ (by unfold tQ; omega)) (fun _ _ => rfl) rfl
  · exact (d7 a ha).of (fun i hi => ho _ (Or.inr (by unfold tQ tA; omega))) (fun _ _ => rfl) rfl
  · rw [ho _ (Or.inl (by unfold tQ tT; omega))]; exact d8 u hu hu2 i hi
  · have hp' : sn S 0 ≤ p := hp
    rw [ho _ (by unfold tQ; omega)]; exact d9 p hp' hp2 i hi
  · rw [ho _ (Or.inr (by unfold tQ tA; omega))]; exact d10 a ha ha2 i hi
theorem t_all_vals {T : Tb} {a b c d : Int32} (hT : Tok T) : t_all T a b c d = s_vals T a b c d := by
  obtain ⟨k1, k2, k3, k4, k5, k6, k7, k8, k9, k0⟩ := id hT
  have h1 : ∀ k x, k < 4 → t_all1 T (nI k) x = (!decide (k < T.1 1) || s_btw x (nI 0) (nI 999)) := fun k x hk => by
    unfold t_all1; rw [t_has_nI k2 (by omega)]
  unfold t_all s_vals
  rw [h1 0 a (by decide), h1 1 b (by decide), h1 2 c (by decide), h1 3 d (by decide)]
  rcases (show T.1 1 = 1 ∨ T.1 1 = 2 ∨ T.1 1 = 3 ∨ T.1 1 = 4 by omega) with e | e | e | e <;> rw [e] <;> simp [allN, s_arg]
/-- an aid with another 'built' -/
def sA6 (A : Ad) (v : Bool) : Ad := (va_up A.1 6 (if v = true then 1 else 0), A.2)
theorem nI_b6 (v : Bool) : nI (if v = true then 1 else 0) = bI v := by cases v <;> rfl
theorem bool_fit (v : Bool) : fits .boolean (.int (bI v)) = true := by cases v <;> rfl
section XW13
variable {p : Program} {l : Launch} {e : Env} {R : Room} {s : State} {m : MethodId} {args : Array Value} {below : List Frame} {meth : Method} {c : Code} {H : Heap} {locs : List Loc} {cells slots : Nat} {Q : State → Prop}
variable {cc : ByteArray} {pc : Nat} {ls : Array Slot} {rest : List Value} {G : x_G} {lo : x_L} {co : x_C} {nL : Nat} {A0 : Nat → Prop} {H0 : Heap}
theorem ap_RX10_158 {b tb : Nat} {A : Ad} {v : Bool} (cx : CallFix p m c cc nL s args x_gw RX10) (hk : x_K G s) (hW : x_D A0 G H0 lo co H locs) (ha : isAd G lo co b tb A) (hdg : decode cc pc = .ok (.putfield 158, 3)) (kk : ∀ (co1 : x_C) (H1 : Heap) (locs1 : List Loc), isAd G lo co1 b tb (sA6 A v) → ofr co co1 b 2 → x_D A0 G H0 lo co1 H1 locs1 → W p l e R s m args below meth c H1 locs1 cells slots Q (F0 m (pc + 3) ls rest)) : W p l e R s m args below meth c H locs cells slots Q (F0 m pc ls (.int (bI v) :: .ref (lo b) :: rest)) := by
  have hof : ∀ x : va_E, ofr co (va_up co b (some x)) b 2 := fun x i hi => va_up_ne _ _ (by omega)
  have hne : ∀ x : va_E, va_up co b (some x) (b + 1) = co (b + 1) := fun x => va_up_ne _ _ (by omega)
  have e6 : Value.int (bI v) = Value.int (nI ((sA6 A v).1 6)) := by rw [show (sA6 A v).1 6 = if v = true then 1 else 0 from rfl, nI_b6]
  rcases ha with ⟨e0, h⟩ | ⟨e0, h⟩ | ⟨e0, h⟩ | ⟨e0, h⟩ | ⟨e0, h⟩
  · refine x_put (t := b) cx hk hW h.1 p_RX10_158_1 (fun q => by cases q) (by simp) (bI_nar v) (bool_fit v) hdg fun H1 locs1 h1 => ?_
    rw [e6] at h1
    exact kk _ H1 locs1 (Or.inl ⟨e0, va_up_self _ _ _, (hne _).trans h.2⟩) (hof _) h1
  · refine x_put (t := b) cx hk hW h.1 p_RX10_158_2 (fun q => by cases q) (by simp) (bI_nar v) (bool_fit v) hdg fun H1 locs1 h1 => ?_
    rw [e6] at h1
    exact kk _ H1 locs1 (Or.inr (Or.inl ⟨e0, va_up_self _ _ _, (hne _).trans h.2⟩)) (hof _) h1
  · refine x_put (t := b) cx hk hW h.1 p_RX10_158_3 (fun q => by cases q) (by simp) (bI_nar v) (bool_fit v) hdg fun H1 locs1 h1 => ?_
    rw [e6] at h1
    exact kk _ H1 locs1 (Or.inr (Or.inr (Or.inl ⟨e0, va_up_self _ _ _, (hne _).trans h.2⟩))) (hof _) h1
  · refine x_put (t := b) cx hk hW h.1 p_RX10_158_4 (fun q => by cases q) (by simp) (bI_nar v) (bool_fit v) hdg fun H1 locs1 h1 => ?_
    rw [e6] at h1
    exact kk _ H1 locs1 (Or.inr (Or.inr (Or.inr (Or.inl ⟨e0, va_up_self _ _ _, (hne _).trans h.2⟩)))) (hof _) h1
  · refine x_put (t := b) cx hk hW h p_RX10_158_7 (fun q => by cases q) (by simp) (bI_nar v) (bool_fit v) hdg fun H1 locs1 h1 => ?_
    rw [e6] at h1
    exact kk _ H1 locs1 (Or.inr (Or.inr (Or.inr (Or.inr ⟨e0, va_up_self _ _ _⟩)))) (hof _) h1
end XW13
/-- an aid is built, or not -/
theorem dk_B {G : x_G} {lo : x_L} {co co1 : x_C} {dd a : Nat} {S : St} {X : Sc} {v : Bool} (h : isDk G lo co dd S X) (hS : Sok S) (h1 : a < sn S 1) (hv : (sn S 2).testBit a ≠ v) (ha : isAd G lo co1 (tA a) (tT (ao S a)) (sA6 (bA S a) v)) (ho : ofr co co1 (tA a) 2) : isDk G lo co1 dd (setB S (sn S 2 ^^^ 2 ^ a)) X := by
  obtain ⟨d0, ⟨ft, d1, d1f⟩, d2, d3, d4, d5, d6, d7, d8, d9, d10⟩ := h
  have s2 := hS.2.1
  have s3 := hS.2.2.1
  have o : ∀ i, i < 500 → co1 i = co i := fun i hi => ho i (Or.inl (by unfold tA; omega))
  have hb : ∀ k, (sn S 2 ^^^ 2 ^ a).testBit k = if k = a then v else (sn S 2).testBit k := fun k => by
    rw [Nat.testBit_xor]
    by_cases e : k = a
    · subst e
      rw [if_pos rfl, Nat.testBit_two_pow_self]
      cases e1 : (sn S 2).testBit k <;> cases e2 : v <;> simp_all
    · rw [if_neg e, Nat.testBit_two_pow_of_ne (Ne.symm e), Bool.xor_false]
  refine ⟨(o 0 (by decide)).trans d0, ⟨ft, (o 1 (by decide)).trans d1, d1f⟩, d2.of (o 2 (by decide)) (o 3 (by decide)) rfl (fun _ _ => rfl), d3.of (o 4 (by decide)) (o 5 (by decide)) rfl (fun _ _ => rfl), d4.of (fun i _ hi => o i (by omega)) (fun _ _ _ => rfl), fun u hu hu2 => ?_, fun p hp => ?_, fun k hk => ?_, fun u hu hu2 i hi => ?_, fun p hp hp2 i hi => ?_, fun k hk hk2 i hi => ?_⟩
  · exact (d5 u hu hu2).of (fun i hi => o _ (by unfold tT; omega)) (fun _ _ => rfl)
  · have hp' : p < sn S 0 := hp
    exact (d6 p hp').of (fun i hi => o _ (by unfold tQ; omega)) (fun _ _ => rfl) rfl
  · have hk' : k < sn S 1 := hk
    by_cases e : k = a
    · subst e
      have : bA (setB S (sn S 2 ^^^ 2 ^ k)) k = sA6 (bA S k) v := by
        unfold bA sA6
        refine Prod.ext ?_ rfl
        show va_up (aA S k).1 6 (if (sn S 2 ^^^ 2 ^ k).testBit k = true then 1 else 0) = va_up (va_up (aA S k).1 6 _) 6 (if v = true then 1 else 0)
        rw [hb k, if_pos rfl, va_up_up]
      rw [this]; exact ha
    · have : bA (setB S (sn S 2 ^^^ 2 ^ a)) k = bA S k := by
        unfold bA
        refine Prod.ext ?_ rfl
        show va_up (aA S k).1 6 (if (sn S 2 ^^^ 2 ^ a).testBit k = true then 1 else 0) = va_up (aA S k).1 6 _
        rw [hb k, if_neg e]
      rw [this]
      exact (d7 k hk').of (fun i hi => ho _ (by unfold tA; omega)) (fun _ _ => rfl) rfl
  · rw [o _ (by unfold tT; omega)]; exact d8 u hu hu2 i hi
  · have hp' : sn S 0 ≤ p := hp
    rw [o _ (by unfold tQ; omega)]; exact d9 p hp' hp2 i hi
  · have hk' : sn S 1 ≤ k := hk
    rw [ho _ (by unfold tA; omega)]; exact d10 k hk' hk2 i hi
/-- a set and one aid more: no rival in it -/
theorem set_add {S : St} {s a : Nat} (hs : m_set S s = true) (ha : a < sn S 1) (hn : s.testBit a = false) : m_set S (s ||| 2 ^ a) = true ↔ d_rivs S a &&& s = 0 := by
  have hb : ∀ k, (s ||| 2 ^ a).testBit k = (s.testBit k || decide (k = a)) := fun k => by
    rw [Nat.testBit_or]
    by_cases e : k = a
    · subst e; rw [Nat.testBit_two_pow_self, decide_eq_true rfl]
    · rw [Nat.testBit_two_pow_of_ne (Ne.symm e), decide_eq_false e]
  rw [m_set_riv]
  constructor
  · intro h
    have := h a ha (by rw [hb, decide_eq_true rfl, Bool.or_true])
    rw [and_0] at this ⊢
    exact fun j hj => this j ⟨hj.1, by rw [hb, hj.2]; rfl⟩
  · intro h k hk hk2
    rw [hb] at hk2
    rw [and_0] at h ⊢
    rintro j ⟨hj1, hj2⟩
    rw [hb] at hj2
    by_cases e : k = a
    · subst e
      by_cases ej : j = k
      · subst ej
        unfold d_rivs at hj1
        split at hj1
        · rw [d_riv_tb] at hj1; exact (of_decide_eq_true hj1).2.1 rfl
        · rw [Nat.zero_testBit] at hj1; exact absurd hj1 (by decide)
      · rw [decide_eq_false ej, Bool.or_false] at hj2
        exact h j ⟨hj1, hj2⟩
    · rw [decide_eq_false e, Bool.or_false] at hk2
      by_cases ej : j = a
      · subst ej
        -- k's rivals hold j; so j's hold k
        have hk1 : d_rivs S k = if (aA S k).1 0 = 4 then d_riv S k (sn S 1) else 0 := rfl
        rw [hk1] at hj1
        split at hj1
        · next h4 =>
          rw [d_riv_tb] at hj1
          obtain ⟨q1, q2, q3, q4⟩ := of_decide_eq_true hj1
          refine h k ⟨?_, hk2⟩
          rw [d_rivs, if_pos q3, d_riv_tb]
          exact decide_eq_true ⟨hk, e, h4, q4.symm⟩
        · rw [Nat.zero_testBit] at hj1; exact absurd hj1 (by decide)
      · rw [decide_eq_false ej, Bool.or_false] at hj2
        have := m_set_riv.mp hs k hk hk2
        rw [and_0] at this
        exact this j ⟨hj1, hj2⟩
