/-! the desk's world, a picture more -/
theorem dk_free {G : x_G} {lo : x_L} {co : x_C} {dd : Nat} {S : St} {X : Sc} (h : isDk G lo co dd S X) (hS : Sok S) : isDk G lo (va_up co 14 none) dd S X := by
  obtain ⟨d0, ⟨ft, d1, d1f⟩, d2, d3, d4, d5, d6, d7, d8, d9, d10⟩ := h
  have s2 := hS.2.1
  have s3 := hS.2.2.1
  have o : ∀ i, i ≠ 14 → va_up co 14 none i = co i := fun i hi => va_up_ne _ _ hi
  have c14 : co 14 = co 14 := rfl
  refine ⟨(o 0 (by decide)).trans d0, ⟨ft, (o 1 (by decide)).trans d1, d1f⟩, d2.of (o 2 (by decide)) (o 3 (by decide)) rfl (fun _ _ => rfl), d3.of (o 4 (by decide)) (o 5 (by decide)) rfl (fun _ _ => rfl), ?_, fun u hu hu2 => (d5 u hu hu2).of (fun i hi => o _ (by unfold tT; omega)) (fun _ _ => rfl), fun q hq => (d6 q hq).of (fun i hi => o _ (by unfold tQ; omega)) (fun _ _ => rfl) rfl, fun a ha => (d7 a ha).of (fun i hi => o _ (by unfold tA; omega)) (fun _ _ => rfl) rfl, fun u hu hu2 i hi => (o _ (by unfold tT; omega)).trans (d8 u hu hu2 i hi), fun q hq hq2 i hi => (o _ (by unfold tQ; omega)).trans (d9 q hq hq2 i hi), fun a ha ha2 i hi => (o _ (by unfold tA; omega)).trans (d10 a ha ha2 i hi)⟩
  obtain ⟨s1, s2, ⟨f, s3, s3'⟩, s4, s5, s6, ⟨g, s7, s7'⟩, s8, s9⟩ := d4
  exact ⟨(o _ (by decide)).trans s1, (o _ (by decide)).trans s2, ⟨f, (o _ (by decide)).trans s3, s3'⟩, (o _ (by decide)).trans s4, (o _ (by decide)).trans s5, (o _ (by decide)).trans s6, ⟨g, (o _ (by decide)).trans s7, s7'⟩, fun a ha => (o _ (by unfold tC; omega)).trans (s8 a ha), fun a ha => (o _ (by unfold tL; omega)).trans (s9 a ha)⟩
theorem isSc.of2 {G : x_G} {lo lo1 : x_L} {co co1 : x_C} {X : Sc} (h : isSc G lo co X) (hc : ∀ i, 6 ≤ i → i < 53 → i ≠ 14 → co1 i = co i) (hl : ∀ i, 6 ≤ i → i < 53 → i ≠ 14 → lo1 i = lo i) : isSc G lo1 co1 X := by
  obtain ⟨s1, s2, ⟨f, s3, s3'⟩, s4, s5, s6, ⟨g, s7, s7'⟩, s8, s9⟩ := h
  refine ⟨?_, (hc _ (by decide) (by decide) (by decide)).trans s2, ⟨f, (hc _ (by decide) (by decide) (by decide)).trans s3, fun a ha => ?_⟩, (hc _ (by decide) (by decide) (by decide)).trans s4, (hc _ (by decide) (by decide) (by decide)).trans s5, (hc _ (by decide) (by decide) (by decide)).trans s6, ⟨g, (hc _ (by decide) (by decide) (by decide)).trans s7, fun a ha => ?_⟩, fun a ha => (hc _ (by unfold tC; omega) (by unfold tC; omega) (by unfold tC; omega)).trans (s8 a ha), fun a ha => (hc _ (by unfold tL; omega) (by unfold tL; omega) (by unfold tL; omega)).trans (s9 a ha)⟩
  · rw [hl 7 (by decide) (by decide) (by decide), hl 8 (by decide) (by decide) (by decide), hl 9 (by decide) (by decide) (by decide), hl 10 (by decide) (by decide) (by decide), hl 11 (by decide) (by decide) (by decide), hl 12 (by decide) (by decide) (by decide)]
    exact (hc 6 (by decide) (by decide) (by decide)).trans s1
  · rw [hl _ (by unfold tC; omega) (by unfold tC; omega) (by unfold tC; omega)]
    exact s3' a ha
  · rw [hl _ (by unfold tL; omega) (by unfold tL; omega) (by unfold tL; omega)]
    exact s7' a ha
theorem dk_newT {G : x_G} {lo lo1 : x_L} {co co1 : x_C} {dd t : Nat} {S : St} {X : Sc} {T : Tb} {f : Nat → Option Nat} (h : isDk G lo co dd S X) (hS : Sok S) (h1 : t < 4) (h3 : 0 < T.1 1) (ht : isTb G lo1 co1 (tT t) T) (hf : co1 1 = some (.inl (G.2 2, 4, .inr (.inr (.inr (.inr f)))))) (hf2 : ∀ u, u < 4 → f u = if u = t then some (lo1 (tT t)) else if 0 < (sT S u).1 1 then some (lo (tT u)) else none) (ho : ∀ i, i ≠ 1 → (i < tT t ∨ tT t + 5 ≤ i) → co1 i = co i) (hl : ∀ i, (i < tT t ∨ tT t + 5 ≤ i) → lo1 i = lo i) (h2 : (sT S t).1 1 = 0) : isDk G lo1 co1 dd (setT S t T) X := by
  obtain ⟨d0, ⟨ft, d1, d1f⟩, d2, d3, d4, d5, d6, d7, d8, d9, d10⟩ := h
  have s2 := hS.2.1
  have s3 := hS.2.2.1
  have o : ∀ i, i < 100 → i ≠ 1 → co1 i = co i := fun i hi h => ho i h (Or.inl (by unfold tT; omega))
  have ol : ∀ i, i < 100 → lo1 i = lo i := fun i hi => hl i (Or.inl (by unfold tT; omega))
  have hne : ∀ u, u < 4 → 0 < (sT S u).1 1 → u ≠ t := fun u _ q e => by rw [e] at q; omega
  refine ⟨?_, ⟨f, hf, fun u hu => ?_⟩, d2.of (o 2 (by decide) (by decide)) (o 3 (by decide) (by decide)) (ol 3 (by decide)) (fun q hq => hl _ (by unfold tT tQ; omega)), d3.of (o 4 (by decide) (by decide)) (o 5 (by decide) (by decide)) (ol 5 (by decide)) (fun q hq => hl _ (by unfold tT tA; omega)), d4.of (fun i hi hi2 => o i (by omega) (by omega)) (fun i _ hi => ol i (by omega)), fun u hu hu2 => ?_, fun q hq => ?_, fun a ha => ?_, fun u hu hu2 i hi => ?_, fun q hq hq2 i hi => ?_, fun a ha ha2 i hi => ?_⟩
  · rw [ol 1 (by decide), ol 2 (by decide), ol 4 (by decide), ol 6 (by decide)]
    exact (o 0 (by decide) (by decide)).trans d0
  · rw [hf2 u hu, sT_set]
    by_cases e : u = t
    · rw [if_pos e, if_pos e, if_pos h3, e]
    · rw [if_neg e, if_neg e, hl _ (by unfold tT; omega)]
  · rw [sT_set] at hu2 ⊢
    by_cases e : u = t
    · rw [if_pos e, e]; exact ht
    · rw [if_neg e] at hu2 ⊢
      exact (d5 u hu hu2).of (fun i hi => ho _ (by unfold tT; omega) (by unfold tT; omega)) (fun i hi => hl _ (by unfold tT; omega))
  · have hq2 := (hS.2.2.2.2.1 q hq)
    have := hne _ hq2.1 hq2.2.1
    exact (d6 q hq).of (fun i hi => ho _ (by unfold tQ; omega) (Or.inr (by unfold tT tQ; omega))) (fun i hi => hl _ (Or.inr (by unfold tT tQ; omega))) (hl _ (by unfold tT; omega))
  · have ha2 := (hS.2.2.2.2.2 a ha)
    have := hne _ ha2.1 ha2.2.1
    exact (d7 a ha).of (fun i hi => ho _ (by unfold tA; omega) (Or.inr (by unfold tT tA; omega))) (fun i hi => hl _ (Or.inr (by unfold tT tA; omega))) (hl _ (by unfold tT; omega))
  · rw [sT_set] at hu2
    by_cases e : u = t
    · rw [if_pos e] at hu2; omega
    · rw [if_neg e] at hu2
      rw [ho _ (by unfold tT; omega) (by unfold tT; omega)]
      exact d8 u hu hu2 i hi
  · rw [ho _ (by unfold tQ; omega) (Or.inr (by unfold tT tQ; omega))]; exact d9 q hq hq2 i hi
  · rw [ho _ (by unfold tA; omega) (Or.inr (by unfold tT tA; omega))]; exact d10 a ha ha2 i hi
theorem dk_addQ {G : x_G} {lo lo1 : x_L} {co co1 : x_C} {dd n : Nat} {S : St} {X : Sc} {e : Nat × Qn} (h : isDk G lo co dd S X) (hS : Sok S) (hn : sn S 0 = n) (h1 : n < 24) (ht : isQn G lo1 co1 (tQ n) (tT e.1) e.2) (hL : isL G lo1 co1 dd 2 3 (n + 1) (fun q => if q = n then lo1 (tQ n) else lo (tQ q))) (ho : ∀ i, i ≠ 2 → i ≠ 3 → i ≠ 14 → (i < tQ n ∨ tQ n + 3 ≤ i) → co1 i = co i) (hl : ∀ i, i ≠ 3 → i ≠ 14 → (i < tQ n ∨ tQ n + 3 ≤ i) → lo1 i = lo i) : isDk G lo1 co1 dd (addQ S e) X := by
  obtain ⟨d0, ⟨ft, d1, d1f⟩, d2, d3, d4, d5, d6, d7, d8, d9, d10⟩ := h
  have s2 := hS.2.1
  have s3 := hS.2.2.1
  subst hn
  have n0 : sn (addQ S e) 0 = sn S 0 + 1 := va_up_self S.2.2.2 0 (sn S 0 + 1)
  have n1 : sn (addQ S e) 1 = sn S 1 := va_up_ne S.2.2.2 (sn S 0 + 1) (show 1 ≠ 0 by decide)
  have n2 : sn (addQ S e) 2 = sn S 2 := va_up_ne S.2.2.2 (sn S 0 + 1) (show 2 ≠ 0 by decide)
  have qn : ∀ q, q ≠ sn S 0 → (addQ S e).2.1 q = S.2.1 q := fun q hq => va_up_ne _ _ hq
  have qe : (addQ S e).2.1 (sn S 0) = e := va_up_self _ _ _
  have hbA : ∀ a, bA (addQ S e) a = bA S a := fun a => by unfold bA; rw [n2]; rfl
  have o : ∀ i, i < 200 → i ≠ 2 → i ≠ 3 → i ≠ 14 → co1 i = co i := fun i hi p1 p2 p3 => ho i p1 p2 p3 (Or.inl (by unfold tQ; omega))
  have ol : ∀ i, i < 200 → i ≠ 3 → i ≠ 14 → lo1 i = lo i := fun i hi p2 p3 => hl i p2 p3 (Or.inl (by unfold tQ; omega))
  refine ⟨?_, ⟨ft, (o 1 (by decide) (by decide) (by decide) (by decide)).trans d1, fun u hu => ?_⟩, ?_, ?_, d4.of2 (fun i hi hi2 h => o i (by omega) (by omega) (by omega) h) (fun i hi hi2 h => ol i (by omega) (by omega) h), fun u hu hu2 => ?_, fun q hq => ?_, fun a ha => ?_, fun u hu hu2 i hi => ?_, fun q hq hq2 i hi => ?_, fun a ha ha2 i hi => ?_⟩
  · rw [ol 1 (by decide) (by decide) (by decide), ol 2 (by decide) (by decide) (by decide), ol 4 (by decide) (by decide) (by decide), ol 6 (by decide) (by decide) (by decide)]
    exact (o 0 (by decide) (by decide) (by decide) (by decide)).trans d0
  · rw [ol (tT u) (by unfold tT; omega) (by unfold tT; omega) (by unfold tT; omega)]
    exact d1f u hu
  · rw [n0]
    refine hL.of rfl rfl rfl (fun q hq => ?_)
    show lo1 (tQ q) = if q = sn S 0 then lo1 (tQ (sn S 0)) else lo (tQ q)
    by_cases c : q = sn S 0
    · rw [if_pos c, c]
    · rw [if_neg c, hl _ (by unfold tQ; omega) (by unfold tQ; omega) (by unfold tQ; omega)]
  · rw [n1]
    exact d3.of (o 4 (by decide) (by decide) (by decide) (by decide)) (o 5 (by decide) (by decide) (by decide) (by decide)) (ol 5 (by decide) (by decide) (by decide)) (fun q hq => hl _ (by unfold tA; omega) (by unfold tA; omega) (by unfold tA tQ; omega))
  · exact (d5 u hu hu2).of (fun i hi => o _ (by unfold tT; omega) (by unfold tT; omega) (by unfold tT; omega) (by unfold tT; omega)) (fun i hi => ol _ (by unfold tT; omega) (by unfold tT; omega) (by unfold tT; omega))
  · rw [n0] at hq
    show isQn G lo1 co1 (tQ q) (tT ((addQ S e).2.1 q).1) ((addQ S e).2.1 q).2
    by_cases c : q = sn S 0
    · rw [c, qe]; exact ht
    · rw [qn q c]
      have hq2 := hS.2.2.2.2.1 q (by omega)
      exact (d6 q (by omega)).of (fun i hi => ho _ (by unfold tQ; omega) (by unfold tQ; omega) (by unfold tQ; omega) (by unfold tQ; omega)) (fun i hi => hl _ (by unfold tQ; omega) (by unfold tQ; omega) (by unfold tQ; omega)) (ol _ (by have := hq2.1; unfold tT; omega) (by unfold tT; omega) (by unfold tT; omega))
  · rw [n1] at ha
    rw [hbA]
    have ha2 := hS.2.2.2.2.2 a ha
    exact (d7 a ha).of (fun i hi => ho _ (by unfold tA; omega) (by unfold tA; omega) (by unfold tA; omega) (by unfold tA tQ; omega)) (fun i hi => hl _ (by unfold tA; omega) (by unfold tA; omega) (by unfold tA tQ; omega)) (ol _ (by have := ha2.1; unfold tT; omega) (by unfold tT; omega) (by unfold tT; omega))
  · rw [o _ (by unfold tT; omega) (by unfold tT; omega) (by unfold tT; omega) (by unfold tT; omega)]; exact d8 u hu hu2 i hi
  · rw [n0] at hq
    rw [ho _ (by unfold tQ; omega) (by unfold tQ; omega) (by unfold tQ; omega) (by unfold tQ; omega)]; exact d9 q (by omega) hq2 i hi
  · rw [n1] at ha
    rw [ho _ (by unfold tA; omega) (by unfold tA; omega) (by unfold tA; omega) (by unfold tA tQ; omega)]; exact d10 a ha ha2 i hi
theorem dk_addA {G : x_G} {lo lo1 : x_L} {co co1 : x_C} {dd n : Nat} {S : St} {X : Sc} {e : Nat × Ad} (h : isDk G lo co dd S X) (hS : Sok S) (hn : sn S 1 = n) (h1 : n < 12) (ht : isAd G lo1 co1 (tA n) (tT e.1) (bA (addA S e) n)) (hL : isL G lo1 co1 dd 4 5 (n + 1) (fun q => if q = n then lo1 (tA n) else lo (tA q))) (ho : ∀ i, i ≠ 4 → i ≠ 5 → i ≠ 14 → (i < tA n ∨ tA n + 2 ≤ i) → co1 i = co i) (hl : ∀ i, i ≠ 5 → i ≠ 14 → (i < tA n ∨ tA n + 2 ≤ i) → lo1 i = lo i) : isDk G lo1 co1 dd (addA S e) X := by
  obtain ⟨d0, ⟨ft, d1, d1f⟩, d2, d3, d4, d5, d6, d7, d8, d9, d10⟩ := h
  have s2 := hS.2.1
  have s3 := hS.2.2.1
  subst hn
  have n0 : sn (addA S e) 0 = sn S 0 := va_up_ne S.2.2.2 (sn S 1 + 1) (show 0 ≠ 1 by decide)
  have n1 : sn (addA S e) 1 = sn S 1 + 1 := va_up_self S.2.2.2 1 (sn S 1 + 1)
  have n2 : sn (addA S e) 2 = sn S 2 := va_up_ne S.2.2.2 (sn S 1 + 1) (show 2 ≠ 1 by decide)
  have qn : ∀ q, q ≠ sn S 1 → (addA S e).2.2.1 q = S.2.2.1 q := fun q hq => va_up_ne _ _ hq
  have qe : (addA S e).2.2.1 (sn S 1) = e := va_up_self _ _ _
  have hbA : ∀ a, a ≠ sn S 1 → bA (addA S e) a = bA S a := fun a ha => by unfold bA aA; rw [n2, qn a ha]
  have o : ∀ i, i < 500 → i ≠ 4 → i ≠ 5 → i ≠ 14 → co1 i = co i := fun i hi p1 p2 p3 => ho i p1 p2 p3 (Or.inl (by unfold tA; omega))
  have ol : ∀ i, i < 500 → i ≠ 5 → i ≠ 14 → lo1 i = lo i := fun i hi p2 p3 => hl i p2 p3 (Or.inl (by unfold tA; omega))
  refine ⟨?_, ⟨ft, (o 1 (by decide) (by decide) (by decide) (by decide)).trans d1, fun u hu => ?_⟩, ?_, ?_, d4.of2 (fun i hi hi2 h => o i (by omega) (by omega) (by omega) h) (fun i hi hi2 h => ol i (by omega) (by omega) h), fun u hu hu2 => ?_, fun q hq => ?_, fun a ha => ?_, fun u hu hu2 i hi => ?_, fun q hq hq2 i hi => ?_, fun a ha ha2 i hi => ?_⟩
  · rw [ol 1 (by decide) (by decide) (by decide), ol 2 (by decide) (by decide) (by decide), ol 4 (by decide) (by decide) (by decide), ol 6 (by decide) (by decide) (by decide)]
    exact (o 0 (by decide) (by decide) (by decide) (by decide)).trans d0
  · rw [ol (tT u) (by unfold tT; omega) (by unfold tT; omega) (by unfold tT; omega)]
    exact d1f u hu
  · rw [n0]
    exact d2.of (o 2 (by decide) (by decide) (by decide) (by decide)) (o 3 (by decide) (by decide) (by decide) (by decide)) (ol 3 (by decide) (by decide) (by decide)) (fun q hq => ol _ (by unfold tQ; omega) (by unfold tQ; omega) (by unfold tQ; omega))
  · rw [n1]
    refine hL.of rfl rfl rfl (fun q hq => ?_)
    show lo1 (tA q) = if q = sn S 1 then lo1 (tA (sn S 1)) else lo (tA q)
    by_cases c : q = sn S 1
    · rw [if_pos c, c]
    · rw [if_neg c, hl _ (by unfold tA; omega) (by unfold tA; omega) (by unfold tA; omega)]
  · exact (d5 u hu hu2).of (fun i hi => o _ (by unfold tT; omega) (by unfold tT; omega) (by unfold tT; omega) (by unfold tT; omega)) (fun i hi => ol _ (by unfold tT; omega) (by unfold tT; omega) (by unfold tT; omega))
  · rw [n0] at hq
    have hq2 := hS.2.2.2.2.1 q (by omega)
    exact (d6 q hq).of (fun i hi => o _ (by unfold tQ; omega) (by unfold tQ; omega) (by unfold tQ; omega) (by unfold tQ; omega)) (fun i hi => ol _ (by unfold tQ; omega) (by unfold tQ; omega) (by unfold tQ; omega)) (ol _ (by have := hq2.1; unfold tT; omega) (by unfold tT; omega) (by unfold tT; omega))
  · rw [n1] at ha
    by_cases c : a = sn S 1
    · show isAd G lo1 co1 (tA a) (tT ((addA S e).2.2.1 a).1) (bA (addA S e) a)
      rw [c, qe]; exact ht
    · have ha2 := hS.2.2.2.2.2 a (by omega)
      rw [hbA a c]
      show isAd G lo1 co1 (tA a) (tT ((addA S e).2.2.1 a).1) (bA S a)
      rw [qn a c]
      exact (d7 a (by omega)).of (fun i hi => ho _ (by unfold tA; omega) (by unfold tA; omega) (by unfold tA; omega) (by unfold tA; omega)) (fun i hi => hl _ (by unfold tA; omega) (by unfold tA; omega) (by unfold tA; omega)) (ol _ (by have := ha2.1; unfold tT; omega) (by unfold tT; omega) (by unfold tT; omega))
  · rw [o _ (by unfold tT; omega) (by unfold tT; omega) (by unfold tT; omega) (by unfold tT; omega)]; exact d8 u hu hu2 i hi
  · rw [n0] at hq
    rw [o _ (by unfold tQ; omega) (by unfold tQ; omega) (by unfold tQ; omega) (by unfold tQ; omega)]; exact d9 q hq hq2 i hi
  · rw [n1] at ha
    rw [ho _ (by unfold tA; omega) (by unfold tA; omega) (by unfold tA; omega) (by unfold tA; omega)]; exact d10 a (by omega) ha2 i hi
