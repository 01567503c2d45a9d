theorem x_los (lo : x_L) (b n sz : Nat) : ∃ lo1 : x_L, (∀ i, i < n → lo1 (b + 1 + i) = sz + i) ∧ ∀ i, (i ≤ b ∨ b + 1 + n ≤ i) → lo1 i = lo i := by
  refine ⟨fun i => if b + 1 ≤ i ∧ i < b + 1 + n then sz + (i - (b + 1)) else lo i, fun i hi => ?_, fun i hi => ?_⟩
  · show (if _ then _ else _) = _
    rw [if_pos (by omega)]; omega
  · show (if _ then _ else _) = _
    rw [if_neg (by omega)]
theorem x_relo {co : x_C} {lo lo1 : x_L} {b n : Nat} (hn : ∀ i, 1 ≤ i → i < n + 1 → co (b + i) = none) (hl : ∀ i, (i ≤ b ∨ b + 1 + n ≤ i) → lo1 i = lo i) : ∀ i, co i ≠ none → lo1 i = lo i := fun i hi => hl i (Decidable.byContradiction fun q => hi (by
  have h := hn (i - b) (by omega) (by omega)
  rw [show b + (i - b) = i by omega] at h
  exact h))
section XW17
variable {p : Program} {l : Launch} {e : Env} {R : Room} {s : State} {m : MethodId} {args : Array Value} {below : List Frame} {meth : Method} {c : Code} {H : Heap} {locs : List Loc} {cells slots : Nat} {Q : State → Prop}
variable {cc : ByteArray} {pc : Nat} {ls : Array Slot} {rest : List Value} {G : x_G} {lo : x_L} {co : x_C} {nL : Nat} {own : String} {A : Nat → Prop} {H0 : Heap}
theorem x_iastN {t n k : Nat} {f : Nat → Int32} {x : Int32} (cx : CallFix p m c cc nL s args x_gw own) (hk : x_K G s) (hW : x_D A G H0 lo co H locs) (ha : co t = some (.inl (G.2 0, n, .inl f))) (hlt : k < n) (hn : n < 2 ^ 31) (hdg : decode cc pc = .ok (.iastore, 1))
    (kk : ∀ (H1 : Heap) (locs1 : List Loc), x_D A G H0 lo (va_up co t (some (.inl (G.2 0, n, .inl (upd f k x))))) H1 locs1 → W p l e R s m args below meth c H1 locs1 cells slots Q (F0 m (pc + 1) ls rest)) : W p l e R s m args below meth c H locs cells slots Q (F0 m pc ls (.int x :: .int (nI k) :: .ref (lo t) :: rest)) := by
  refine x_iast cx hk hW ha (vp_in_nI hlt hn) hdg fun H1 locs1 h => ?_
  rw [nI_clamp (Nat.lt_trans hlt hn)] at h
  exact kk H1 locs1 h
end XW17
theorem s_bit_hon {T : Tb} {x : Int32} (hT : T.1 1 ≤ 4) (h : t_hon T x = true) : s_bit x = nI (bO (cO x)) := by
  obtain ⟨h1, h2⟩ := cO_hon hT h
  have := s_bit_nO (k := cO x) (by omega)
  rw [h1] at this
  exact this
theorem s_bit_own {T : Tb} {a b c : Int32} (hT : T.1 1 ≤ 4) (h : s_turn T a b c = true) : s_bit a ||| s_bit b ||| s_bit c = nI (s_own a b c) := by
  obtain ⟨g1, g2, g3⟩ := turn_hon h
  have ga : t_hon T a = true := by unfold t_hon; rw [g1, Bool.or_true]
  rw [s_bit_hon hT ga, s_bit_hon hT g2, s_bit_hon hT g3, nI_or, nI_or]
  rfl
