/-! aids: A.1 0 kind, 1 how many columns in turn, 2 set (bits), 3 column, 4 low, 5 high, 6 built, 7 own (bits); A.2 i: the i-th column -/
abbrev Ad : Type := (Nat → Nat) × (Nat → Nat)
def a_by (A : Ad) (j : Nat) : Nat := if j < A.1 1 then A.2 j + 1 else 0
def isO1 (G : x_G) (lo : x_L) (co : x_C) (b tb : Nat) (A : Ad) : Prop := co b = some (.inr (1, [.int (nI (A.1 7)), .ref (lo (b + 1)), .int (nI (A.1 0)), .ref (lo tb), .int (nI (A.1 6))])) ∧ co (b + 1) = some (.inl (G.2 0, 3, .inl (fun j => nO (a_by A j))))
def isO2 (G : x_G) (lo : x_L) (co : x_C) (b tb : Nat) (A : Ad) : Prop := co b = some (.inr (2, [.int (nI (A.1 7)), .ref (lo (b + 1)), .int (nI (A.1 0)), .ref (lo tb), .int (nI (A.1 6)), .int (nI (A.1 2))])) ∧ co (b + 1) = some (.inl (G.2 0, 3, .inl (fun j => nO (a_by A j))))
def isO3 (G : x_G) (lo : x_L) (co : x_C) (b tb : Nat) (A : Ad) : Prop := co b = some (.inr (3, [.int (nI (A.1 7)), .ref (lo (b + 1)), .int (nI (A.1 0)), .ref (lo tb), .int (nI (A.1 6))])) ∧ co (b + 1) = some (.inl (G.2 0, 3, .inl (fun j => nO (a_by A j))))
def isO4 (G : x_G) (lo : x_L) (co : x_C) (b tb : Nat) (A : Ad) : Prop := co b = some (.inr (4, [.int (nI (A.1 7)), .ref (lo (b + 1)), .int (nI (A.1 0)), .ref (lo tb), .int (nI (A.1 6)), .int (nI (A.1 3)), .int (nI (A.1 4)), .int (nI (A.1 5))])) ∧ co (b + 1) = some (.inl (G.2 0, 3, .inl (fun j => nO (a_by A j))))
def isO7 (G : x_G) (lo : x_L) (co : x_C) (b tb : Nat) (A : Ad) : Prop := co b = some (.inr (7, [.int (nI (A.1 0)), .ref (lo tb), .int (nI (A.1 6)), .int (nI (A.1 2)), .int (nI (A.1 3))]))
def pop (n : Nat) : Nat := cntN 12 (fun k => n.testBit k)
def Aok (T : Tb) (A : Ad) : Prop := A.1 0 ≤ 4 ∧ A.1 1 ≤ 3 ∧ (∀ i, i < A.1 1 → A.2 i < T.1 1) ∧ A.1 2 < 16 ∧ A.1 7 < 16 ∧ (A.1 0 = 2 ∨ A.1 0 = 3 → A.1 3 < T.1 1) ∧ A.1 4 ≤ 999 ∧ A.1 5 ≤ 999 ∧ A.1 6 ≤ 1 ∧ (A.1 0 = 1 → ∃ x, x < 16 ∧ nI (A.1 2) &&& (nI (A.1 7) ^^^ (-1)) = nI x ∧ pop x + A.1 1 = pop (A.1 2)) ∧ (A.1 0 = 3 → A.1 1 = 0)
def a_lead (Q : Qn) (A : Ad) : Nat := if q_like Q (a_by A 0) = true then (if q_like Q (a_by A 1) = true then (if q_like Q (a_by A 2) = true then 3 else 2) else 1) else 0
def a_uses (Q : Qn) (A : Ad) : Nat := if a_lead Q A < 3 ∧ q_t Q (a_by A (a_lead Q A)) = true then a_lead Q A + 1 else a_lead Q A
def a_rows (T : Tb) (A : Ad) : Nat := if A.1 0 = 2 then t_pass T (T.1 5) (A.1 3) (A.1 4) (A.1 5) else T.1 5
def a_fold (T : Tb) (Q : Qn) (A : Ad) (m : Nat) : Nat → Nat
  | 0 => m
  | i + 1 => q_pass T Q (a_fold T Q A m i) (a_by A i)
def a_mat (T : Tb) (Q : Qn) (A : Ad) : Nat := a_fold T Q A (a_rows T A) (a_uses Q A)
def a_cov (Q : Qn) (A : Ad) : Bool := decide (A.1 0 = 1) && decide ((nI (q_touch Q) &&& (nI (A.1 2) ^^^ (-1))) = 0)
def a_space (T : Tb) (A : Ad) : Nat := if A.1 0 = 1 then s_up (T.1 5 * (1 + pop (A.1 2) - A.1 1)) (2 * T.1 2) else if A.1 0 = 3 then s_up (t_groups T (A.1 2)) (2 * T.1 2) else if A.1 0 = 4 then 0 else s_up (a_rows T A) (2 * T.1 2)
def a_keep (A : Ad) : Nat := if A.1 0 = 1 then 3 else if A.1 0 = 2 then 1 else if A.1 0 = 4 then 4 else 2
def a_helps (Q : Qn) (A : Ad) : Bool := if A.1 0 = 2 then q_in Q (A.1 3) (A.1 4) (A.1 5) else if A.1 0 = 3 then (decide (Q.1 0 = 0) && decide (Q.1 3 = A.1 3 + 1) && decide ((nI (Q.1 2) &&& (nI (A.1 2) ^^^ (-1))) = 0)) else decide (0 < a_uses Q A)
def a_ent (T : Tb) (A : Ad) : Nat := if A.1 0 = 4 then T.1 2 else 2 * T.1 2
def a_cost (T : Tb) (Q : Qn) (A : Ad) : Nat := if A.1 0 = 3 then 1 + s_up (t_groups T (A.1 2)) (2 * T.1 2) else 1 + s_up (a_mat T Q A) (a_ent T A) + (if A.1 0 = 4 ∨ a_cov Q A = true then 0 else min (a_mat T Q A) (s_up (T.1 5) (T.1 2)))
def a_hit (T : Tb) (Q : Qn) (A : Ad) (r : Nat) : Bool := (!decide (A.1 0 = 2) || (decide (A.1 4 ≤ t_v T r (A.1 3)) && decide (t_v T r (A.1 3) ≤ A.1 5))) && allN (a_uses Q A) (fun i => q_pat T Q r (a_by A i))
/-- rows hit, pages met, the latest page and 1 -/
def a_run (T : Tb) (Q : Qn) (A : Ad) : Nat → Nat × Nat × Nat
  | 0 => (0, 0, 0)
  | r + 1 => if a_hit T Q A r = true then ((a_run T Q A r).1 + 1, (a_run T Q A r).2.1 + (if r / T.1 2 + 1 = (a_run T Q A r).2.2 then 0 else 1), r / T.1 2 + 1) else a_run T Q A r
def a_fetch (T : Tb) (Q : Qn) (A : Ad) : Nat := if A.1 0 = 3 then 1 + s_up (t_unl T (A.1 2)) (2 * T.1 2) else 1 + s_up (a_run T Q A (T.1 3)).1 (a_ent T A) + (if A.1 0 = 4 ∨ a_cov Q A = true then 0 else (a_run T Q A (T.1 3)).2.1)
theorem a_lead_eq {Q : Qn} {A : Ad} {k : Nat} (hk : k ≤ 3) (h : ∀ j, j < k → q_like Q (a_by A j) = true) (h2 : k = 3 ∨ q_like Q (a_by A k) = false) : a_lead Q A = k := by
  unfold a_lead
  rcases (show k = 0 ∨ k = 1 ∨ k = 2 ∨ k = 3 by omega) with e | e | e | e <;> subst e
  · simp at h2; simp [h2]
  · simp at h2; simp [h 0 (by omega), h2]
  · simp at h2; simp [h 0 (by omega), h 1 (by omega), h2]
  · simp [h 0 (by omega), h 1 (by omega), h 2 (by omega)]
theorem a_lead_le (Q : Qn) (A : Ad) : a_lead Q A ≤ 3 := by unfold a_lead; split <;> (try split) <;> (try split) <;> omega
theorem a_uses_le (Q : Qn) (A : Ad) : a_uses Q A ≤ 3 := by
  have := a_lead_le Q A
  unfold a_uses; split <;> omega
theorem a_by_le {T : Tb} {A : Ad} (hT : Tok T) (hA : Aok T A) (j : Nat) : a_by A j ≤ 4 := by
  unfold a_by; split
  · next h => have := hA.2.2.1 j h; have := hT.2.1; omega
  · omega
theorem a_rows_le {T : Tb} {A : Ad} (hT : Tok T) (hA : Aok T A) : a_rows T A ≤ T.1 5 := by
  unfold a_rows; split
  · next h => exact t_pass_le hT (hA.2.2.2.2.2.1 (Or.inl h))
  · exact Nat.le_refl _
theorem a_fold_le {T : Tb} {Q : Qn} {A : Ad} (hT : Tok T) (hQ : Qok T Q) (m : Nat) : ∀ i, a_fold T Q A m i ≤ m
  | 0 => Nat.le_refl m
  | i + 1 => Nat.le_trans (q_pass_le hT hQ _ _) (a_fold_le hT hQ m i)
theorem a_mat_le {T : Tb} {Q : Qn} {A : Ad} (hT : Tok T) (hQ : Qok T Q) (hA : Aok T A) : a_mat T Q A ≤ 60 := by
  have h1 := a_fold_le (A := A) hT hQ (a_rows T A) (a_uses Q A)
  have h2 := a_rows_le hT hA
  have h3 := hT.2.2.2.2.2.2.1
  unfold a_mat; omega
theorem a_run_le (T : Tb) (Q : Qn) (A : Ad) : ∀ r, (a_run T Q A r).1 ≤ r ∧ (a_run T Q A r).2.1 ≤ r ∧ (a_run T Q A r).2.2 ≤ r + 1
  | 0 => ⟨Nat.le_refl 0, Nat.le_refl 0, Nat.zero_le _⟩
  | r + 1 => by
    obtain ⟨h1, h2, h3⟩ := a_run_le T Q A r
    rw [a_run]
    split
    · refine ⟨by show _ + 1 ≤ _; omega, ?_, ?_⟩
      · show _ + (if _ then 0 else 1) ≤ _
        split <;> omega
      · show r / T.1 2 + 1 ≤ _
        have := Nat.div_le_self r (T.1 2)
        omega
    · exact ⟨by omega, by omega, by omega⟩
theorem s_up_60 {n d : Nat} (hd : 0 < d) (h : n ≤ 60) : s_up n d ≤ 60 := Nat.le_trans (s_up_le hd) h
theorem pop_le (n : Nat) : pop n ≤ 12 := cntN_le 12
theorem nO_eq (x y : Nat) (hx : x < 2 ^ 31) (hy : y < 2 ^ 31) : nI x = nO y ↔ x + 1 = y := by
  cases y with
  | zero =>
    refine ⟨fun h => ?_, fun h => by omega⟩
    exact absurd (show nI x < 0 from h ▸ (show nO 0 < 0 by decide)) (nI_pos hx)
  | succ y => exact (nI_eq hx (by omega)).trans (by omega)
theorem nO_eq2 {x y : Nat} (hx : x < 2 ^ 31) (hy : y < 2 ^ 31) : nO y = nI x ↔ y = x + 1 := by
  rw [eq_comm, nO_eq x y hx hy, eq_comm]
def bc_e (i0 : Int32) : Int32 :=
  let i1 := i0 - ((i0.toUInt32 >>> ((nI 1).toUInt32 &&& Int32.toUInt32 31)).toInt32 &&& 1431655765)
  let i2 := (i1 &&& 858993459) + ((i1.toUInt32 >>> ((nI 2).toUInt32 &&& Int32.toUInt32 31)).toInt32 &&& 858993459)
  let i3 := (i2 + (i2.toUInt32 >>> ((nI 4).toUInt32 &&& Int32.toUInt32 31)).toInt32) &&& 252645135
  let i4 := i3 + (i3.toUInt32 >>> ((nI 8).toUInt32 &&& Int32.toUInt32 31)).toInt32
  let i5 := i4 + (i4.toUInt32 >>> ((nI 16).toUInt32 &&& Int32.toUInt32 31)).toInt32
  i5 &&& nI 63
theorem bc_ok2 : ∀ a : Fin 64, ∀ b : Fin 64, bc_e (nI (64 * a.val + b.val)) = nI (pop (64 * a.val + b.val)) := by decide +kernel
theorem bc_ok : ∀ n : Fin 4096, bc_e (nI n.val) = nI (pop n.val) := fun n => by
  have h := bc_ok2 ⟨n.val / 64, by omega⟩ ⟨n.val % 64, by omega⟩
  rw [show 64 * (n.val / 64) + n.val % 64 = n.val from by omega] at h
  exact h
section XW5
variable {p : Program} {l : Launch} {e : Env} {R : Room} {s : State} {m : MethodId} {args : Array Value} {below : List Frame} {meth : Method} {c : Code} {H : Heap} {locs : List Loc} {cells slots : Nat} {Q : State → Prop}
variable {cc : ByteArray} {pc : Nat} {ls : Array Slot} {rest : List Value} {nL : Nat} {own : String}
theorem x_icmpNO_ne {a b : Nat} {off : Int} {tgt : Nat} (cx : CallFix p m c cc nL s args x_gw own) (hdg : decode cc pc = .ok (.if_icmp .ne off, 3)) (ht : (pc : Int) + off = (tgt : Int)) (h : a < 2 ^ 31 ∧ b < 2 ^ 31)
    (kt : ¬ a + 1 = b → W p l e R s m args below meth c H locs cells slots Q (F0 m tgt ls rest)) (kf : a + 1 = b → W p l e R s m args below meth c H locs cells slots Q (F0 m (pc + 3) ls rest)) : W p l e R s m args below meth c H locs cells slots Q (F0 m pc ls (.int (nO b) :: .int (nI a) :: rest)) :=
  lv_icmp_ne cx.1 cx.2.1 hdg ht (fun q => kt (fun w => q ((nO_eq a b h.1 h.2).mpr w))) (fun q => kf ((nO_eq a b h.1 h.2).mp q))
theorem x_icmpON_ne {a b : Nat} {off : Int} {tgt : Nat} (cx : CallFix p m c cc nL s args x_gw own) (hdg : decode cc pc = .ok (.if_icmp .ne off, 3)) (ht : (pc : Int) + off = (tgt : Int)) (h : a < 2 ^ 31 ∧ b < 2 ^ 31)
    (kt : ¬ a = b + 1 → W p l e R s m args below meth c H locs cells slots Q (F0 m tgt ls rest)) (kf : a = b + 1 → W p l e R s m args below meth c H locs cells slots Q (F0 m (pc + 3) ls rest)) : W p l e R s m args below meth c H locs cells slots Q (F0 m pc ls (.int (nI b) :: .int (nO a) :: rest)) :=
  lv_icmp_ne cx.1 cx.2.1 hdg ht (fun q => kt (fun w => q ((nO_eq2 h.2 h.1).mpr w))) (fun q => kf ((nO_eq2 h.2 h.1).mp q))
theorem x_icmpNO_eq {a b : Nat} {off : Int} {tgt : Nat} (cx : CallFix p m c cc nL s args x_gw own) (hdg : decode cc pc = .ok (.if_icmp .eq off, 3)) (ht : (pc : Int) + off = (tgt : Int)) (h : a < 2 ^ 31 ∧ b < 2 ^ 31)
    (kt : a + 1 = b → W p l e R s m args below meth c H locs cells slots Q (F0 m tgt ls rest)) (kf : ¬ a + 1 = b → W p l e R s m args below meth c H locs cells slots Q (F0 m (pc + 3) ls rest)) : W p l e R s m args below meth c H locs cells slots Q (F0 m pc ls (.int (nO b) :: .int (nI a) :: rest)) :=
  lv_icmp_eq cx.1 cx.2.1 hdg ht (fun q => kt ((nO_eq a b h.1 h.2).mp q)) (fun q => kf (fun w => q ((nO_eq a b h.1 h.2).mpr w)))
theorem x_icmpON_eq {a b : Nat} {off : Int} {tgt : Nat} (cx : CallFix p m c cc nL s args x_gw own) (hdg : decode cc pc = .ok (.if_icmp .eq off, 3)) (ht : (pc : Int) + off = (tgt : Int)) (h : a < 2 ^ 31 ∧ b < 2 ^ 31)
    (kt : a = b + 1 → W p l e R s m args below meth c H locs cells slots Q (F0 m tgt ls rest)) (kf : ¬ a = b + 1 → W p l e R s m args below meth c H locs cells slots Q (F0 m (pc + 3) ls rest)) : W p l e R s m args below meth c H locs cells slots Q (F0 m pc ls (.int (nI b) :: .int (nO a) :: rest)) :=
  lv_icmp_eq cx.1 cx.2.1 hdg ht (fun q => kt ((nO_eq2 h.2 h.1).mp q)) (fun q => kf (fun w => q ((nO_eq2 h.2 h.1).mpr w)))
end XW5
