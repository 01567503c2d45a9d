/-! the desk: its tags, its world -/
def tT (t : Nat) : Nat := 100 + 10 * t
def tQ (q : Nat) : Nat := 200 + 10 * q
def tA (a : Nat) : Nat := 500 + 10 * a
def tC (a : Nat) : Nat := 20 + a
def tL (a : Nat) : Nat := 40 + a
/-- apart -/
def x_J (lo : x_L) (co : x_C) : Prop := ∀ t u, co t ≠ none → co u ≠ none → lo t = lo u → t = u
/-- a list of n elements at tag b, its row at tag d; dd: where the empty row of all lists lies -/
def isL (G : x_G) (lo : x_L) (co : x_C) (dd b d n : Nat) (f : Nat → Nat) : Prop := ∃ mc : Int32, (n = 0 ∧ co b = some (.inr (0, [.int mc, .ref dd, .int (nI n)])) ∧ co d = none) ∨ ∃ (cap : Nat) (g : Nat → Option Nat), n ≤ cap ∧ 10 ≤ cap ∧ cap ≤ 34 ∧ (∀ i, i < n → g i = some (f i)) ∧ co b = some (.inr (0, [.int mc, .ref (lo d), .int (nI n)])) ∧ co d = some (.inl (G.2 3, cap, .inr (.inr (.inr (.inr g)))))
theorem isL.obj {G : x_G} {lo : x_L} {co : x_C} {dd b d n : Nat} {f : Nat → Nat} (h : isL G lo co dd b d n f) : ∃ (mc : Int32) (e : Value), co b = some (.inr (0, [.int mc, e, .int (nI n)])) := by
  obtain ⟨mc, ⟨-, h, -⟩ | ⟨cap, g, -, -, -, -, h, -⟩⟩ := h
  · exact ⟨mc, _, h⟩
  · exact ⟨mc, _, h⟩
theorem isL.row {G : x_G} {lo : x_L} {co : x_C} {dd b d n : Nat} {f : Nat → Nat} (h : isL G lo co dd b d n f) (hn : 0 < n) : ∃ (mc : Int32) (cap : Nat) (g : Nat → Option Nat), n ≤ cap ∧ cap ≤ 34 ∧ (∀ i, i < n → g i = some (f i)) ∧ co b = some (.inr (0, [.int mc, .ref (lo d), .int (nI n)])) ∧ co d = some (.inl (G.2 3, cap, .inr (.inr (.inr (.inr g))))) := by
  obtain ⟨mc, ⟨h, -, -⟩ | ⟨cap, g, h1, -, h3, h4, h5, h6⟩⟩ := h
  · omega
  · exact ⟨mc, cap, g, h1, h3, h4, h5, h6⟩
/-- an aid of any kind -/
def isAd (G : x_G) (lo : x_L) (co : x_C) (b tb : Nat) (A : Ad) : Prop := (A.1 0 = 4 ∧ isO1 G lo co b tb A) ∨ (A.1 0 = 1 ∧ isO2 G lo co b tb A) ∨ (A.1 0 = 0 ∧ isO3 G lo co b tb A) ∨ (A.1 0 = 2 ∧ isO4 G lo co b tb A) ∨ (A.1 0 = 3 ∧ isO7 G lo co b tb A)
/-- the class holds 'built' in the aid itself -/
def bA (S : St) (a : Nat) : Ad := (va_up (aA S a).1 6 (if (sn S 2).testBit a = true then 1 else 0), (aA S a).2)
/-- the scales: X.1 0 how many questions, 1 aids, 2 best; X.2.1 the best's cost; rows: X.2.2 0 weights, 1 spaces, 2 upkeep, 3 rivals, 20 + a costs, 40 + a least -/
abbrev Sc : Type := (Nat → Int32) × Int64 × (Nat → Nat → Int32)
def isSc (G : x_G) (lo : x_L) (co : x_C) (X : Sc) : Prop := co 6 = some (.inr (6, [.int (X.1 0), .int (X.1 1), .ref (lo 7), .ref (lo 8), .ref (lo 9), .ref (lo 10), .ref (lo 11), .ref (lo 12), .int (X.1 2), .long X.2.1])) ∧ co 7 = some (.inl (G.2 0, 24, .inl (X.2.2 0))) ∧ (∃ f : Nat → Option Nat, co 8 = some (.inl (G.2 4, 12, .inr (.inr (.inr (.inr f))))) ∧ ∀ a, a < 12 → f a = some (lo (tC a))) ∧ co 9 = some (.inl (G.2 0, 12, .inl (X.2.2 1))) ∧ co 10 = some (.inl (G.2 0, 12, .inl (X.2.2 2))) ∧ co 11 = some (.inl (G.2 0, 12, .inl (X.2.2 3))) ∧ (∃ f : Nat → Option Nat, co 12 = some (.inl (G.2 4, 13, .inr (.inr (.inr (.inr f))))) ∧ ∀ a, a < 13 → f a = some (lo (tL a))) ∧ (∀ a, a < 12 → co (tC a) = some (.inl (G.2 0, 24, .inl (X.2.2 (20 + a))))) ∧ ∀ a, a < 13 → co (tL a) = some (.inl (G.2 0, 24, .inl (X.2.2 (40 + a))))
def isDk (G : x_G) (lo : x_L) (co : x_C) (dd : Nat) (S : St) (X : Sc) : Prop :=
  co 0 = some (.inr (9, [.ref (lo 1), .ref (lo 2), .ref (lo 4), .ref (lo 6)])) ∧ (∃ f : Nat → Option Nat, co 1 = some (.inl (G.2 2, 4, .inr (.inr (.inr (.inr f))))) ∧ ∀ t, t < 4 → f t = if 0 < (sT S t).1 1 then some (lo (tT t)) else none) ∧
  isL G lo co dd 2 3 (sn S 0) (fun q => lo (tQ q)) ∧ isL G lo co dd 4 5 (sn S 1) (fun a => lo (tA a)) ∧ isSc G lo co X ∧
  (∀ t, t < 4 → 0 < (sT S t).1 1 → isTb G lo co (tT t) (sT S t)) ∧ (∀ q, q < sn S 0 → isQn G lo co (tQ q) (tT (qt S q)) (qQ S q)) ∧ (∀ a, a < sn S 1 → isAd G lo co (tA a) (tT (ao S a)) (bA S a)) ∧
  (∀ t, t < 4 → (sT S t).1 1 = 0 → ∀ i, i < 5 → co (tT t + i) = none) ∧ (∀ q, sn S 0 ≤ q → q < 24 → ∀ i, i < 3 → co (tQ q + i) = none) ∧ (∀ a, sn S 1 ≤ a → a < 12 → ∀ i, i < 2 → co (tA a + i) = none)
theorem aok_bA {S : St} {T : Tb} {a : Nat} (h : Aok T (aA S a)) : Aok T (bA S a) := by
  obtain ⟨m1, m2, m3, m4, m5, m6, m7, m8, m9, m10, m11⟩ := h
  refine ⟨m1, m2, m3, m4, m5, m6, m7, m8, ?_, m10, m11⟩
  show (if (sn S 2).testBit a = true then 1 else 0) ≤ 1
  split <;> omega
theorem by_bA (S : St) (a j : Nat) : a_by (bA S a) j = a_by (aA S a) j := rfl
theorem lead_bA (S : St) (a : Nat) (Q : Qn) : a_lead Q (bA S a) = a_lead Q (aA S a) := rfl
theorem uses_bA (S : St) (a : Nat) (Q : Qn) : a_uses Q (bA S a) = a_uses Q (aA S a) := rfl
theorem rows_bA (S : St) (a : Nat) (T : Tb) : a_rows T (bA S a) = a_rows T (aA S a) := rfl
theorem fold_bA (S : St) (a : Nat) (T : Tb) (Q : Qn) (m : Nat) : ∀ i, a_fold T Q (bA S a) m i = a_fold T Q (aA S a) m i
  | 0 => rfl
  | i + 1 => by rw [a_fold, a_fold, fold_bA S a T Q m i, by_bA]
theorem mat_bA (S : St) (a : Nat) (T : Tb) (Q : Qn) : a_mat T Q (bA S a) = a_mat T Q (aA S a) := by unfold a_mat; rw [uses_bA, rows_bA, fold_bA]
theorem cov_bA (S : St) (a : Nat) (Q : Qn) : a_cov Q (bA S a) = a_cov Q (aA S a) := rfl
theorem ent_bA (S : St) (a : Nat) (T : Tb) : a_ent T (bA S a) = a_ent T (aA S a) := rfl
theorem cost_bA (S : St) (a : Nat) (T : Tb) (Q : Qn) : a_cost T Q (bA S a) = a_cost T Q (aA S a) := by unfold a_cost; rw [mat_bA, cov_bA, ent_bA]; rfl
theorem space_bA (S : St) (a : Nat) (T : Tb) : a_space T (bA S a) = a_space T (aA S a) := rfl
theorem keep_bA (S : St) (a : Nat) : a_keep (bA S a) = a_keep (aA S a) := rfl
theorem helps_bA (S : St) (a : Nat) (Q : Qn) : a_helps Q (bA S a) = a_helps Q (aA S a) := by unfold a_helps; rw [uses_bA]; rfl
theorem hit_bA (S : St) (a : Nat) (T : Tb) (Q : Qn) (r : Nat) : a_hit T Q (bA S a) r = a_hit T Q (aA S a) r := by unfold a_hit; rw [uses_bA]; rfl
theorem run_bA (S : St) (a : Nat) (T : Tb) (Q : Qn) : ∀ r, a_run T Q (bA S a) r = a_run T Q (aA S a) r
  | 0 => rfl
  | r + 1 => by rw [a_run, a_run, run_bA S a T Q r, hit_bA]
theorem fetch_bA (S : St) (a : Nat) (T : Tb) (Q : Qn) : a_fetch T Q (bA S a) = a_fetch T Q (aA S a) := by unfold a_fetch; rw [run_bA, ent_bA, cov_bA]; rfl
theorem kind_bA (S : St) (a : Nat) : (bA S a).1 0 = (aA S a).1 0 := rfl
theorem blt_bA (S : St) (a : Nat) : (bA S a).1 6 = if (sn S 2).testBit a = true then 1 else 0 := rfl
