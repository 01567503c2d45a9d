/-- a table that isn't told: all 0 -/
def Tz (T : Tb) : Prop := (∀ i, 1 ≤ i → T.1 i = 0) ∧ ∀ i j, T.2 i j = 0
theorem upd_eq {f g : Nat → Int32} {k : Nat} {x : Int32} (h : ∀ j, g j = if j = k then x else f j) : upd f k x = g := by
  funext j; rw [h j]; rfl
/-- a row by tables, one table changed in the field that the row shows -/
theorem row_t {S : St} {t : Nat} {T : Tb} (g : Tb → Nat) {x : Int32} (hx : x = nI (g T)) : upd (fun j => nI (g (sT S j))) t x = fun j => nI (g (sT (setT S t T) j)) := by
  refine upd_eq (fun j => ?_)
  rw [sT_set]
  by_cases e : j = t
  · rw [if_pos e, if_pos e, hx]
  · rw [if_neg e, if_neg e]
/-- .. a row that doesn't show what has changed -/
theorem row_s {S : St} {t : Nat} {T : Tb} (g : Tb → Nat) (hg : g T = g (sT S t)) : (fun j => nI (g (sT S j))) = fun j => nI (g (sT (setT S t T) j)) := by
  funext j
  rw [sT_set]
  by_cases e : j = t
  · rw [if_pos e, hg, e]
  · rw [if_neg e]
theorem row_d {S : St} {t d : Nat} {T : Tb} (g : Tb → Nat → Nat) (hg : ∀ k, g T k = g (sT S t) k) : (fun j => nI (g (sT S (j / d)) (j % d))) = fun j => nI (g (sT (setT S t T) (j / d)) (j % d)) := by
  funext j
  rw [sT_set]
  by_cases e : j / d = t
  · rw [if_pos e, hg, e]
  · rw [if_neg e]
theorem wch {G : x_G} {lo : x_L} {S : St} {m : Nat → Nat → Int32} (t n : Nat) : mco G lo (nS S) (va_up (mS S m) 9 (upd (mS S m 9) t (nI n))) = mco G lo (nS (setT S t (va_up (sT S t).1 4 n, (sT S t).2))) (mS (setT S t (va_up (sT S t).1 4 n, (sT S t).2)) m) := by
  refine mco_ext rfl (tags_all ?_ ?_ ?_ ?_ ?_ ?_ ?_ ?_ ?_ ?_ ?_ ?_ ?_ ?_ ?_ ?_ ?_ ?_ ?_ ?_ ?_ ?_ ?_ ?_ ?_ ?_)
  · exact row_s (fun T => T.1 1) rfl
  · exact row_s (fun T => T.1 2) rfl
  · exact row_s (fun T => T.1 3) rfl
  · exact row_d (d := 240) (fun T k => T.2 0 k) (fun _ => rfl)
  · exact row_s (fun T => T.1 5) rfl
  · exact row_d (d := 4) (fun T k => T.2 1 k) (fun _ => rfl)
  · exact row_d (d := 4) (fun T k => T.2 2 k) (fun _ => rfl)
  · exact row_d (d := 4) (fun T k => T.2 3 k) (fun _ => rfl)
  · exact row_t (fun T => T.1 4) rfl
  all_goals rfl
theorem wtb {G : x_G} {lo : x_L} {S : St} {m : Nat → Nat → Int32} (t c p : Nat) (hz : Tz (sT S t)) : mco G lo (nS S) (va_up (va_up (mS S m) 1 (upd (mS S m 1) t (nI c))) 2 (upd (va_up (mS S m) 1 (upd (mS S m 1) t (nI c)) 2) t (nI p))) = mco G lo (nS (setT S t (newT t c p))) (mS (setT S t (newT t c p)) m) := by
  refine mco_ext rfl (tags_all ?_ ?_ ?_ ?_ ?_ ?_ ?_ ?_ ?_ ?_ ?_ ?_ ?_ ?_ ?_ ?_ ?_ ?_ ?_ ?_ ?_ ?_ ?_ ?_ ?_ ?_)
  · exact row_t (fun T => T.1 1) rfl
  · exact row_t (fun T => T.1 2) rfl
  · exact row_s (fun T => T.1 3) (hz.1 3 (by decide)).symm
  · exact row_d (d := 240) (fun T k => T.2 0 k) (fun k => (hz.2 0 k).symm)
  · exact row_s (fun T => T.1 5) (hz.1 5 (by decide)).symm
  · exact row_d (d := 4) (fun T k => T.2 1 k) (fun k => (hz.2 1 k).symm)
  · exact row_d (d := 4) (fun T k => T.2 2 k) (fun k => (hz.2 2 k).symm)
  · exact row_d (d := 4) (fun T k => T.2 3 k) (fun k => (hz.2 3 k).symm)
  · exact row_s (fun T => T.1 4) (hz.1 4 (by decide)).symm
  all_goals rfl
