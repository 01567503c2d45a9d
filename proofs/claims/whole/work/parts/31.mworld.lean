/-! the reference's world as a function of its ints n and its rows M -/
def m_len : Nat → Nat
  | 1 => 4
  | 2 => 4
  | 3 => 4
  | 4 => 960
  | 5 => 4
  | 6 => 16
  | 7 => 16
  | 8 => 16
  | 9 => 4
  | 11 => 24
  | 12 => 24
  | 13 => 24
  | 14 => 24
  | 15 => 96
  | 16 => 96
  | 17 => 96
  | 20 => 12
  | 21 => 12
  | 22 => 12
  | 23 => 36
  | 24 => 12
  | 25 => 12
  | 26 => 12
  | 27 => 12
  | 28 => 312
  | 29 => 12
  | _ => 0
def m_obj (lo : x_L) (n : Nat → Int32) : List Value := [.ref (lo 1), .ref (lo 2), .ref (lo 3), .ref (lo 4), .ref (lo 5), .ref (lo 6), .ref (lo 7), .ref (lo 8), .ref (lo 9), .int (n 0), .ref (lo 11), .ref (lo 12), .ref (lo 13), .ref (lo 14), .ref (lo 15), .ref (lo 16), .ref (lo 17), .int (n 1), .int (n 2), .ref (lo 20), .ref (lo 21), .ref (lo 22), .ref (lo 23), .ref (lo 24), .ref (lo 25), .ref (lo 26), .ref (lo 27), .ref (lo 28), .ref (lo 29)]
def mco (G : x_G) (lo : x_L) (n : Nat → Int32) (M : Nat → Nat → Int32) : x_C := fun i => if i = 0 then some (.inr (10, m_obj lo n)) else if m_len i = 0 then none else some (.inl (G.2 (if i = 15 then 1 else 0), m_len i, .inl (M i)))
def mS (S : St) (m : Nat → Nat → Int32) : Nat → Nat → Int32
  | 1, j => nI ((sT S j).1 1)
  | 2, j => nI ((sT S j).1 2)
  | 3, j => nI ((sT S j).1 3)
  | 4, j => nI ((sT S (j / 240)).2 0 (j % 240))
  | 5, j => nI ((sT S j).1 5)
  | 6, j => nI ((sT S (j / 4)).2 1 (j % 4))
  | 7, j => nI ((sT S (j / 4)).2 2 (j % 4))
  | 8, j => nI ((sT S (j / 4)).2 3 (j % 4))
  | 9, j => nI ((sT S j).1 4)
  | 11, j => nI (qt S j)
  | 12, j => nI ((qQ S j).1 0)
  | 13, j => nO ((qQ S j).1 3)
  | 14, j => nI ((qQ S j).1 1)
  | 15, j => bI (((qQ S (j / 4)).1 2).testBit (j % 4))
  | 16, j => nI ((qQ S (j / 4)).2 0 (j % 4))
  | 17, j => nI ((qQ S (j / 4)).2 1 (j % 4))
  | 20, j => nI ((aA S j).1 0)
  | 21, j => nI (ao S j)
  | 22, j => nI ((aA S j).1 1)
  | 23, j => m 0 j
  | 24, j => nI ((aA S j).1 2)
  | 25, j => m 1 j
  | 26, j => nI ((aA S j).1 4)
  | 27, j => nI ((aA S j).1 5)
  | 28, j => m 2 j
  | 29, j => m 3 j
  | _, _ => 0
def nS (S : St) : Nat → Int32 := fun k => nI (sn S k)
theorem m_isM (G : x_G) (lo : x_L) (S : St) (m : Nat → Nat → Int32) : isM G lo (mco G lo (nS S) (mS S m)) S m := by
  refine ⟨rfl, fun i e h => ?_⟩
  unfold m_ar at h
  split at h <;> first | (cases h; rfl) | (exact absurd h (by simp))
theorem mco_dom {G : x_G} {lo : x_L} {n n' : Nat → Int32} {M M' : Nat → Nat → Int32} {i : Nat} (h : mco G lo n M i ≠ none) : mco G lo n' M' i ≠ none := by
  unfold mco at h ⊢
  by_cases h0 : i = 0
  · rw [if_pos h0]; exact fun q => by cases q
  · rw [if_neg h0] at h ⊢
    by_cases h1 : m_len i = 0
    · rw [if_pos h1] at h; exact absurd rfl h
    · rw [if_neg h1]; exact fun q => by cases q
theorem mco_up {G : x_G} {lo : x_L} {n : Nat → Int32} {M : Nat → Nat → Int32} {i : Nat} {f : Nat → Int32} (h0 : i ≠ 0) (h1 : m_len i ≠ 0) : va_up (mco G lo n M) i (some (.inl (G.2 (if i = 15 then 1 else 0), m_len i, .inl f))) = mco G lo n (va_up M i f) := by
  funext j
  by_cases e : j = i
  · subst e
    rw [va_up_self]; unfold mco; rw [if_neg h0, if_neg h1, va_up_self]
  · rw [va_up_ne _ _ e]; unfold mco; rw [va_up_ne _ _ e]
theorem mco_un {G : x_G} {lo : x_L} {n : Nat → Int32} {M : Nat → Nat → Int32} {fs : List Value} {n' : Nat → Int32} (h : fs = m_obj lo n') : va_up (mco G lo n M) 0 (some (.inr (10, fs))) = mco G lo n' M := by
  funext j
  by_cases e : j = 0
  · subst e
    rw [va_up_self, h]; rfl
  · rw [va_up_ne _ _ e]; unfold mco; rw [if_neg e, if_neg e]
theorem va_up_up {α : Type} (f : Nat → α) (k : Nat) (v w : α) : va_up (va_up f k v) k w = va_up f k w := bx_uu f k v w
theorem va_up_id {α : Type} (f : Nat → α) (k : Nat) : va_up f k (f k) = f := by
  funext j
  by_cases e : j = k
  · subst e; rw [va_up_self]
  · rw [va_up_ne _ _ e]
section XW10
variable {p : Program} {l : Launch} {e : Env} {R : Room} {s : State} {m : MethodId} {args : Array Value} {below : List Frame} {meth : Method} {c : Code} {H : Heap} {locs : List Loc} {cells slots : Nat} {Q : State → Prop}
variable {cc : ByteArray} {pc : Nat} {ls : Array Slot} {rest : List Value} {G : x_G} {lo : x_L} {n : Nat → Int32} {M : Nat → Nat → Int32} {nL : Nat} {own : String} {A : Nat → Prop} {H0 : Heap}
theorem y_ist {x : Int32} {k : Nat} (i L : Nat) (hi : i ≠ 0 ∧ i ≠ 15 ∧ m_len i = L ∧ L ≠ 0 ∧ L < 2 ^ 31) (cx : CallFix p m c cc nL s args x_gw own) (hk : x_K G s) (hW : x_D A G H0 lo (mco G lo n M) H locs) (hin : k < L) (hdg : decode cc pc = .ok (.iastore, 1))
    (kk : ∀ (H1 : Heap) (locs1 : List Loc), x_D A G H0 lo (mco G lo n (va_up M i (upd (M i) k x))) H1 locs1 → W p l e R s m args below meth c H1 locs1 cells slots Q (F0 m (pc + 1) ls rest)) : W p l e R s m args below meth c H locs cells slots Q (F0 m pc ls (.int x :: .int (nI k) :: .ref (lo i) :: rest)) := by
  obtain ⟨h0, h15, hL, hz, h31⟩ := hi
  subst hL
  refine x_iast (t := i) (n := m_len i) (f := M i) cx hk hW (by unfold mco; rw [if_neg h0, if_neg hz, if_neg h15]) (vp_in_nI hin h31) hdg fun H1 locs1 h => ?_
  rw [nI_clamp (Nat.lt_trans hin h31)] at h
  refine kk H1 locs1 ?_
  rw [← mco_up h0 hz, if_neg h15]
  exact h
theorem y_zst {x : Int32} {k : Nat} (b : Bool) (cx : CallFix p m c cc nL s args x_gw own) (hk : x_K G s) (hW : x_D A G H0 lo (mco G lo n M) H locs) (hin : k < 96) (hx : x = bI b) (hdg : decode cc pc = .ok (.bastore, 1))
    (kk : ∀ (H1 : Heap) (locs1 : List Loc), x_D A G H0 lo (mco G lo n (va_up M 15 (upd (M 15) k (bI b)))) H1 locs1 → W p l e R s m args below meth c H1 locs1 cells slots Q (F0 m (pc + 1) ls rest)) : W p l e R s m args below meth c H locs cells slots Q (F0 m pc ls (.int x :: .int (nI k) :: .ref (lo 15) :: rest)) := by
  refine x_zast (t := 15) (n := 96) (f := M 15) b cx hk hW rfl (vp_in_nI hin (by decide)) hx hdg fun H1 locs1 h => ?_
  rw [nI_clamp (by omega)] at h
  refine kk H1 locs1 ?_
  rw [← mco_up (i := 15) (by decide) (by decide)]
  exact h
theorem y_pt {x : Int32} {index k : Nat} (j : Nat) (hj : (m_obj lo n).set k (.int x) = m_obj lo (va_up n j x)) (hl : k < 29) (cx : CallFix p m c cc nL s args x_gw own) (hk : x_K G s) (hW : x_D A G H0 lo (mco G lo n M) H locs) (hF : x_P own index 10 k false .int) (hdg : decode cc pc = .ok (.putfield index, 3))
    (kk : ∀ (H1 : Heap) (locs1 : List Loc), x_D A G H0 lo (mco G lo (va_up n j x) M) H1 locs1 → W p l e R s m args below meth c H1 locs1 cells slots Q (F0 m (pc + 3) ls rest)) : W p l e R s m args below meth c H locs cells slots Q (F0 m pc ls (.int x :: .ref (lo 0) :: rest)) := by
  refine x_put (t := 0) cx hk hW (show mco G lo n M 0 = some (.inr (10, m_obj lo n)) from rfl) hF (fun q => by cases q) hl rfl rfl hdg fun H1 locs1 h => ?_
  rw [hj, mco_un (n' := va_up n j x) rfl] at h
  exact kk H1 locs1 h
end XW10
def m_post (G : x_G) (lo : x_L) (S : St) (v0 : Option Value) : Option Value → x_L → x_C → Prop := fun v lo' co' => v = v0 ∧ lo' = lo ∧ ∃ m', Mok S m' ∧ co' = mco G lo (nS S) (mS S m')
