def rc_u (T : Tb) (c r : Nat) : Nat := cntN r (fun r => allN r (fun q => !decide (t_v T q c = t_v T r c)))
def rc_l (T : Tb) (c r : Nat) : Nat := if r = 0 then 0 else t_min T c r
def rc_g (T : Tb) (c r : Nat) : Nat := if r = 0 then 0 else t_max T c r
def recT (T : Tb) : Tb := (va_up T.1 5 (T.1 3), fun i c => if c < T.1 1 then (if i = 1 then rc_u T c (T.1 3) else if i = 2 then rc_l T c (T.1 3) else if i = 3 then rc_g T c (T.1 3) else T.2 i c) else T.2 i c)
def P_recount (S : St) (t : Int32) : Int32 × St := if m_isT S t = true then (nI ((sT S t.toNatClampNeg).1 3), setT S t.toNatClampNeg (recT (sT S t.toNatClampNeg))) else (-1, S)
def m_rv (S : St) (m : Nat → Nat → Int32) (t i : Nat) (g : Nat → Nat) (c : Nat) : Nat → Int32 := fun j => if 4 * t ≤ j ∧ j < 4 * t + c then nI (g (j - 4 * t)) else mS S m i j
theorem m_rv_0 {S : St} {m : Nat → Nat → Int32} {t i : Nat} {g : Nat → Nat} : m_rv S m t i g 0 = mS S m i := by
  funext j; unfold m_rv; rw [if_neg (by omega)]
theorem m_rv_s {S : St} {m : Nat → Nat → Int32} {t i c : Nat} {g : Nat → Nat} : upd (m_rv S m t i g c) (4 * t + c) (nI (g c)) = m_rv S m t i g (c + 1) := by
  refine upd_eq (fun j => ?_)
  unfold m_rv
  by_cases e : j = 4 * t + c
  · rw [if_pos e, if_pos (by omega), e, show 4 * t + c - 4 * t = c by omega]
  · rw [if_neg e]
    by_cases h : 4 * t ≤ j ∧ j < 4 * t + c
    · rw [if_pos h, if_pos (by omega)]
    · rw [if_neg h, if_neg (by omega)]
theorem upd_upd (f : Nat → Int32) (k : Nat) (x y : Int32) : upd (upd f k x) k y = upd f k y := by
  funext j; unfold upd; by_cases e : j = k <;> simp [e]
/-- the reference's rows while it recounts: c columns done; of the next r rows -/
def m_r0 (S : St) (m : Nat → Nat → Int32) (t c : Nat) : Nat → Nat → Int32 := va_up (va_up (va_up (va_up (mS S m) 5 (upd (mS S m 5) t (nI ((sT S t).1 3)))) 6 (m_rv S m t 6 (fun c => rc_u (sT S t) c ((sT S t).1 3)) c)) 7 (m_rv S m t 7 (fun c => rc_l (sT S t) c ((sT S t).1 3)) c)) 8 (m_rv S m t 8 (fun c => rc_g (sT S t) c ((sT S t).1 3)) c)
def m_r1 (S : St) (m : Nat → Nat → Int32) (t c r : Nat) : Nat → Nat → Int32 := va_up (va_up (va_up (va_up (mS S m) 5 (upd (mS S m 5) t (nI ((sT S t).1 3)))) 6 (upd (m_rv S m t 6 (fun c => rc_u (sT S t) c ((sT S t).1 3)) c) (4 * t + c) (nI (rc_u (sT S t) c r)))) 7 (upd (m_rv S m t 7 (fun c => rc_l (sT S t) c ((sT S t).1 3)) c) (4 * t + c) (nI (rc_l (sT S t) c r)))) 8 (upd (m_rv S m t 8 (fun c => rc_g (sT S t) c ((sT S t).1 3)) c) (4 * t + c) (nI (rc_g (sT S t) c r)))
theorem m_r_init {G : x_G} {lo : x_L} {S : St} {m : Nat → Nat → Int32} {t : Nat} : mco G lo (nS S) (va_up (mS S m) 5 (upd (mS S m 5) t (nI ((sT S t).1 3)))) = mco G lo (nS S) (m_r0 S m t 0) := by
  unfold m_r0
  rw [m_rv_0, m_rv_0, m_rv_0]
  exact mco_ext rfl (tags_all rfl rfl rfl rfl rfl rfl rfl rfl rfl rfl rfl rfl rfl rfl rfl rfl rfl rfl rfl rfl rfl rfl rfl rfl rfl rfl)
theorem m_r_zero {G : x_G} {lo : x_L} {S : St} {m : Nat → Nat → Int32} {t c : Nat} : mco G lo (nS S) (va_up (va_up (va_up (m_r0 S m t c) 6 (upd (m_r0 S m t c 6) (4 * t + c) (nI 0))) 7 (upd (va_up (m_r0 S m t c) 6 (upd (m_r0 S m t c 6) (4 * t + c) (nI 0)) 7) (4 * t + c) (nI 0))) 8 (upd (va_up (va_up (m_r0 S m t c) 6 (upd (m_r0 S m t c 6) (4 * t + c) (nI 0))) 7 (upd (va_up (m_r0 S m t c) 6 (upd (m_r0 S m t c 6) (4 * t + c) (nI 0)) 7) (4 * t + c) (nI 0)) 8) (4 * t + c) (nI 0))) = mco G lo (nS S) (m_r1 S m t c 0) :=
  mco_ext rfl (tags_all rfl rfl rfl rfl rfl rfl rfl rfl rfl rfl rfl rfl rfl rfl rfl rfl rfl rfl rfl rfl rfl rfl rfl rfl rfl rfl)
theorem m_r_step {G : x_G} {lo : x_L} {S : St} {m : Nat → Nat → Int32} {t c r a b d : Nat} (ha : a = rc_u (sT S t) c (r + 1)) (hb : b = rc_l (sT S t) c (r + 1)) (hd : d = rc_g (sT S t) c (r + 1)) : mco G lo (nS S) (va_up (va_up (va_up (m_r1 S m t c r) 6 (upd (m_r1 S m t c r 6) (4 * t + c) (nI a))) 7 (upd (va_up (m_r1 S m t c r) 6 (upd (m_r1 S m t c r 6) (4 * t + c) (nI a)) 7) (4 * t + c) (nI b))) 8 (upd (va_up (va_up (m_r1 S m t c r) 6 (upd (m_r1 S m t c r 6) (4 * t + c) (nI a))) 7 (upd (va_up (m_r1 S m t c r) 6 (upd (m_r1 S m t c r 6) (4 * t + c) (nI a)) 7) (4 * t + c) (nI b)) 8) (4 * t + c) (nI d))) = mco G lo (nS S) (m_r1 S m t c (r + 1)) := by
  subst ha hb hd
  exact mco_ext rfl (tags_all rfl rfl rfl rfl rfl (upd_upd _ _ _ _) (upd_upd _ _ _ _) (upd_upd _ _ _ _) rfl rfl rfl rfl rfl rfl rfl rfl rfl rfl rfl rfl rfl rfl rfl rfl rfl rfl)
theorem m_r_next {G : x_G} {lo : x_L} {S : St} {m : Nat → Nat → Int32} {t c r : Nat} (hr : r = (sT S t).1 3) : mco G lo (nS S) (m_r1 S m t c r) = mco G lo (nS S) (m_r0 S m t (c + 1)) := by
  subst hr
  exact mco_ext rfl (tags_all rfl rfl rfl rfl rfl m_rv_s m_rv_s m_rv_s rfl rfl rfl rfl rfl rfl rfl rfl rfl rfl rfl rfl rfl rfl rfl rfl rfl rfl)
theorem m_r_end {G : x_G} {lo : x_L} {S : St} {m : Nat → Nat → Int32} {t c : Nat} (hT : Tok (sT S t)) (hc : c = (sT S t).1 1) : mco G lo (nS S) (m_r0 S m t c) = mco G lo (nS (setT S t (recT (sT S t)))) (mS (setT S t (recT (sT S t))) m) := by
  subst hc
  obtain ⟨k1, k2, k3, k4, k5, k6, k7, k8, k9, k0⟩ := id hT
  have key : ∀ (i : Nat) (g : Nat → Nat), (∀ c, (recT (sT S t)).2 i c = if c < (sT S t).1 1 then g c else (sT S t).2 i c) → (∀ j, mS S m (i + 5) j = nI ((sT S (j / 4)).2 i (j % 4))) → m_rv S m t (i + 5) g ((sT S t).1 1) = fun j => nI ((sT (setT S t (recT (sT S t))) (j / 4)).2 i (j % 4)) := fun i g hg hm => by
    funext j
    unfold m_rv
    rw [sT_set]
    by_cases e : j / 4 = t
    · rw [if_pos e, hg]
      by_cases h : j % 4 < (sT S t).1 1
      · rw [if_pos h, if_pos (by omega), show j - 4 * t = j % 4 by omega]
      · rw [if_neg h, if_neg (by omega), hm, e]
    · rw [if_neg e, if_neg (by omega), hm]
  refine mco_ext rfl (tags_all ?_ ?_ ?_ ?_ ?_ ?_ ?_ ?_ ?_ ?_ ?_ ?_ ?_ ?_ ?_ ?_ ?_ ?_ ?_ ?_ ?_ ?_ ?_ ?_ ?_ ?_)
  · exact row_s (fun T => T.1 1) rfl
  · exact row_s (fun T => T.1 2) rfl
  · exact row_s (fun T => T.1 3) rfl
  · exact row_d (d := 240) (fun T k => T.2 0 k) (fun k => by show (if k < (sT S t).1 1 then (sT S t).2 0 k else (sT S t).2 0 k) = _; split <;> rfl)
  · exact row_t (fun T => T.1 5) rfl
  · exact key 1 _ (fun c => rfl) (fun j => rfl)
  · exact key 2 _ (fun c => rfl) (fun j => rfl)
  · exact key 3 _ (fun c => rfl) (fun j => rfl)
  · exact row_s (fun T => T.1 4) rfl
  all_goals rfl
theorem rc_l_s {T : Tb} {c r y : Nat} (h : y = if r = 0 then t_v T r c else if rc_l T c r ≤ t_v T r c then rc_l T c r else t_v T r c) : y = rc_l T c (r + 1) := by
  rw [h]
  unfold rc_l
  rw [if_neg (Nat.succ_ne_zero r)]
  cases r with
  | zero => rw [if_pos rfl]; rfl
  | succ r =>
    rw [if_neg (Nat.succ_ne_zero r), if_neg (Nat.succ_ne_zero r), t_min]
    split <;> omega
theorem rc_g_s {T : Tb} {c r y : Nat} (h : y = if r = 0 then t_v T r c else if t_v T r c ≤ rc_g T c r then rc_g T c r else t_v T r c) : y = rc_g T c (r + 1) := by
  rw [h]
  unfold rc_g
  rw [if_neg (Nat.succ_ne_zero r)]
  cases r with
  | zero => rw [if_pos rfl]; rfl
  | succ r =>
    rw [if_neg (Nat.succ_ne_zero r), if_neg (Nat.succ_ne_zero r), t_max]
    split <;> omega
theorem t_min_le {T : Tb} (hT : Tok T) (c : Nat) : ∀ r, t_min T c r ≤ 999
  | 0 => t_v_le hT _ _
  | 1 => t_v_le hT _ _
  | r + 2 => by rw [t_min]; have := t_min_le hT c (r + 1); have := Nat.min_le_left (t_min T c (r + 1)) (t_v T (r + 1) c); omega
theorem t_max_le {T : Tb} (hT : Tok T) (c : Nat) : ∀ r, t_max T c r ≤ 999
  | 0 => t_v_le hT _ _
  | 1 => t_v_le hT _ _
  | r + 2 => by rw [t_max]; have := t_max_le hT c (r + 1); have := t_v_le hT (r + 1) c; omega
theorem rc_l_le {T : Tb} (hT : Tok T) (c r : Nat) : rc_l T c r ≤ 999 := by unfold rc_l; split; omega; exact t_min_le hT c r
theorem rc_g_le {T : Tb} (hT : Tok T) (c r : Nat) : rc_g T c r ≤ 999 := by unfold rc_g; split; omega; exact t_max_le hT c r
