/-! a table's writers: pure -/
def wrT (T : Tb) (r c v : Nat) : Tb := if r < T.1 3 ∧ c < T.1 1 then (T.1, va_up T.2 0 (va_up (T.2 0) (r * 4 + c) v)) else T
/-- columns that are not there hold 0 -/
def Tz4 (T : Tb) : Prop := ∀ j, T.1 1 ≤ j % 4 → T.2 0 j = 0
theorem wrT_1 (T : Tb) (r c v : Nat) : (wrT T r c v).1 = T.1 := by unfold wrT; split <;> rfl
theorem wrT_2 (T : Tb) (r c v i : Nat) (hi : i ≠ 0) : (wrT T r c v).2 i = T.2 i := by
  unfold wrT; split
  · exact va_up_ne _ _ hi
  · rfl
theorem wrT_0 (T : Tb) (r c v j : Nat) : (wrT T r c v).2 0 j = if r < T.1 3 ∧ c < T.1 1 ∧ j = r * 4 + c then v else T.2 0 j := by
  unfold wrT
  by_cases h : r < T.1 3 ∧ c < T.1 1
  · rw [if_pos h]
    show va_up (T.2 0) (r * 4 + c) v j = _
    by_cases e : j = r * 4 + c
    · rw [if_pos ⟨h.1, h.2, e⟩, e, va_up_self]
    · rw [if_neg (fun q => e q.2.2), va_up_ne _ _ e]
  · rw [if_neg h, if_neg (fun q => h ⟨q.1, q.2.1⟩)]
theorem Tb_ext {T U : Tb} (h1 : T.1 = U.1) (h0 : ∀ j, T.2 0 j = U.2 0 j) (h2 : ∀ i, i ≠ 0 → T.2 i = U.2 i) : T = U := by
  refine Prod.ext h1 (funext fun i => ?_)
  by_cases e : i = 0
  · subst e; exact funext h0
  · exact h2 i e
/-- one row more, not yet written -/
def incT (T : Tb) : Tb := (va_up T.1 3 (T.1 3 + 1), T.2)
theorem wr_put {T : Tb} {a b c d : Int32} (hT : Tok T) : wrT (wrT (wrT (wrT (incT T) (T.1 3) 0 a.toNatClampNeg) (T.1 3) 1 b.toNatClampNeg) (T.1 3) 2 c.toNatClampNeg) (T.1 3) 3 d.toNatClampNeg = putT T a b c d := by
  obtain ⟨k1, k2, k3, k4, k5, k6, k7, k8, k9, k0⟩ := id hT
  have e3 : (incT T).1 3 = T.1 3 + 1 := rfl
  have e1 : (incT T).1 1 = T.1 1 := rfl
  refine Tb_ext ?_ (fun j => ?_) (fun i hi => ?_)
  · rw [wrT_1, wrT_1, wrT_1, wrT_1]; rfl
  · simp only [wrT_0, wrT_1, e3, e1]
    show _ = if T.1 3 * 4 ≤ j ∧ j < T.1 3 * 4 + T.1 1 then (s_arg a b c d (j - T.1 3 * 4)).toNatClampNeg else T.2 0 j
    by_cases h : T.1 3 * 4 ≤ j ∧ j < T.1 3 * 4 + T.1 1
    · rw [if_pos h]
      obtain ⟨x, hx, rfl⟩ : ∃ x, x < T.1 1 ∧ j = T.1 3 * 4 + x := ⟨j - T.1 3 * 4, by omega, by omega⟩
      rw [Nat.add_sub_cancel_left]
      rcases (show x = 0 ∨ x = 1 ∨ x = 2 ∨ x = 3 by omega) with e | e | e | e <;> subst e
      · rw [if_neg (by omega), if_neg (by omega), if_neg (by omega), if_pos (by omega)]; rfl
      · rw [if_neg (by omega), if_neg (by omega), if_pos (by omega)]; rfl
      · rw [if_neg (by omega), if_pos (by omega)]; rfl
      · rw [if_pos (by omega)]; rfl
    · rw [if_neg h, if_neg (by omega), if_neg (by omega), if_neg (by omega), if_neg (by omega)]; rfl
  · rw [wrT_2 _ _ _ _ _ hi, wrT_2 _ _ _ _ _ hi, wrT_2 _ _ _ _ _ hi, wrT_2 _ _ _ _ _ hi]
    exact (va_up_ne T.2 _ hi).symm
/-- while rows move up: rows below b - 1 have moved, and c columns of the next -/
def rmT (T : Tb) (r b c : Nat) : Tb := (T.1, va_up T.2 0 (fun j => if r ≤ j / 4 ∧ j % 4 < T.1 1 ∧ (j / 4 + 1 < b ∨ (j / 4 + 1 = b ∧ j % 4 < c)) then T.2 0 (j + 4) else T.2 0 j))
theorem rmT_at (T : Tb) (r b c j : Nat) : (rmT T r b c).2 0 j = if r ≤ j / 4 ∧ j % 4 < T.1 1 ∧ (j / 4 + 1 < b ∨ (j / 4 + 1 = b ∧ j % 4 < c)) then T.2 0 (j + 4) else T.2 0 j := rfl
theorem rmT_0 (T : Tb) (r : Nat) : rmT T r (r + 1) 0 = T := by
  refine Tb_ext rfl (fun j => ?_) (fun i hi => va_up_ne _ _ hi)
  show (if _ then _ else _) = _
  rw [if_neg (by omega)]
theorem rmT_n {T : Tb} {r b c : Nat} (hc : T.1 1 ≤ c) : rmT T r b c = rmT T r (b + 1) 0 := by
  refine Tb_ext rfl (fun j => ?_) (fun i hi => (va_up_ne _ _ hi).trans (va_up_ne _ _ hi).symm)
  show (if _ then _ else _) = (if _ then _ else _)
  exact ite_iff (by omega)
theorem rmT_v {T : Tb} {r b c : Nat} (hT : Tok T) (hb : b < T.1 3) (hc : c < T.1 1) : t_v (rmT T r b c) b c = T.2 0 (b * 4 + c) := by
  have h4 := hT.2.1
  rw [t_v, if_pos ⟨hb, hc⟩]
  show (if _ then _ else _) = _
  rw [if_neg (by omega)]
theorem rmT_s {T : Tb} {r b c v : Nat} (hT : Tok T) (hr : r < b) (hb : b < T.1 3) (hc : c < T.1 1) (hv : v = T.2 0 (b * 4 + c)) : wrT (rmT T r b c) (b - 1) c v = rmT T r b (c + 1) := by
  have h4 := hT.2.1
  refine Tb_ext (wrT_1 _ _ _ _) (fun j => ?_) (fun i hi => (wrT_2 _ _ _ _ _ hi).trans ((va_up_ne _ _ hi).trans (va_up_ne _ _ hi).symm))
  rw [wrT_0, rmT_at, rmT_at]
  by_cases e : j = (b - 1) * 4 + c
  · have c1 : b - 1 < (rmT T r b c).1 3 ∧ c < (rmT T r b c).1 1 ∧ j = (b - 1) * 4 + c := ⟨by show b - 1 < T.1 3; omega, hc, e⟩
    have c2 : r ≤ j / 4 ∧ j % 4 < T.1 1 ∧ (j / 4 + 1 < b ∨ (j / 4 + 1 = b ∧ j % 4 < c + 1)) := by omega
    rw [if_pos c1, if_pos c2, hv, show j + 4 = b * 4 + c by omega]
  · have c1 : ¬ (b - 1 < (rmT T r b c).1 3 ∧ c < (rmT T r b c).1 1 ∧ j = (b - 1) * 4 + c) := fun q => e q.2.2
    rw [if_neg c1]
    exact ite_iff (by omega)
theorem rmT_e {T : Tb} {r b : Nat} (hz : Tz4 T) (hb : b = T.1 3) (hr : r < T.1 3) : (va_up (rmT T r b 0).1 3 (T.1 3 - 1), (rmT T r b 0).2) = strT T r := by
  subst hb
  refine Tb_ext rfl (fun j => ?_) (fun i hi => (va_up_ne _ _ hi).trans (va_up_ne _ _ hi).symm)
  show (if r ≤ j / 4 ∧ j % 4 < T.1 1 ∧ (j / 4 + 1 < T.1 3 ∨ (j / 4 + 1 = T.1 3 ∧ j % 4 < 0)) then T.2 0 (j + 4) else T.2 0 j) = (if 4 * r ≤ j ∧ j < 4 * (T.1 3 - 1) then T.2 0 (j + 4) else T.2 0 j)
  by_cases h : j % 4 < T.1 1
  · exact ite_iff (by omega)
  · rw [if_neg (fun q => h q.2.1), hz j (by omega), hz (j + 4) (by omega)]
    split <;> rfl
/-- of one column: the unlike rows are the unlike values -/
theorem t_like_1 {T : Tb} {r o c : Nat} (hc : c < T.1 1) : t_like T r o (2 ^ c) = decide (t_v T r c = t_v T o c) := by
  unfold t_like
  cases e : decide (t_v T r c = t_v T o c) with
  | true =>
    refine allN_lt.mpr (fun k hk => ?_)
    by_cases q : k = c
    · subst q; rw [e, Bool.or_true]
    · rw [Nat.testBit_two_pow_of_ne (Ne.symm q)]; rfl
  | false => exact allN_no hc (by show (!(2 ^ c).testBit c || _) = false; rw [Nat.testBit_two_pow_self, e]; rfl)
theorem t_unl_1 {T : Tb} {c : Nat} (hc : c < T.1 1) : t_unl T (2 ^ c) = rc_u T c (T.1 3) := by
  unfold t_unl rc_u
  refine cntN_congr (fun r _ => ?_)
  unfold t_first
  exact allN_congr (fun q _ => by rw [t_like_1 hc])
/-- while counts are taken: c columns done -/
def rcT (T : Tb) (c : Nat) : Tb := (va_up T.1 5 (T.1 3), fun i k => if k < c then (if i = 1 then rc_u T k (T.1 3) else if i = 2 then rc_l T k (T.1 3) else if i = 3 then rc_g T k (T.1 3) else T.2 i k) else T.2 i k)
theorem rcT_0 (T : Tb) : rcT T 0 = (va_up T.1 5 (T.1 3), T.2) := by
  refine Prod.ext rfl (funext fun i => funext fun k => ?_)
  unfold rcT
  simp
theorem rcT_e (T : Tb) : rcT T (T.1 1) = recT T := rfl
theorem rcT_v (T : Tb) (c r k : Nat) (hc : c ≤ T.1 1) : t_v (rcT T c) r k = t_v T r k := by
  unfold t_v
  have h0 : ∀ j, (rcT T c).2 0 j = T.2 0 j := fun j => by
    show (if j < c then (if 0 = 1 then _ else if 0 = 2 then _ else if 0 = 3 then _ else T.2 0 j) else T.2 0 j) = _
    split <;> rfl
  rw [h0]; rfl
theorem t_min_v {T U : Tb} (c : Nat) (h : ∀ r, t_v T r c = t_v U r c) : ∀ n, t_min T c n = t_min U c n
  | 0 => h 0
  | 1 => h 0
  | n + 2 => by rw [t_min, t_min, t_min_v c h (n + 1), h]
theorem t_max_v {T U : Tb} (c : Nat) (h : ∀ r, t_v T r c = t_v U r c) : ∀ n, t_max T c n = t_max U c n
  | 0 => h 0
  | 1 => h 0
  | n + 2 => by rw [t_max, t_max, t_max_v c h (n + 1), h]
theorem t_unl_v {T U : Tb} (h1 : T.1 1 = U.1 1) (h3 : T.1 3 = U.1 3) (h : ∀ r c, t_v T r c = t_v U r c) (q : Nat) : t_unl T q = t_unl U q := by
  unfold t_unl t_first t_like
  rw [h1, h3]
  simp only [h]
theorem t_min_0 {T : Tb} (c : Nat) (h : T.1 3 = 0) : t_min T c 0 = 0 := by
  show t_v T 0 c = 0
  rw [t_v, if_neg (by omega)]
theorem t_max_0 {T : Tb} (c : Nat) (h : T.1 3 = 0) : t_max T c 0 = 0 := by
  show t_v T 0 c = 0
  rw [t_v, if_neg (by omega)]
theorem rc_l_min {T : Tb} (c : Nat) : rc_l T c (T.1 3) = t_min T c (T.1 3) := by
  unfold rc_l; split
  · next h => rw [h, t_min_0 c h]
  · rfl
theorem rc_g_max {T : Tb} (c : Nat) : rc_g T c (T.1 3) = t_max T c (T.1 3) := by
  unfold rc_g; split
  · next h => rw [h, t_max_0 c h]
  · rfl
/-- the next column's counts -/
theorem rcT_s {T : Tb} {c u l g : Nat} (hu : u = rc_u T c (T.1 3)) (hl : l = rc_l T c (T.1 3)) (hg : g = rc_g T c (T.1 3)) : ((rcT T c).1, va_up (va_up (va_up (rcT T c).2 1 (va_up ((rcT T c).2 1) c u)) 2 (va_up ((rcT T c).2 2) c l)) 3 (va_up ((rcT T c).2 3) c g)) = rcT T (c + 1) := by
  subst hu hl hg
  refine Prod.ext rfl (funext fun i => funext fun k => ?_)
  have key : ∀ (j x : Nat) (hx : x = (if j = 1 then rc_u T c (T.1 3) else if j = 2 then rc_l T c (T.1 3) else if j = 3 then rc_g T c (T.1 3) else T.2 j c)), va_up ((rcT T c).2 j) c x k = (rcT T (c + 1)).2 j k := fun j x hx => by
    by_cases e : k = c
    · subst e
      rw [va_up_self, hx]
      show _ = if k < k + 1 then _ else _
      rw [if_pos (Nat.lt_succ_self k)]
    · rw [va_up_ne _ _ e]
      show (if k < c then _ else _) = (if k < c + 1 then _ else _)
      exact ite_iff (by omega)
  show va_up (va_up (va_up (rcT T c).2 1 (va_up ((rcT T c).2 1) c _)) 2 (va_up ((rcT T c).2 2) c _)) 3 (va_up ((rcT T c).2 3) c _) i k = _
  by_cases e3 : i = 3
  · subst e3; rw [va_up_self]; exact key 3 _ rfl
  · rw [va_up_ne _ _ e3]
    by_cases e2 : i = 2
    · subst e2; rw [va_up_self]; exact key 2 _ rfl
    · rw [va_up_ne _ _ e2]
      by_cases e1 : i = 1
      · subst e1; rw [va_up_self]; exact key 1 _ rfl
      · rw [va_up_ne _ _ e1]
        show (if k < c then (if i = 1 then _ else if i = 2 then _ else if i = 3 then _ else T.2 i k) else T.2 i k) = (if k < c + 1 then (if i = 1 then _ else if i = 2 then _ else if i = 3 then _ else T.2 i k) else T.2 i k)
        rw [if_neg e1, if_neg e2, if_neg e3]
        split <;> split <;> rfl
theorem rc_u_le (T : Tb) (c n : Nat) : rc_u T c n ≤ n := cntN_le n
theorem rc_u_pos (T : Tb) (c : Nat) : ∀ n, 0 < n → 0 < rc_u T c n
  | 0, h => absurd h (Nat.lt_irrefl 0)
  | 1, _ => by unfold rc_u; rw [cntN, cntN]; exact Nat.one_pos
  | n + 2, _ => by
    have := rc_u_pos T c (n + 1) (Nat.succ_pos n)
    unfold rc_u at this ⊢
    rw [cntN]; omega
theorem t_mm {T : Tb} (c : Nat) : ∀ n, t_min T c n ≤ t_max T c n
  | 0 => Nat.le_refl _
  | 1 => Nat.le_refl _
  | n + 2 => by
    have := t_mm (T := T) c (n + 1)
    rw [t_min, t_max]
    have h1 := Nat.min_le_left (t_min T c (n + 1)) (t_v T (n + 1) c)
    have h2 := Nat.le_max_left (t_max T c (n + 1)) (t_v T (n + 1) c)
    omega
/-- a table while its counts are taken -/
def Tok0 (T : Tb) : Prop := 1 ≤ T.1 1 ∧ T.1 1 ≤ 4 ∧ 2 ≤ T.1 2 ∧ T.1 2 ≤ 8 ∧ T.1 3 ≤ 60 ∧ T.1 4 ≤ 1000 ∧ T.1 5 ≤ 60 ∧ (∀ r c, r < T.1 3 → c < T.1 1 → T.2 0 (r * 4 + c) ≤ 999) ∧ True ∧ T.1 0 < 4
theorem Tok.z {T : Tb} (h : Tok T) : Tok0 T := by
  obtain ⟨k1, k2, k3, k4, k5, k6, k7, k8, k9, k0⟩ := h
  exact ⟨k1, k2, k3, k4, k5, k6, k7, k8, trivial, k0⟩
theorem t_v_le0 {T : Tb} (hT : Tok0 T) (r c : Nat) : t_v T r c ≤ 999 := by
  obtain ⟨k1, k2, k3, k4, k5, k6, k7, k8, k9, k0⟩ := id hT
  unfold t_v
  split
  · next h => exact k8 r c h.1 h.2
  · omega
theorem rcT_00 (T : Tb) (c j : Nat) : (rcT T c).2 0 j = T.2 0 j := by
  show (if j < c then (if 0 = 1 then _ else if 0 = 2 then _ else if 0 = 3 then _ else T.2 0 j) else T.2 0 j) = _
  split <;> rfl
theorem Tok0_rc {T : Tb} {c : Nat} (hT : Tok T) : Tok0 (rcT T c) := by
  obtain ⟨k1, k2, k3, k4, k5, k6, k7, k8, k9, k0⟩ := id hT
  exact ⟨k1, k2, k3, k4, k5, k6, k5, fun r d hr hd => by rw [rcT_00]; exact k8 r d hr hd, trivial, k0⟩
theorem Tok_rec {T : Tb} (hT : Tok T) : Tok (recT T) := by
  obtain ⟨k1, k2, k3, k4, k5, k6, k7, k8, k9, k0⟩ := id hT
  rw [← rcT_e]
  refine ⟨k1, k2, k3, k4, k5, k6, k5, fun r d hr hd => by rw [rcT_00]; exact k8 r d hr hd, fun d hd => ?_, k0⟩
  have e5 : (rcT T (T.1 1)).1 5 = T.1 3 := rfl
  have q : d < T.1 1 := hd
  have h1 : (rcT T (T.1 1)).2 1 d = rc_u T d (T.1 3) := if_pos q
  have h2 : (rcT T (T.1 1)).2 2 d = rc_l T d (T.1 3) := if_pos q
  have h3 : (rcT T (T.1 1)).2 3 d = rc_g T d (T.1 3) := if_pos q
  rw [e5, h1, h2, h3]
  refine ⟨rc_u_le T d _, rc_u_pos T d _, ?_, ?_⟩
  · rw [rc_l_min, rc_g_max]; exact t_mm d _
  · rw [rc_g_max]; exact t_max_le hT d _
theorem t_min_le0 {T : Tb} (hT : Tok0 T) (c : Nat) : ∀ r, t_min T c r ≤ 999
  | 0 => t_v_le0 hT _ _
  | 1 => t_v_le0 hT _ _
  | r + 2 => by rw [t_min]; have := t_min_le0 hT c (r + 1); have := Nat.min_le_left (t_min T c (r + 1)) (t_v T (r + 1) c); omega
theorem t_max_le0 {T : Tb} (hT : Tok0 T) (c : Nat) : ∀ r, t_max T c r ≤ 999
  | 0 => t_v_le0 hT _ _
  | 1 => t_v_le0 hT _ _
  | r + 2 => by rw [t_max]; have := t_max_le0 hT c (r + 1); have := t_v_le0 hT (r + 1) c; omega
def Tok1 (T : Tb) : Prop := 1 ≤ T.1 1 ∧ T.1 1 ≤ 4 ∧ 2 ≤ T.1 2 ∧ T.1 2 ≤ 8 ∧ T.1 3 ≤ 60 ∧ T.1 4 ≤ 1000 ∧ T.1 5 ≤ 60 ∧ True ∧ True ∧ T.1 0 < 4
theorem Tok0.z {T : Tb} (h : Tok0 T) : Tok1 T := by
  obtain ⟨k1, k2, k3, k4, k5, k6, k7, k8, k9, k0⟩ := h
  exact ⟨k1, k2, k3, k4, k5, k6, k7, trivial, trivial, k0⟩
theorem Tok1_wr {T : Tb} {r c v : Nat} (h : Tok1 T) : Tok1 (wrT T r c v) := by unfold Tok1; rw [wrT_1]; exact h
theorem Tok1_inc {T : Tb} (h : Tok T) (h2 : T.1 3 < 60) : Tok1 (incT T) := by
  obtain ⟨k1, k2, k3, k4, k5, k6, k7, k8, k9, k0⟩ := h
  exact ⟨k1, k2, k3, k4, h2, k6, k7, trivial, trivial, k0⟩
theorem Tok1_rm {T : Tb} {r b c : Nat} (h : Tok T) : Tok1 (rmT T r b c) := h.z.z
theorem wr_col {T U : Tb} {a b c d : Int32} {k : Nat} (hv : s_vals T a b c d = true) (he : U.1 1 = T.1 1) (h : k < U.1 1) : s_arg a b c d k = nI (s_arg a b c d k).toNatClampNeg := (s_vals_nI hv (by omega)).symm
theorem t_min_s {T : Tb} {c k : Nat} (h : 1 ≤ k) : t_min T c (k + 1) = min (t_min T c k) (t_v T k c) := by
  cases k with
  | zero => omega
  | succ k => rfl
theorem t_max_s {T : Tb} {c k : Nat} (h : 1 ≤ k) : t_max T c (k + 1) = max (t_max T c k) (t_v T k c) := by
  cases k with
  | zero => omega
  | succ k => rfl
theorem t_min_end {T : Tb} {c k : Nat} (h1 : 1 ≤ k) (h2 : T.1 3 ≤ k) (h3 : k ≤ T.1 3 ∨ k = 1) : t_min T c k = t_min T c (T.1 3) := by
  by_cases e : k = T.1 3
  · rw [e]
  · rw [show k = 1 by omega, show T.1 3 = 0 by omega]; rfl
theorem t_max_end {T : Tb} {c k : Nat} (h1 : 1 ≤ k) (h2 : T.1 3 ≤ k) (h3 : k ≤ T.1 3 ∨ k = 1) : t_max T c k = t_max T c (T.1 3) := by
  by_cases e : k = T.1 3
  · rw [e]
  · rw [show k = 1 by omega, show T.1 3 = 0 by omega]; rfl
def endT (T : Tb) (c : Nat) : Tb := (T.1, va_up (va_up T.2 2 (va_up (T.2 2) c (t_min T c (T.1 3)))) 3 (va_up (T.2 3) c (t_max T c (T.1 3))))
def unlT (T : Tb) (c : Nat) : Tb := (T.1, va_up T.2 1 (va_up (T.2 1) c (t_unl T (2 ^ c))))
theorem unlT_v (T : Tb) (c r k : Nat) : t_v (unlT T c) r k = t_v T r k := rfl
theorem Tok0_unl {T : Tb} {c : Nat} (h : Tok0 T) : Tok0 (unlT T c) := h
theorem rcT_next {T : Tb} {c : Nat} (hc : c < T.1 1) : endT (unlT (rcT T c) c) c = rcT T (c + 1) := by
  have hv : ∀ r k, t_v (rcT T c) r k = t_v T r k := fun r k => rcT_v T c r k (Nat.le_of_lt hc)
  refine Eq.trans ?_ (rcT_s (T := T) (c := c) (u := t_unl (rcT T c) (2 ^ c)) (l := t_min (unlT (rcT T c) c) c (T.1 3)) (g := t_max (unlT (rcT T c) c) c (T.1 3)) ?_ ?_ ?_)
  · rfl
  · rw [t_unl_v (T := rcT T c) (U := T) rfl rfl hv, t_unl_1 hc]
  · rw [rc_l_min]; exact t_min_v c (fun r => (unlT_v _ _ _ _).trans (hv r c)) _
  · rw [rc_g_max]; exact t_max_v c (fun r => (unlT_v _ _ _ _).trans (hv r c)) _
