/-! the reference is made: row by row -/
def mrow (G : x_G) (i : Nat) : va_E := .inl (G.2 (if i = 15 then 1 else 0), m_len i, .inl (fun _ => nI 0))
def mrf (lo : x_L) (k r t : Nat) : Value := if r < k then .ref (lo t) else .null
def mobj (lo : x_L) (k : Nat) : List Value := [mrf lo k 0 1, mrf lo k 1 2, mrf lo k 2 3, mrf lo k 3 4, mrf lo k 4 5, mrf lo k 5 6, mrf lo k 6 7, mrf lo k 7 8, mrf lo k 8 9, .int (nI 0), mrf lo k 9 11, mrf lo k 10 12, mrf lo k 11 13, mrf lo k 12 14, mrf lo k 13 15, mrf lo k 14 16, mrf lo k 15 17, .int (nI 0), .int (nI 0), mrf lo k 16 20, mrf lo k 17 21, mrf lo k 18 22, mrf lo k 19 23, mrf lo k 20 24, mrf lo k 21 25, mrf lo k 22 26, mrf lo k 23 27, mrf lo k 24 28, mrf lo k 25 29]
def mhas (k i : Nat) : Prop := ∃ r, m_rank i = some r ∧ r < k
def mP (G : x_G) (lo : x_L) (k : Nat) (co : x_C) : Prop := co 0 = some (.inr (10, mobj lo k)) ∧ ∀ i, i ≠ 0 → (mhas k i → co i = some (mrow G i)) ∧ (¬ mhas k i → co i = none)
theorem m_rank_inj {i t k : Nat} (h1 : m_rank i = some k) (h2 : m_rank t = some k) : i = t := by
  unfold m_rank at h1 h2
  split at h1 <;> split at h2 <;> (try split at h1) <;> (try split at h2) <;> (try split at h1) <;> (try split at h2) <;> simp at h1 h2 <;> omega
theorem mP_step {G : x_G} {lo : x_L} {k t : Nat} {co : x_C} {fs : List Value} (hP : mP G lo k co) (hr : m_rank t = some k) (h0 : t ≠ 0) (hf : fs = mobj lo (k + 1)) : mP G lo (k + 1) (va_up (va_up co t (some (mrow G t))) 0 (some (.inr (10, fs)))) := by
  refine ⟨by rw [va_up_self, hf], fun i hi => ?_⟩
  rw [va_up_ne _ _ hi]
  by_cases e : i = t
  · subst e
    rw [va_up_self]
    exact ⟨fun _ => rfl, fun q => absurd ⟨k, hr, Nat.lt_succ_self k⟩ q⟩
  · rw [va_up_ne _ _ e]
    have hq : mhas (k + 1) i ↔ mhas k i := by
      constructor
      · rintro ⟨r, h1, h2⟩
        refine ⟨r, h1, ?_⟩
        rcases Nat.lt_succ_iff_lt_or_eq.mp h2 with w | w
        · exact w
        · subst w; exact absurd (m_rank_inj h1 hr) e
      · rintro ⟨r, h1, h2⟩; exact ⟨r, h1, by omega⟩
    rw [hq]
    exact hP.2 i hi
section XW18
variable {p : Program} {l : Launch} {e : Env} {R : Room} {s : State} {m : MethodId} {args : Array Value} {below : List Frame} {meth : Method} {c : Code} {H : Heap} {locs : List Loc} {cells slots : Nat} {Q : State → Prop}
variable {cc : ByteArray} {pc : Nat} {ls : Array Slot} {rest : List Value} {G : x_G} {lo : x_L} {co : x_C} {nL : Nat} {A : Nat → Prop} {H0 : Heap}
theorem m_step {n sz : Nat} (k t kf idx : Nat) (cx : CallFix p m c cc nL s args x_gw RX11) (hk : x_K G s) (hW : x_D A G H0 lo co H locs) (hA : ∀ q, H0.size ≤ q → A q) (hP : mP G lo k co) (hz : H.size = sz + k) (hlt : lo t = sz + k) (hr : m_rank t = some k) (ht : t ≠ 0 ∧ t ≠ 15 ∧ m_len t = n ∧ n < 2 ^ 20) (hF : x_P RX11 idx 10 kf true (.array .int)) (hm : meth.name = "<init>") (hlen : kf < 29) (hset : (mobj lo k).set kf (.ref (lo t)) = mobj lo (k + 1)) (hc : Cond.arrayClass .int ∈ x_gw) (hcells : cells + 1 ≤ R.cells) (hslots : slots + n ≤ R.slots) (hd1 : decode cc pc = .ok (.newarray .int, 2)) (hd2 : decode cc (pc + 2) = .ok (.putfield idx, 3))
    (kk : ∀ (co1 : x_C) (H1 : Heap) (locs1 : List Loc), mP G lo (k + 1) co1 → H1.size = sz + (k + 1) → x_D A G H0 lo co1 H1 locs1 → W p l e R s m args below meth c H1 locs1 (cells + 1) (slots + n) Q (F0 m (pc + 2 + 3) ls rest)) : W p l e R s m args below meth c H locs cells slots Q (F0 m pc ls (.int (nI n) :: .ref (lo 0) :: rest)) := by
  obtain ⟨h0, h15, hn, hn2⟩ := ht
  have hnone : co t = none := (hP.2 t h0).2 (fun q => by obtain ⟨r, g1, g2⟩ := q; rw [hr] at g1; cases g1; exact Nat.lt_irrefl _ g2)
  refine x_newIS t cx hk hW hA hnone (by rw [hlt, hz]) hc hn2 hcells hslots hd1 fun H1 z1 hW1 => ?_
  have hrow : (Sum.inl (G.2 0, n, .inl (fun _ => nI 0)) : va_E) = mrow G t := by unfold mrow; rw [if_neg h15, hn]
  rw [hrow] at hW1
  refine x_putS (t := 0) cx hk hW1 ((va_up_ne _ _ (Ne.symm h0)).trans hP.1) hF (fun _ => hm) hlen rfl rfl hd2 fun H2 locs2 z2 hW2 => ?_
  exact kk _ H2 locs2 (mP_step hP hr h0 hset) (by omega) hW2
theorem m_stepZ {n sz : Nat} (k t kf idx : Nat) (cx : CallFix p m c cc nL s args x_gw RX11) (hk : x_K G s) (hW : x_D A G H0 lo co H locs) (hA : ∀ q, H0.size ≤ q → A q) (hP : mP G lo k co) (hz : H.size = sz + k) (hlt : lo t = sz + k) (hr : m_rank t = some k) (ht : t = 15 ∧ m_len t = n ∧ n < 2 ^ 20) (hF : x_P RX11 idx 10 kf true (.array .boolean)) (hm : meth.name = "<init>") (hlen : kf < 29) (hset : (mobj lo k).set kf (.ref (lo t)) = mobj lo (k + 1)) (hc : Cond.arrayClass .boolean ∈ x_gw) (hcells : cells + 1 ≤ R.cells) (hslots : slots + n ≤ R.slots) (hd1 : decode cc pc = .ok (.newarray .boolean, 2)) (hd2 : decode cc (pc + 2) = .ok (.putfield idx, 3))
    (kk : ∀ (co1 : x_C) (H1 : Heap) (locs1 : List Loc), mP G lo (k + 1) co1 → H1.size = sz + (k + 1) → x_D A G H0 lo co1 H1 locs1 → W p l e R s m args below meth c H1 locs1 (cells + 1) (slots + n) Q (F0 m (pc + 2 + 3) ls rest)) : W p l e R s m args below meth c H locs cells slots Q (F0 m pc ls (.int (nI n) :: .ref (lo 0) :: rest)) := by
  obtain ⟨h15, hn, hn2⟩ := ht
  have h0 : t ≠ 0 := by omega
  have hnone : co t = none := (hP.2 t h0).2 (fun q => by obtain ⟨r, g1, g2⟩ := q; rw [hr] at g1; cases g1; exact Nat.lt_irrefl _ g2)
  refine x_newZS t cx hk hW hA hnone (by rw [hlt, hz]) hc hn2 hcells hslots hd1 fun H1 z1 hW1 => ?_
  have hrow : (Sum.inl (G.2 1, n, .inl (fun _ => nI 0)) : va_E) = mrow G t := by unfold mrow; rw [if_pos h15, hn]
  rw [hrow] at hW1
  refine x_putS (t := 0) cx hk hW1 ((va_up_ne _ _ (Ne.symm h0)).trans hP.1) hF (fun _ => hm) hlen rfl rfl hd2 fun H2 locs2 z2 hW2 => ?_
  exact kk _ H2 locs2 (mP_step hP hr h0 hset) (by omega) hW2
end XW18
theorem mhas_len {i : Nat} (h0 : i ≠ 0) : mhas 26 i ↔ m_len i ≠ 0 := by
  constructor
  · rintro ⟨r, h1, h2⟩
    by_cases e : i < 30
    · have : ∀ j, j < 30 → m_rank j ≠ none → m_len j ≠ 0 := by decide +kernel
      exact this i e (by rw [h1]; exact fun z => by cases z)
    · unfold m_rank at h1
      rw [if_neg (by omega), if_neg (by omega), if_neg (by omega)] at h1
      cases h1
  · intro h
    have hm := m_len_tag i (Decidable.byContradiction fun q => h (m_len_30 q)) h
    have : ∀ j ∈ m_tags, ∃ r, m_rank j = some r ∧ r < 26 := by
      intro j hj
      have hd : ∀ j ∈ m_tags, (m_rank j).any (fun r => decide (r < 26)) = true := by decide +kernel
      have h2 := hd j hj
      cases e : m_rank j with
      | none => rw [e] at h2; exact absurd h2 (by decide)
      | some r => rw [e] at h2; exact ⟨r, rfl, of_decide_eq_true h2⟩
    exact this i hm
theorem mP_e {G : x_G} {lo : x_L} {co : x_C} (h : mP G lo 26 co) : co = mco G lo (fun _ => nI 0) (fun _ _ => nI 0) := by
  funext i
  unfold mco
  by_cases h0 : i = 0
  · subst h0; rw [if_pos rfl]; exact h.1
  · rw [if_neg h0]
    by_cases h1 : m_len i = 0
    · rw [if_pos h1]; exact (h.2 i h0).2 (fun q => (mhas_len h0).mp q h1)
    · rw [if_neg h1]; exact (h.2 i h0).1 ((mhas_len h0).mpr h1)
theorem mP_0 {G : x_G} {lo : x_L} {co : x_C} (h0 : co 0 = some (.inr (10, mobj lo 0))) (h : ∀ i, i ≠ 0 → co i = none) : mP G lo 0 co := ⟨h0, fun i hi => ⟨fun q => by obtain ⟨r, -, g⟩ := q; omega, fun _ => h i hi⟩⟩
