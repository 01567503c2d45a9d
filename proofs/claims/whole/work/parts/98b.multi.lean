/-! rows of rows -/
def va_ups (co : x_C) (b n : Nat) (e : va_E) : x_C := fun t => if b ≤ t ∧ t < b + n then some e else co t
theorem va_ups_in {co : x_C} {b n t : Nat} {e : va_E} (h1 : b ≤ t) (h2 : t < b + n) : va_ups co b n e t = some e := if_pos ⟨h1, h2⟩
theorem va_ups_out {co : x_C} {b n t : Nat} {e : va_E} (h : t < b ∨ b + n ≤ t) : va_ups co b n e t = co t := if_neg (by omega)
/-- many new cells at a run of tags, placed beforehand -/
theorem x_D.pushM {A : Nat → Prop} {G : x_G} {H0 H H1 : Heap} {lo : x_L} {co : x_C} {locs : List Loc} {b n k0 : Nat} {e : va_E} (h : x_D A G H0 lo co H locs) (hu : ∀ i, i < n → co (b + i) = none) (hl : ∀ i, i < n → lo (b + i) = H.size + k0 + i) (hA : ∀ q, H0.size ≤ q → A q) (he : ∀ i, i < n → va_at G.1 vwCl (H.size + k0 + i, e) H1) (z : H.size ≤ H1.size) (oq : ∀ q : Nat, q < H.size → H1[q]? = H[q]?) : x_D A G H0 lo (va_ups co b n e) H1 locs := by
  have old : ∀ v, va_ups co b n e v ≠ none → ¬ (b ≤ v ∧ v < b + n) → co v ≠ none := fun v hv q => by
    rw [va_ups_out (by omega)] at hv
    exact hv
  have new : ∀ v, (b ≤ v ∧ v < b + n) → lo v = H.size + k0 + (v - b) := fun v q => by
    have := hl (v - b) (by omega)
    rw [show b + (v - b) = v by omega] at this
    exact this
  have lt : ∀ v, co v ≠ none → lo v < H.size := fun v hv => by
    cases q : co v with
    | none => exact absurd q hv
    | some e' => exact (h.1 v e' q).lt
  refine ⟨fun v e' hv => ?_, ⟨fun v w hv hw hq => ?_, fun v hv => ?_⟩, ⟨Nat.le_trans h.2.2.1 z, fun q h1 h2 => (oq q (Nat.lt_of_lt_of_le h1 h.2.2.1)).trans (h.2.2.2.1 q h1 h2), h.2.2.2.2⟩⟩
  · by_cases q : b ≤ v ∧ v < b + n
    · rw [va_ups_in q.1 q.2] at hv
      cases hv
      rw [new v q]
      exact he (v - b) (by omega)
    · rw [va_ups_out (by omega)] at hv
      exact (h.1 v e' hv).kept (oq _ (lt v (by rw [hv]; exact fun z => by cases z)))
  · by_cases q : b ≤ v ∧ v < b + n <;> by_cases r : b ≤ w ∧ w < b + n
    · rw [new v q, new w r] at hq
      omega
    · have h1 := lt w (old w hw r)
      rw [new v q] at hq
      omega
    · have h1 := lt v (old v hv q)
      rw [new w r] at hq
      omega
    · exact h.2.1.1 v w (old v hv q) (old w hw r) hq
  · by_cases q : b ≤ v ∧ v < b + n
    · rw [new v q]; exact hA _ (Nat.le_trans h.2.2.1 (by omega))
    · exact h.2.1.2 v (old v hv q)
section XW30
variable {p : Program} {l : Launch} {e : Env} {R : Room} {s : State} {m : MethodId} {args : Array Value} {below : List Frame} {meth : Method} {c : Code} {H : Heap} {locs : List Loc} {cells slots : Nat} {Q : State → Prop}
variable {cc : ByteArray} {pc : Nat} {ls : Array Slot} {rest : List Value} {G : x_G} {lo : x_L} {co : x_C} {nL : Nat} {own : String} {A : Nat → Prop} {dd mi : Nat} {H0 : Heap}
theorem x_newMS {n k index : Nat} (u b : Nat) (cx : CallFix p m c cc nL s args x_gw own) (hk : x_K G s) (ho : z_AOA s) (hW : x_D A G H0 lo co H locs) (hA : ∀ q, H0.size ≤ q → A q) (hu : co u = none) (hub : u < b ∨ b + n ≤ u) (hbn : ∀ i, i < n → co (b + i) = none) (hl : lo u = H.size) (hlb : ∀ i, i < n → lo (b + i) = H.size + 1 + i) (hc : Cond.classLink own index "[[I" ∈ x_gw) (hc2 : Cond.arrayClass .int ∈ x_gw) (hn : n < 2 ^ 20) (hk2 : k < 2 ^ 20) (hcells : cells + (1 + n) ≤ R.cells) (hslots : slots + (n + n * k) ≤ R.slots) (hdg : decode cc pc = .ok (.multianewarray index 2, 4))
    (kk : ∀ H1 : Heap, H1.size = H.size + 1 + n → x_D A G H0 lo (va_up (va_ups co b n (.inl (G.2 0, k, .inl (fun _ => nI 0)))) u (some (.inl (G.2 4, n, .inr (.inr (.inr (.inr (fun i => if i < n then some (H.size + 1 + i) else none)))))))) H1 locs → W p l e R s m args below meth c H1 locs (cells + 1 + n) (slots + n + n * k) Q (F0 m (pc + 4) ls (.ref (lo u) :: rest))) : W p l e R s m args below meth c H locs cells slots Q (F0 m pc ls (.int (nI k) :: .int (nI n) :: rest)) := by
  have hcn : (nI n).toNatClampNeg = n := nI_clamp (by omega)
  have hck : (nI k).toNatClampNeg = k := nI_clamp (by omega)
  intro T hT Xs
  obtain ⟨vm₁, cA, comp, -, fA, fC, -, -, X', step⟩ := Xs.multianewarray2F (ty := .int) cx.1 cx.2.2.2.1 (cx.2.2.2.2 _ hc) (z_AOA.use ho) (cx.2.2.2.2 _ hc2) (g := F0 m pc ls (.int (nI k) :: .int (nI n) :: rest)) rfl (by rw [cx.2.1]; exact hdg) rfl (nI_pos (by omega)) (nI_pos (by omega)) (by rw [hcn]; omega) (by rw [hck]; show k * 4 ≤ _; omega) (by rw [hck]; omega) rfl rfl (by rw [hcn]; exact hcells) (by rw [hcn, hck]; exact hslots)
  have ec : comp = G.2 0 := Option.some.inj (fC.symm.trans (hk.1.2 0 (G.2 0, .int) rfl).2)
  have eA : cA = G.2 4 := Option.some.inj (fA.symm.trans (hk.1.2 4 (G.2 4, .array .int) rfl).2)
  subst ec eA
  rw [hcn, hck] at X' step
  have hTh : (T.setVm vm₁).heap = H := hT
  obtain ⟨f1, f2, -, -⟩ := Jvm.Free.Multi.fill_facts (T.setVm vm₁) (G.2 4) (G.2 0) n k (defaultValue .int) n
  have hold := fun (x : Nat) (hx : x < H.size) => Jvm.Free.Multi.fill_old (T.setVm vm₁) (G.2 4) (G.2 0) n k (defaultValue .int) (a := x) (by rw [hTh]; exact hx) n
  have hrow := fun (j : Nat) (hj : j < n) => Jvm.Free.Multi.fill_inner (T.setVm vm₁) (G.2 4) (G.2 0) n k (defaultValue .int) n j hj
  generalize hF : Jvm.Free.Multi.fill (T.setVm vm₁) (G.2 4) (G.2 0) n k (defaultValue .int) n = F at X' step f1 f2 hold hrow
  rw [hTh] at f1 f2 hold hrow
  rw [x_outer] at f2
  have hin : Jvm.Free.Multi.innerC (G.2 0) k (defaultValue .int) = vp_cell (G.2 0) (k, .inl (fun _ => nI 0)) := by
    rw [vp_cell_i]
    show ({ cls := G.2 0, slots := Array.replicate k (.int 0), vm := .none } : Cell) = _
    rw [arrV_new]
    rfl
  have h1 := hW.pushM (b := b) (n := n) (k0 := 1) (e := .inl (G.2 0, k, .inl (fun _ => nI 0))) (H1 := F.heap) hbn hlb hA (fun i hi => by show F.heap[H.size + 1 + i]? = some (vp_cell _ _); rw [hrow i hi, hin]) (by omega) hold
  have h2 : x_D A G H0 lo (va_up (va_ups co b n (.inl (G.2 0, k, .inl (fun _ => nI 0)))) u (some (.inl (G.2 4, n, .inr (.inr (.inr (.inr (fun i => if i < n then some (H.size + 1 + i) else none)))))))) F.heap locs := by
    have lt : ∀ v, co v ≠ none → lo v < H.size := fun v hv => by
      cases q : co v with
      | none => exact absurd q hv
      | some e' => exact (hW.1 v e' q).lt
    have hnu : ∀ v, va_ups co b n (.inl (G.2 0, k, .inl (fun _ => nI 0))) v ≠ none → lo v ≠ H.size := fun v hv => by
      by_cases q : b ≤ v ∧ v < b + n
      · have := hlb (v - b) (by omega)
        rw [show b + (v - b) = v by omega] at this
        omega
      · rw [va_ups_out (by omega)] at hv
        exact Nat.ne_of_lt (lt v hv)
    refine ⟨fun v e' hv => ?_, ⟨fun v w hv hw hq => ?_, fun v hv => ?_⟩, h1.2.2⟩
    · by_cases q : v = u
      · subst q
        rw [va_up_self] at hv
        cases hv
        rw [hl]
        show F.heap[H.size]? = some (vp_cell _ _)
        rw [f2, vp_cell_q]
      · rw [va_up_ne _ _ q] at hv
        exact h1.1 v e' hv
    · by_cases q : v = u <;> by_cases r : w = u
      · rw [q, r]
      · rw [va_up_ne _ _ r] at hw
        rw [q, hl] at hq
        exact absurd hq.symm (hnu w hw)
      · rw [va_up_ne _ _ q] at hv
        rw [r, hl] at hq
        exact absurd hq (hnu v hv)
      · rw [va_up_ne _ _ q] at hv
        rw [va_up_ne _ _ r] at hw
        exact h1.2.1.1 v w hv hw hq
    · by_cases q : v = u
      · rw [q, hl]; exact hA _ hW.2.2.1
      · rw [va_up_ne _ _ q] at hv
        exact h1.2.1.2 v hv
  obtain ⟨t, a1, b1⟩ := kk F.heap f1 h2 F rfl X'
  rw [hl, ← hT] at a1
  exact ⟨t, step t a1, b1⟩
/-- the private constructor of a nest mate -/
def x_IN (own : String) (index : Nat) (y : MethodName) (cb : ByteArray) (n k : Nat) : Prop := ∃ host : String, (own, index, y, host) ∈ x_nN ∧ Cond.instanceMethod y ∈ x_gw ∧ Cond.initialized y.cls ∈ x_gw ∧ Cond.code y cb n none ∈ x_gw ∧ y.name = "<init>" ∧ (y.cls ≠ "java/lang/invoke/MethodHandle" ∧ y.cls ≠ "java/lang/invoke/VarHandle" ∧ (parseMethodDescriptor y.desc).map (fun d => d.parameters.length) = some k)
theorem z_wrIN {y : MethodName} {cb : ByteArray} {n d index k t mc ms : Nat} {av st : List Value} {post : Option Value → x_L → x_C → Prop} (hZ : z_Z dd mi A s s.heap) (cx : CallFix p m c cc nL s args x_gw own) (hk : x_K G s) (hW : x_D A G s.heap lo co H locs) (hA : ∀ q, s.heap.size ≤ q → A q) (hS : x_IN own index y cb n k) (hc : z_Wr l dd mi G lo co y cb n none d mc ms (.ref (lo t) :: av) post)
    (hl : ls.size = nL) (hn : av.length = k) (hst : st = av.reverse ++ .ref (lo t) :: rest) (hwd : (rest.map fun v => v.category).sum ≤ 8) (hR : d + 1 ≤ R.frames ∧ 8 + (n + 11) + 40 * d ≤ R.locals) (hf : cells + mc ≤ R.cells ∧ slots + ms ≤ R.slots) (hdg : decode cc pc = .ok (.invokespecial index, 3))
    (kk : ∀ (v : Option Value) (lo1 : x_L) (co1 : x_C) (H1 : Heap) (locs1 : List Loc), post v lo1 co1 → x_D A G s.heap lo1 co1 H1 locs1 → W p l e R s m args below meth c H1 locs1 (cells + mc) (slots + ms) Q (F0 m (pc + 3) ls (v.toList ++ rest))) : W p l e R s m args below meth c H locs cells slots Q (F0 m pc ls st) := by
  obtain ⟨host, h1, h2, h3, h4, h5, h6⟩ := hS
  exact y_cr (va_runIN (As := av) (rest := rest) cx (hc hW.2.1.1 H.size) ⟨va_cnB k cx.2.2.2.2 (x_good (y := y) (cc := cb) (n := n) (r := none) h4) rfl rfl rfl (hk.2.1 _ h1) (cx.2.2.2.2 _ h3) h6 hR, h5, cx.2.2.2.2 _ h2⟩ ⟨z_blind, fun U hU hWm => ⟨rfl, by rw [hU], by rw [hU]; exact hW.1, hk.warm hWm, z_call hZ hW hA hU hWm⟩⟩ rfl hn hl hst (by simpa [F0, JFrame.monitorRoom] using hwd) hdg hf) hW hA kk
end XW30
theorem ci_RX10_27 : x_IN RX10 27 yX7_init cX7_init 1 0 := ⟨RX10, by simp [x_nN], w_62, w_5, w_63, rfl, by decide +kernel⟩
