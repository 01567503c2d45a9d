theorem fa_lt (a b : Int32) : a < b ↔ a.toInt < b.toInt := Int32.lt_iff_toInt_lt
theorem fa_le (a b : Int32) : a ≤ b ↔ a.toInt ≤ b.toInt := Int32.le_iff_toInt_le
theorem fa_eq (a b : Int32) : a = b ↔ a.toInt = b.toInt := Int32.toInt_inj.symm
section XW3
variable {p : Program} {l : Launch} {e : Env} {R : Room} {s : State} {m : MethodId} {args : Array Value} {below : List Frame} {meth : Method} {c : Code} {H : Heap} {locs : List Loc} {cells slots : Nat} {Q : State → Prop}
variable {cc : ByteArray} {pc : Nat} {ls : Array Slot} {rest : List Value} {G : x_G} {lo : x_L} {co : x_C} {nL : Nat} {own : String}
theorem x_zretT {v : Option Value} {b : Bool} (cx : CallFix p m c cc nL s args x_gw own) (hr : meth.sig.returnType = some .boolean) (hlk : meth.locks = false) (hdg : decode cc pc = .ok (.ireturn, 1)) (h : b = true) (hv : some (Value.int (bI b)) = v) : W p l e R s m args below meth c s.heap [] 0 0 (MQ below (x_Qr v) args s 0 0 (fun _ => False)) (F0 m pc ls [.int (nI 1)]) := x_zret b cx hr hlk hdg (by rw [h]; rfl) hv
theorem x_zretF {v : Option Value} {b : Bool} (cx : CallFix p m c cc nL s args x_gw own) (hr : meth.sig.returnType = some .boolean) (hlk : meth.locks = false) (hdg : decode cc pc = .ok (.ireturn, 1)) (h : b = false) (hv : some (Value.int (bI b)) = v) : W p l e R s m args below meth c s.heap [] 0 0 (MQ below (x_Qr v) args s 0 0 (fun _ => False)) (F0 m pc ls [.int (nI 0)]) := x_zret b cx hr hlk hdg (by rw [h]; rfl) hv
theorem x_zretB {v : Option Value} {b t : Bool} (cx : CallFix p m c cc nL s args x_gw own) (hr : meth.sig.returnType = some .boolean) (hlk : meth.locks = false) (hdg : decode cc pc = .ok (.ireturn, 1)) (h : t = b) (hv : some (Value.int (bI b)) = v) : W p l e R s m args below meth c s.heap [] 0 0 (MQ below (x_Qr v) args s 0 0 (fun _ => False)) (F0 m pc ls [.int (bI t)]) := x_zret b cx hr hlk hdg (by rw [h]) hv
theorem x_iaddN {a b : Nat} (cx : CallFix p m c cc nL s args x_gw own) (hdg : decode cc pc = .ok (.iadd, 1)) (k : W p l e R s m args below meth c H locs cells slots Q (F0 m (pc + 1) ls (.int (nI (a + b)) :: rest))) : W p l e R s m args below meth c H locs cells slots Q (F0 m pc ls (.int (nI b) :: .int (nI a) :: rest)) :=
  lv_iadd cx.1 cx.2.1 hdg (by rw [nI_add]; exact k)
theorem x_imulN {a b : Nat} (cx : CallFix p m c cc nL s args x_gw own) (hdg : decode cc pc = .ok (.imul, 1)) (k : W p l e R s m args below meth c H locs cells slots Q (F0 m (pc + 1) ls (.int (nI (a * b)) :: rest))) : W p l e R s m args below meth c H locs cells slots Q (F0 m pc ls (.int (nI b) :: .int (nI a) :: rest)) :=
  lv_imul cx.1 cx.2.1 hdg (by rw [pk_mul]; exact k)
theorem x_isubN {a b : Nat} (cx : CallFix p m c cc nL s args x_gw own) (h : b ≤ a) (hdg : decode cc pc = .ok (.isub, 1)) (k : W p l e R s m args below meth c H locs cells slots Q (F0 m (pc + 1) ls (.int (nI (a - b)) :: rest))) : W p l e R s m args below meth c H locs cells slots Q (F0 m pc ls (.int (nI b) :: .int (nI a) :: rest)) :=
  lv_isub cx.1 cx.2.1 hdg (by rw [pk_sub h]; exact k)
theorem x_idivN {a b : Nat} (cx : CallFix p m c cc nL s args x_gw own) (h : a < 2 ^ 31 ∧ 0 < b ∧ b < 2 ^ 31) (hdg : decode cc pc = .ok (.idiv, 1)) (k : W p l e R s m args below meth c H locs cells slots Q (F0 m (pc + 1) ls (.int (nI (a / b)) :: rest))) : W p l e R s m args below meth c H locs cells slots Q (F0 m pc ls (.int (nI b) :: .int (nI a) :: rest)) :=
  lv_idiv cx.1 cx.2.1 hdg (nI_ne0 h.2.1 h.2.2) (by rw [pk_div h.1 h.2.1 h.2.2]; exact k)
theorem x_iorN {a b : Nat} (cx : CallFix p m c cc nL s args x_gw own) (hdg : decode cc pc = .ok (.ior, 1)) (k : W p l e R s m args below meth c H locs cells slots Q (F0 m (pc + 1) ls (.int (nI a ||| nI b) :: rest))) : W p l e R s m args below meth c H locs cells slots Q (F0 m pc ls (.int (nI b) :: .int (nI a) :: rest)) :=
  lv_ior cx.1 cx.2.1 hdg k
theorem x_icmp_ge {a b : Nat} {off : Int} {tgt : Nat} (cx : CallFix p m c cc nL s args x_gw own) (hdg : decode cc pc = .ok (.if_icmp .ge off, 3)) (ht : (pc : Int) + off = (tgt : Int)) (h : a < 2 ^ 31 ∧ b < 2 ^ 31)
    (kt : b ≤ a → W p l e R s m args below meth c H locs cells slots Q (F0 m tgt ls rest)) (kf : ¬ b ≤ a → W p l e R s m args below meth c H locs cells slots Q (F0 m (pc + 3) ls rest)) : W p l e R s m args below meth c H locs cells slots Q (F0 m pc ls (.int (nI b) :: .int (nI a) :: rest)) :=
  lv_icmp_ge cx.1 cx.2.1 hdg ht (fun q => kt ((nI_leI h.2 h.1).mp q)) (fun q => kf (fun w => q ((nI_leI h.2 h.1).mpr w)))
theorem x_icmp_le {a b : Nat} {off : Int} {tgt : Nat} (cx : CallFix p m c cc nL s args x_gw own) (hdg : decode cc pc = .ok (.if_icmp .le off, 3)) (ht : (pc : Int) + off = (tgt : Int)) (h : a < 2 ^ 31 ∧ b < 2 ^ 31)
    (kt : a ≤ b → W p l e R s m args below meth c H locs cells slots Q (F0 m tgt ls rest)) (kf : ¬ a ≤ b → W p l e R s m args below meth c H locs cells slots Q (F0 m (pc + 3) ls rest)) : W p l e R s m args below meth c H locs cells slots Q (F0 m pc ls (.int (nI b) :: .int (nI a) :: rest)) :=
  lv_icmp_le cx.1 cx.2.1 hdg ht (fun q => kt ((nI_leI h.1 h.2).mp q)) (fun q => kf (fun w => q ((nI_leI h.1 h.2).mpr w)))
theorem x_icmp_lt {a b : Nat} {off : Int} {tgt : Nat} (cx : CallFix p m c cc nL s args x_gw own) (hdg : decode cc pc = .ok (.if_icmp .lt off, 3)) (ht : (pc : Int) + off = (tgt : Int)) (h : a < 2 ^ 31 ∧ b < 2 ^ 31)
    (kt : a < b → W p l e R s m args below meth c H locs cells slots Q (F0 m tgt ls rest)) (kf : ¬ a < b → W p l e R s m args below meth c H locs cells slots Q (F0 m (pc + 3) ls rest)) : W p l e R s m args below meth c H locs cells slots Q (F0 m pc ls (.int (nI b) :: .int (nI a) :: rest)) :=
  lv_icmp_lt cx.1 cx.2.1 hdg ht (fun q => kt ((nI_ltI h.1 h.2).mp q)) (fun q => kf (fun w => q ((nI_ltI h.1 h.2).mpr w)))
theorem x_icmp_gt {a b : Nat} {off : Int} {tgt : Nat} (cx : CallFix p m c cc nL s args x_gw own) (hdg : decode cc pc = .ok (.if_icmp .gt off, 3)) (ht : (pc : Int) + off = (tgt : Int)) (h : a < 2 ^ 31 ∧ b < 2 ^ 31)
    (kt : b < a → W p l e R s m args below meth c H locs cells slots Q (F0 m tgt ls rest)) (kf : ¬ b < a → W p l e R s m args below meth c H locs cells slots Q (F0 m (pc + 3) ls rest)) : W p l e R s m args below meth c H locs cells slots Q (F0 m pc ls (.int (nI b) :: .int (nI a) :: rest)) :=
  lv_icmp_gt cx.1 cx.2.1 hdg ht (fun q => kt ((nI_ltI h.2 h.1).mp q)) (fun q => kf (fun w => q ((nI_ltI h.2 h.1).mpr w)))
theorem x_icmp_eq {a b : Nat} {off : Int} {tgt : Nat} (cx : CallFix p m c cc nL s args x_gw own) (hdg : decode cc pc = .ok (.if_icmp .eq off, 3)) (ht : (pc : Int) + off = (tgt : Int)) (h : a < 2 ^ 31 ∧ b < 2 ^ 31)
    (kt : a = b → W p l e R s m args below meth c H locs cells slots Q (F0 m tgt ls rest)) (kf : ¬ a = b → W p l e R s m args below meth c H locs cells slots Q (F0 m (pc + 3) ls rest)) : W p l e R s m args below meth c H locs cells slots Q (F0 m pc ls (.int (nI b) :: .int (nI a) :: rest)) :=
  lv_icmp_eq cx.1 cx.2.1 hdg ht (fun q => kt ((nI_eq h.1 h.2).mp q)) (fun q => kf (fun w => q ((nI_eq h.1 h.2).mpr w)))
theorem x_icmp_ne {a b : Nat} {off : Int} {tgt : Nat} (cx : CallFix p m c cc nL s args x_gw own) (hdg : decode cc pc = .ok (.if_icmp .ne off, 3)) (ht : (pc : Int) + off = (tgt : Int)) (h : a < 2 ^ 31 ∧ b < 2 ^ 31)
    (kt : ¬ a = b → W p l e R s m args below meth c H locs cells slots Q (F0 m tgt ls rest)) (kf : a = b → W p l e R s m args below meth c H locs cells slots Q (F0 m (pc + 3) ls rest)) : W p l e R s m args below meth c H locs cells slots Q (F0 m pc ls (.int (nI b) :: .int (nI a) :: rest)) :=
  lv_icmp_ne cx.1 cx.2.1 hdg ht (fun q => kt (fun w => q ((nI_eq h.1 h.2).mpr w))) (fun q => kf ((nI_eq h.1 h.2).mp q))
theorem x_ifN_eq {a : Nat} {off : Int} {tgt : Nat} (cx : CallFix p m c cc nL s args x_gw own) (hdg : decode cc pc = .ok (.ifCond .eq off, 3)) (ht : (pc : Int) + off = (tgt : Int)) (h : a < 2 ^ 31)
    (kt : a = 0 → W p l e R s m args below meth c H locs cells slots Q (F0 m tgt ls rest)) (kf : ¬ a = 0 → W p l e R s m args below meth c H locs cells slots Q (F0 m (pc + 3) ls rest)) : W p l e R s m args below meth c H locs cells slots Q (F0 m pc ls (.int (nI a) :: rest)) :=
  lv_if_eq cx.1 cx.2.1 hdg ht (fun q => kt ((nI_eq h (by decide : 0 < 2 ^ 31)).mp q)) (fun q => kf (fun w => q ((nI_eq h (by decide : 0 < 2 ^ 31)).mpr w)))
theorem x_ifN_ne {a : Nat} {off : Int} {tgt : Nat} (cx : CallFix p m c cc nL s args x_gw own) (hdg : decode cc pc = .ok (.ifCond .ne off, 3)) (ht : (pc : Int) + off = (tgt : Int)) (h : a < 2 ^ 31)
    (kt : ¬ a = 0 → W p l e R s m args below meth c H locs cells slots Q (F0 m tgt ls rest)) (kf : a = 0 → W p l e R s m args below meth c H locs cells slots Q (F0 m (pc + 3) ls rest)) : W p l e R s m args below meth c H locs cells slots Q (F0 m pc ls (.int (nI a) :: rest)) :=
  lv_if_ne cx.1 cx.2.1 hdg ht (fun q => kt (fun w => q ((nI_eq h (by decide : 0 < 2 ^ 31)).mpr w))) (fun q => kf ((nI_eq h (by decide : 0 < 2 ^ 31)).mp q))
theorem x_ifN_le {a : Nat} {off : Int} {tgt : Nat} (cx : CallFix p m c cc nL s args x_gw own) (hdg : decode cc pc = .ok (.ifCond .le off, 3)) (ht : (pc : Int) + off = (tgt : Int)) (h : a < 2 ^ 31)
    (kt : a = 0 → W p l e R s m args below meth c H locs cells slots Q (F0 m tgt ls rest)) (kf : ¬ a = 0 → W p l e R s m args below meth c H locs cells slots Q (F0 m (pc + 3) ls rest)) : W p l e R s m args below meth c H locs cells slots Q (F0 m pc ls (.int (nI a) :: rest)) :=
  lv_if_le cx.1 cx.2.1 hdg ht (fun q => kt (Nat.le_zero.mp ((nI_leI h (by decide : 0 < 2 ^ 31)).mp q))) (fun q => kf (fun w => q ((nI_leI h (by decide : 0 < 2 ^ 31)).mpr (Nat.le_zero.mpr w))))
theorem x_ifN_gt {a : Nat} {off : Int} {tgt : Nat} (cx : CallFix p m c cc nL s args x_gw own) (hdg : decode cc pc = .ok (.ifCond .gt off, 3)) (ht : (pc : Int) + off = (tgt : Int)) (h : a < 2 ^ 31)
    (kt : ¬ a = 0 → W p l e R s m args below meth c H locs cells slots Q (F0 m tgt ls rest)) (kf : a = 0 → W p l e R s m args below meth c H locs cells slots Q (F0 m (pc + 3) ls rest)) : W p l e R s m args below meth c H locs cells slots Q (F0 m pc ls (.int (nI a) :: rest)) :=
  lv_if_gt cx.1 cx.2.1 hdg ht (fun q => kt (fun w => by subst w; exact absurd q (by decide))) (fun q => kf (by
    rcases Nat.eq_zero_or_pos a with w | w
    · exact w
    · exact absurd ((nI_ltI (by decide : 0 < 2 ^ 31) h).mpr w) q))
theorem x_ifN_lt {a : Nat} {off : Int} {tgt : Nat} (cx : CallFix p m c cc nL s args x_gw own) (hdg : decode cc pc = .ok (.ifCond .lt off, 3)) (ht : (pc : Int) + off = (tgt : Int)) (h : a < 2 ^ 31)
    (kf : W p l e R s m args below meth c H locs cells slots Q (F0 m (pc + 3) ls rest)) : W p l e R s m args below meth c H locs cells slots Q (F0 m pc ls (.int (nI a) :: rest)) :=
  lv_if_lt cx.1 cx.2.1 hdg ht (fun q => absurd q (nI_pos h)) (fun _ => kf)
theorem x_ifN_ge {a : Nat} {off : Int} {tgt : Nat} (cx : CallFix p m c cc nL s args x_gw own) (hdg : decode cc pc = .ok (.ifCond .ge off, 3)) (ht : (pc : Int) + off = (tgt : Int)) (h : a < 2 ^ 31)
    (kt : W p l e R s m args below meth c H locs cells slots Q (F0 m tgt ls rest)) : W p l e R s m args below meth c H locs cells slots Q (F0 m pc ls (.int (nI a) :: rest)) :=
  lv_if_ge cx.1 cx.2.1 hdg ht (fun _ => kt) (fun q => absurd (nI_pos' h) q)
end XW3
/-! numbers over ranges -/
def allN : Nat → (Nat → Bool) → Bool
  | 0, _ => true
  | n + 1, p => allN n p && p n
def cntN : Nat → (Nat → Bool) → Nat
  | 0, _ => 0
  | n + 1, p => cntN n p + (if p n = true then 1 else 0)
def sumN : Nat → (Nat → Nat) → Nat
  | 0, _ => 0
  | n + 1, g => sumN n g + g n
theorem allN_lt {p : Nat → Bool} : ∀ {n : Nat}, allN n p = true ↔ ∀ k, k < n → p k = true
  | 0 => by simp [allN]
  | n + 1 => by
    rw [allN, Bool.and_eq_true, allN_lt (n := n)]
    constructor
    · intro h k hk
      rcases Nat.lt_succ_iff_lt_or_eq.mp hk with q | q
      · exact h.1 k q
      · rw [q]; exact h.2
    · exact fun h => ⟨fun k hk => h k (Nat.lt_succ_of_lt hk), h n (Nat.lt_succ_self n)⟩
theorem allN_no {p : Nat → Bool} {n k : Nat} (hk : k < n) (h : p k = false) : allN n p = false := by
  cases e : allN n p with
  | false => rfl
  | true => exact absurd (allN_lt.mp e k hk) (by rw [h]; decide)
theorem allN_step {p : Nat → Bool} {n : Nat} (h : allN n p = true) (h2 : p n = true) : allN (n + 1) p = true := by rw [allN, h, h2]; rfl
theorem cntN_le {p : Nat → Bool} : ∀ n : Nat, cntN n p ≤ n
  | 0 => Nat.le_refl 0
  | n + 1 => by
    have := cntN_le (p := p) n
    rw [cntN]; split <;> omega
theorem allN_congr {p q : Nat → Bool} : ∀ {n : Nat}, (∀ k, k < n → p k = q k) → allN n p = allN n q
  | 0, _ => rfl
  | n + 1, h => by rw [allN, allN, allN_congr (fun k hk => h k (Nat.lt_succ_of_lt hk)), h n (Nat.lt_succ_self n)]
theorem cntN_congr {p q : Nat → Bool} : ∀ {n : Nat}, (∀ k, k < n → p k = q k) → cntN n p = cntN n q
  | 0, _ => rfl
  | n + 1, h => by rw [cntN, cntN, cntN_congr (fun k hk => h k (Nat.lt_succ_of_lt hk)), h n (Nat.lt_succ_self n)]
theorem sumN_congr {p q : Nat → Nat} : ∀ {n : Nat}, (∀ k, k < n → p k = q k) → sumN n p = sumN n q
  | 0, _ => rfl
  | n + 1, h => by rw [sumN, sumN, sumN_congr (fun k hk => h k (Nat.lt_succ_of_lt hk)), h n (Nat.lt_succ_self n)]
theorem sumN_le {g : Nat → Nat} {b : Nat} : ∀ {n : Nat}, (∀ k, k < n → g k ≤ b) → sumN n g ≤ n * b
  | 0, _ => by simp [sumN]
  | n + 1, h => by
    have := sumN_le (n := n) (fun k hk => h k (Nat.lt_succ_of_lt hk))
    have := h n (Nat.lt_succ_self n)
    rw [sumN, Nat.succ_mul]; omega
