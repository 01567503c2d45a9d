theorem g_explore {l : Launch} {G : x_G} {lo : x_L} (S : St) (hS : Sok S) (r : Nat) (hr_ : r ≤ 10000) : ∀ n a, a + n = sn S 1 → exH l G lo S r n a
  | 0, a, h => fun co X s b l_ hs hL hr1 hsl hb hbl hbc hll => g_ex0 S X hS hs hL r a s b l_ hr1 hsl hb hbl hbc hll hr_ (by omega)
  | n + 1, a, h => fun co X s b l_ hs hL hr1 hsl hb hbl hbc hll => g_ex1 S X hS hs hL r a s b l_ hr1 hsl hb hbl hbc hll hr_ n h (g_explore S hS r hr_ n (a + 1) (by omega))
theorem nI_andnot {b a : Nat} (ha : a < 31) (h : b.testBit a = true) : nI b &&& (nI (2 ^ a) ^^^ (-1)) = nI (b ^^^ 2 ^ a) := by
  unfold nI
  apply Int32.toBitVec.inj
  rw [Int32.toBitVec_and, Int32.toBitVec_xor, Int32.toBitVec_ofNat', Int32.toBitVec_ofNat', Int32.toBitVec_ofNat']
  apply BitVec.eq_of_getLsbD_eq
  intro i hi
  rw [BitVec.getLsbD_and, BitVec.getLsbD_xor, BitVec.getLsbD_ofNat, BitVec.getLsbD_ofNat, BitVec.getLsbD_ofNat, Nat.testBit_xor, decide_eq_true hi, Bool.true_and, Bool.true_and, Bool.true_and]
  have hm : (Int32.toBitVec (-1)).getLsbD i = true := by
    have : Int32.toBitVec (-1) = BitVec.allOnes 32 := by decide
    rw [this, BitVec.getLsbD_allOnes]; exact decide_eq_true hi
  rw [hm]
  by_cases e : a = i
  · subst e; rw [Nat.testBit_two_pow_self, h]; rfl
  · rw [Nat.testBit_two_pow_of_ne e]; simp
