/-! bits of small numbers -/
theorem nI_or (a b : Nat) : nI a ||| nI b = nI (a ||| b) := by
  apply Int32.toBitVec_inj.mp
  simp [nI, BitVec.ofNat_or]
theorem sm32 : ∀ w, w < 32 → ((nI w &&& 31).toBitVec.smod 32).toNat = w := by decide +kernel
theorem nI_shr {m w : Nat} (hm : m < 2 ^ 31) (hw : w < 32) : nI m >>> (nI w &&& 31) = nI (m / 2 ^ w) := pk_shrN hm _ w (sm32 w hw)
theorem nI_and1 {m : Nat} (hm : m < 2 ^ 31) : nI m &&& 1 = nI (m % 2) := pk_andN (k := 1) (by omega) (by decide)
theorem nI_bit {m w : Nat} (hm : m < 2 ^ 31) (hw : w < 32) : (nI m >>> (nI w &&& 31)) &&& 1 = nI (m / 2 ^ w % 2) := by
  rw [nI_shr hm hw, nI_and1 (Nat.lt_of_le_of_lt (Nat.div_le_self _ _) hm)]
theorem tb_iff {m w : Nat} : m.testBit w = true ↔ m / 2 ^ w % 2 = 1 := by
  rw [Nat.testBit_eq_decide_div_mod_eq, decide_eq_true_iff]
theorem nI_bit1 {m w : Nat} (hm : m < 2 ^ 31) (hw : w < 32) : (nI m >>> (nI w &&& 31)) &&& 1 = 1 ↔ m.testBit w = true := by
  rw [nI_bit hm hw, tb_iff]
  exact nI_eq (b := 1) (by omega) (by decide)
theorem nI_pow : ∀ w, w < 31 → (1 : Int32) <<< (nI w &&& 31) = nI (2 ^ w) := by decide +kernel
theorem nI_dif : ∀ a, a < 64 → ∀ s, s < 64 → nI a &&& (nI s ^^^ -1) = nI (a &&& (63 ^^^ s)) := by decide +kernel
def pc6 (m : Nat) : Nat → Nat
  | 0 => 0
  | w + 1 => pc6 m w + (if m.testBit w then 1 else 0)
theorem shr0 {m w : Nat} (hm : m < 2 ^ 31) (hw : w < 32) (h : nI m >>> (nI w &&& 31) = 0) {v : Nat} (hv : w ≤ v) : m.testBit v = false := by
  rw [nI_shr hm hw] at h
  have h0 : m / 2 ^ w = 0 := (nI_eq (b := 0) (Nat.lt_of_le_of_lt (Nat.div_le_self _ _) hm) (by decide)).mp h
  have hlt : m < 2 ^ w := by
    rcases Nat.lt_or_ge m (2 ^ w) with h1 | h1
    · exact h1
    · have := Nat.div_pos h1 (Nat.two_pow_pos w)
      omega
  exact Nat.testBit_lt_two_pow (Nat.lt_of_lt_of_le hlt (Nat.pow_le_pow_right (by decide) hv))
