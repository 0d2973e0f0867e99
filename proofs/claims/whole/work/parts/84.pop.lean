/-! the JDK's bit counts -/
def popI (x0 : Int32) : Int32 := (((((((x0 - (((x0.toUInt32 >>> ((1 : Int32).toUInt32 &&& Int32.toUInt32 31)).toInt32) &&& (1431655765 : Int32))) &&& (858993459 : Int32)) + ((((x0 - (((x0.toUInt32 >>> ((1 : Int32).toUInt32 &&& Int32.toUInt32 31)).toInt32) &&& (1431655765 : Int32))).toUInt32 >>> ((2 : Int32).toUInt32 &&& Int32.toUInt32 31)).toInt32) &&& (858993459 : Int32))) + (((((x0 - (((x0.toUInt32 >>> ((1 : Int32).toUInt32 &&& Int32.toUInt32 31)).toInt32) &&& (1431655765 : Int32))) &&& (858993459 : Int32)) + ((((x0 - (((x0.toUInt32 >>> ((1 : Int32).toUInt32 &&& Int32.toUInt32 31)).toInt32) &&& (1431655765 : Int32))).toUInt32 >>> ((2 : Int32).toUInt32 &&& Int32.toUInt32 31)).toInt32) &&& (858993459 : Int32))).toUInt32 >>> ((4 : Int32).toUInt32 &&& Int32.toUInt32 31)).toInt32)) &&& (252645135 : Int32)) + (((((((x0 - (((x0.toUInt32 >>> ((1 : Int32).toUInt32 &&& Int32.toUInt32 31)).toInt32) &&& (1431655765 : Int32))) &&& (858993459 : Int32)) + ((((x0 - (((x0.toUInt32 >>> ((1 : Int32).toUInt32 &&& Int32.toUInt32 31)).toInt32) &&& (1431655765 : Int32))).toUInt32 >>> ((2 : Int32).toUInt32 &&& Int32.toUInt32 31)).toInt32) &&& (858993459 : Int32))) + (((((x0 - (((x0.toUInt32 >>> ((1 : Int32).toUInt32 &&& Int32.toUInt32 31)).toInt32) &&& (1431655765 : Int32))) &&& (858993459 : Int32)) + ((((x0 - (((x0.toUInt32 >>> ((1 : Int32).toUInt32 &&& Int32.toUInt32 31)).toInt32) &&& (1431655765 : Int32))).toUInt32 >>> ((2 : Int32).toUInt32 &&& Int32.toUInt32 31)).toInt32) &&& (858993459 : Int32))).toUInt32 >>> ((4 : Int32).toUInt32 &&& Int32.toUInt32 31)).toInt32)) &&& (252645135 : Int32)).toUInt32 >>> ((8 : Int32).toUInt32 &&& Int32.toUInt32 31)).toInt32)) + ((((((((x0 - (((x0.toUInt32 >>> ((1 : Int32).toUInt32 &&& Int32.toUInt32 31)).toInt32) &&& (1431655765 : Int32))) &&& (858993459 : Int32)) + ((((x0 - (((x0.toUInt32 >>> ((1 : Int32).toUInt32 &&& Int32.toUInt32 31)).toInt32) &&& (1431655765 : Int32))).toUInt32 >>> ((2 : Int32).toUInt32 &&& Int32.toUInt32 31)).toInt32) &&& (858993459 : Int32))) + (((((x0 - (((x0.toUInt32 >>> ((1 : Int32).toUInt32 &&& Int32.toUInt32 31)).toInt32) &&& (1431655765 : Int32))) &&& (858993459 : Int32)) + ((((x0 - (((x0.toUInt32 >>> ((1 : Int32).toUInt32 &&& Int32.toUInt32 31)).toInt32) &&& (1431655765 : Int32))).toUInt32 >>> ((2 : Int32).toUInt32 &&& Int32.toUInt32 31)).toInt32) &&& (858993459 : Int32))).toUInt32 >>> ((4 : Int32).toUInt32 &&& Int32.toUInt32 31)).toInt32)) &&& (252645135 : Int32)) + (((((((x0 - (((x0.toUInt32 >>> ((1 : Int32).toUInt32 &&& Int32.toUInt32 31)).toInt32) &&& (1431655765 : Int32))) &&& (858993459 : Int32)) + ((((x0 - (((x0.toUInt32 >>> ((1 : Int32).toUInt32 &&& Int32.toUInt32 31)).toInt32) &&& (1431655765 : Int32))).toUInt32 >>> ((2 : Int32).toUInt32 &&& Int32.toUInt32 31)).toInt32) &&& (858993459 : Int32))) + (((((x0 - (((x0.toUInt32 >>> ((1 : Int32).toUInt32 &&& Int32.toUInt32 31)).toInt32) &&& (1431655765 : Int32))) &&& (858993459 : Int32)) + ((((x0 - (((x0.toUInt32 >>> ((1 : Int32).toUInt32 &&& Int32.toUInt32 31)).toInt32) &&& (1431655765 : Int32))).toUInt32 >>> ((2 : Int32).toUInt32 &&& Int32.toUInt32 31)).toInt32) &&& (858993459 : Int32))).toUInt32 >>> ((4 : Int32).toUInt32 &&& Int32.toUInt32 31)).toInt32)) &&& (252645135 : Int32)).toUInt32 >>> ((8 : Int32).toUInt32 &&& Int32.toUInt32 31)).toInt32)).toUInt32 >>> ((16 : Int32).toUInt32 &&& Int32.toUInt32 31)).toInt32)) &&& (63 : Int32)
theorem popI_6 : ∀ m, m < 64 → popI (nI m) = nI (pc6 m 6) := by decide +kernel
theorem c_bitCount {x : Int32} {m : Nat} {w : jx_W} {K : jx_Q} (hx : x = nI m) (hm : m < 64) (hK : K w (some (.int (nI (pc6 m 6))))) : zcall n_JI_bitCount [.int x] w K := by
  subst hx
  rw [← popI_6 m hm] at hK
  exact e_JI_bitCount (b_JI_bitCount_0 hK)
def popL (y0 : Int64) : Int32 := (((((((((y0 - (((y0.toUInt64 >>> ((1 : Int32).toInt64.toUInt64 &&& Int64.toUInt64 63)).toInt64) &&& (6148914691236517205 : Int64))) &&& (3689348814741910323 : Int64)) + ((((y0 - (((y0.toUInt64 >>> ((1 : Int32).toInt64.toUInt64 &&& Int64.toUInt64 63)).toInt64) &&& (6148914691236517205 : Int64))).toUInt64 >>> ((2 : Int32).toInt64.toUInt64 &&& Int64.toUInt64 63)).toInt64) &&& (3689348814741910323 : Int64))) + (((((y0 - (((y0.toUInt64 >>> ((1 : Int32).toInt64.toUInt64 &&& Int64.toUInt64 63)).toInt64) &&& (6148914691236517205 : Int64))) &&& (3689348814741910323 : Int64)) + ((((y0 - (((y0.toUInt64 >>> ((1 : Int32).toInt64.toUInt64 &&& Int64.toUInt64 63)).toInt64) &&& (6148914691236517205 : Int64))).toUInt64 >>> ((2 : Int32).toInt64.toUInt64 &&& Int64.toUInt64 63)).toInt64) &&& (3689348814741910323 : Int64))).toUInt64 >>> ((4 : Int32).toInt64.toUInt64 &&& Int64.toUInt64 63)).toInt64)) &&& (1085102592571150095 : Int64)) + (((((((y0 - (((y0.toUInt64 >>> ((1 : Int32).toInt64.toUInt64 &&& Int64.toUInt64 63)).toInt64) &&& (6148914691236517205 : Int64))) &&& (3689348814741910323 : Int64)) + ((((y0 - (((y0.toUInt64 >>> ((1 : Int32).toInt64.toUInt64 &&& Int64.toUInt64 63)).toInt64) &&& (6148914691236517205 : Int64))).toUInt64 >>> ((2 : Int32).toInt64.toUInt64 &&& Int64.toUInt64 63)).toInt64) &&& (3689348814741910323 : Int64))) + (((((y0 - (((y0.toUInt64 >>> ((1 : Int32).toInt64.toUInt64 &&& Int64.toUInt64 63)).toInt64) &&& (6148914691236517205 : Int64))) &&& (3689348814741910323 : Int64)) + ((((y0 - (((y0.toUInt64 >>> ((1 : Int32).toInt64.toUInt64 &&& Int64.toUInt64 63)).toInt64) &&& (6148914691236517205 : Int64))).toUInt64 >>> ((2 : Int32).toInt64.toUInt64 &&& Int64.toUInt64 63)).toInt64) &&& (3689348814741910323 : Int64))).toUInt64 >>> ((4 : Int32).toInt64.toUInt64 &&& Int64.toUInt64 63)).toInt64)) &&& (1085102592571150095 : Int64)).toUInt64 >>> ((8 : Int32).toInt64.toUInt64 &&& Int64.toUInt64 63)).toInt64)) + ((((((((y0 - (((y0.toUInt64 >>> ((1 : Int32).toInt64.toUInt64 &&& Int64.toUInt64 63)).toInt64) &&& (6148914691236517205 : Int64))) &&& (3689348814741910323 : Int64)) + ((((y0 - (((y0.toUInt64 >>> ((1 : Int32).toInt64.toUInt64 &&& Int64.toUInt64 63)).toInt64) &&& (6148914691236517205 : Int64))).toUInt64 >>> ((2 : Int32).toInt64.toUInt64 &&& Int64.toUInt64 63)).toInt64) &&& (3689348814741910323 : Int64))) + (((((y0 - (((y0.toUInt64 >>> ((1 : Int32).toInt64.toUInt64 &&& Int64.toUInt64 63)).toInt64) &&& (6148914691236517205 : Int64))) &&& (3689348814741910323 : Int64)) + ((((y0 - (((y0.toUInt64 >>> ((1 : Int32).toInt64.toUInt64 &&& Int64.toUInt64 63)).toInt64) &&& (6148914691236517205 : Int64))).toUInt64 >>> ((2 : Int32).toInt64.toUInt64 &&& Int64.toUInt64 63)).toInt64) &&& (3689348814741910323 : Int64))).toUInt64 >>> ((4 : Int32).toInt64.toUInt64 &&& Int64.toUInt64 63)).toInt64)) &&& (1085102592571150095 : Int64)) + (((((((y0 - (((y0.toUInt64 >>> ((1 : Int32).toInt64.toUInt64 &&& Int64.toUInt64 63)).toInt64) &&& (6148914691236517205 : Int64))) &&& (3689348814741910323 : Int64)) + ((((y0 - (((y0.toUInt64 >>> ((1 : Int32).toInt64.toUInt64 &&& Int64.toUInt64 63)).toInt64) &&& (6148914691236517205 : Int64))).toUInt64 >>> ((2 : Int32).toInt64.toUInt64 &&& Int64.toUInt64 63)).toInt64) &&& (3689348814741910323 : Int64))) + (((((y0 - (((y0.toUInt64 >>> ((1 : Int32).toInt64.toUInt64 &&& Int64.toUInt64 63)).toInt64) &&& (6148914691236517205 : Int64))) &&& (3689348814741910323 : Int64)) + ((((y0 - (((y0.toUInt64 >>> ((1 : Int32).toInt64.toUInt64 &&& Int64.toUInt64 63)).toInt64) &&& (6148914691236517205 : Int64))).toUInt64 >>> ((2 : Int32).toInt64.toUInt64 &&& Int64.toUInt64 63)).toInt64) &&& (3689348814741910323 : Int64))).toUInt64 >>> ((4 : Int32).toInt64.toUInt64 &&& Int64.toUInt64 63)).toInt64)) &&& (1085102592571150095 : Int64)).toUInt64 >>> ((8 : Int32).toInt64.toUInt64 &&& Int64.toUInt64 63)).toInt64)).toUInt64 >>> ((16 : Int32).toInt64.toUInt64 &&& Int64.toUInt64 63)).toInt64)) + (((((((((y0 - (((y0.toUInt64 >>> ((1 : Int32).toInt64.toUInt64 &&& Int64.toUInt64 63)).toInt64) &&& (6148914691236517205 : Int64))) &&& (3689348814741910323 : Int64)) + ((((y0 - (((y0.toUInt64 >>> ((1 : Int32).toInt64.toUInt64 &&& Int64.toUInt64 63)).toInt64) &&& (6148914691236517205 : Int64))).toUInt64 >>> ((2 : Int32).toInt64.toUInt64 &&& Int64.toUInt64 63)).toInt64) &&& (3689348814741910323 : Int64))) + (((((y0 - (((y0.toUInt64 >>> ((1 : Int32).toInt64.toUInt64 &&& Int64.toUInt64 63)).toInt64) &&& (6148914691236517205 : Int64))) &&& (3689348814741910323 : Int64)) + ((((y0 - (((y0.toUInt64 >>> ((1 : Int32).toInt64.toUInt64 &&& Int64.toUInt64 63)).toInt64) &&& (6148914691236517205 : Int64))).toUInt64 >>> ((2 : Int32).toInt64.toUInt64 &&& Int64.toUInt64 63)).toInt64) &&& (3689348814741910323 : Int64))).toUInt64 >>> ((4 : Int32).toInt64.toUInt64 &&& Int64.toUInt64 63)).toInt64)) &&& (1085102592571150095 : Int64)) + (((((((y0 - (((y0.toUInt64 >>> ((1 : Int32).toInt64.toUInt64 &&& Int64.toUInt64 63)).toInt64) &&& (6148914691236517205 : Int64))) &&& (3689348814741910323 : Int64)) + ((((y0 - (((y0.toUInt64 >>> ((1 : Int32).toInt64.toUInt64 &&& Int64.toUInt64 63)).toInt64) &&& (6148914691236517205 : Int64))).toUInt64 >>> ((2 : Int32).toInt64.toUInt64 &&& Int64.toUInt64 63)).toInt64) &&& (3689348814741910323 : Int64))) + (((((y0 - (((y0.toUInt64 >>> ((1 : Int32).toInt64.toUInt64 &&& Int64.toUInt64 63)).toInt64) &&& (6148914691236517205 : Int64))) &&& (3689348814741910323 : Int64)) + ((((y0 - (((y0.toUInt64 >>> ((1 : Int32).toInt64.toUInt64 &&& Int64.toUInt64 63)).toInt64) &&& (6148914691236517205 : Int64))).toUInt64 >>> ((2 : Int32).toInt64.toUInt64 &&& Int64.toUInt64 63)).toInt64) &&& (3689348814741910323 : Int64))).toUInt64 >>> ((4 : Int32).toInt64.toUInt64 &&& Int64.toUInt64 63)).toInt64)) &&& (1085102592571150095 : Int64)).toUInt64 >>> ((8 : Int32).toInt64.toUInt64 &&& Int64.toUInt64 63)).toInt64)) + ((((((((y0 - (((y0.toUInt64 >>> ((1 : Int32).toInt64.toUInt64 &&& Int64.toUInt64 63)).toInt64) &&& (6148914691236517205 : Int64))) &&& (3689348814741910323 : Int64)) + ((((y0 - (((y0.toUInt64 >>> ((1 : Int32).toInt64.toUInt64 &&& Int64.toUInt64 63)).toInt64) &&& (6148914691236517205 : Int64))).toUInt64 >>> ((2 : Int32).toInt64.toUInt64 &&& Int64.toUInt64 63)).toInt64) &&& (3689348814741910323 : Int64))) + (((((y0 - (((y0.toUInt64 >>> ((1 : Int32).toInt64.toUInt64 &&& Int64.toUInt64 63)).toInt64) &&& (6148914691236517205 : Int64))) &&& (3689348814741910323 : Int64)) + ((((y0 - (((y0.toUInt64 >>> ((1 : Int32).toInt64.toUInt64 &&& Int64.toUInt64 63)).toInt64) &&& (6148914691236517205 : Int64))).toUInt64 >>> ((2 : Int32).toInt64.toUInt64 &&& Int64.toUInt64 63)).toInt64) &&& (3689348814741910323 : Int64))).toUInt64 >>> ((4 : Int32).toInt64.toUInt64 &&& Int64.toUInt64 63)).toInt64)) &&& (1085102592571150095 : Int64)) + (((((((y0 - (((y0.toUInt64 >>> ((1 : Int32).toInt64.toUInt64 &&& Int64.toUInt64 63)).toInt64) &&& (6148914691236517205 : Int64))) &&& (3689348814741910323 : Int64)) + ((((y0 - (((y0.toUInt64 >>> ((1 : Int32).toInt64.toUInt64 &&& Int64.toUInt64 63)).toInt64) &&& (6148914691236517205 : Int64))).toUInt64 >>> ((2 : Int32).toInt64.toUInt64 &&& Int64.toUInt64 63)).toInt64) &&& (3689348814741910323 : Int64))) + (((((y0 - (((y0.toUInt64 >>> ((1 : Int32).toInt64.toUInt64 &&& Int64.toUInt64 63)).toInt64) &&& (6148914691236517205 : Int64))) &&& (3689348814741910323 : Int64)) + ((((y0 - (((y0.toUInt64 >>> ((1 : Int32).toInt64.toUInt64 &&& Int64.toUInt64 63)).toInt64) &&& (6148914691236517205 : Int64))).toUInt64 >>> ((2 : Int32).toInt64.toUInt64 &&& Int64.toUInt64 63)).toInt64) &&& (3689348814741910323 : Int64))).toUInt64 >>> ((4 : Int32).toInt64.toUInt64 &&& Int64.toUInt64 63)).toInt64)) &&& (1085102592571150095 : Int64)).toUInt64 >>> ((8 : Int32).toInt64.toUInt64 &&& Int64.toUInt64 63)).toInt64)).toUInt64 >>> ((16 : Int32).toInt64.toUInt64 &&& Int64.toUInt64 63)).toInt64)).toUInt64 >>> ((32 : Int32).toInt64.toUInt64 &&& Int64.toUInt64 63)).toInt64)).toInt32) &&& (127 : Int32)

def shrL (y : Int64) (k : Int32) : Int64 := (y.toUInt64 >>> (k.toInt64.toUInt64 &&& Int64.toUInt64 63)).toInt64
theorem shrL_lN {a n : Nat} {k : Int32} (hk : k = nI n) (ha : a < 2 ^ 64) (hn : n < 64) : shrL (lN a) k = lN (a / 2 ^ n) := by
  subst hk
  unfold shrL
  rw [sh64 n hn]
  apply Int64.toBitVec_inj.mp
  apply BitVec.eq_of_toNat_eq
  show (UInt64.ofNat a >>> UInt64.ofNat n).toNat = (BitVec.ofNat 64 (a / 2 ^ n)).toNat
  rw [UInt64.toNat_shiftRight, UInt64.toNat_ofNat', UInt64.toNat_ofNat', Nat.mod_eq_of_lt ha, Nat.mod_eq_of_lt (show n < 2 ^ 64 by omega), Nat.mod_eq_of_lt hn, Nat.shiftRight_eq_div_pow, BitVec.toNat_ofNat, Nat.mod_eq_of_lt (Nat.lt_of_le_of_lt (Nat.div_le_self _ _) ha)]
theorem lN_and (a b : Nat) : lN a &&& lN b = lN (a &&& b) := by
  apply Int64.toBitVec_inj.mp
  simp [lN, BitVec.ofNat_and]
def p1 (y : Int64) : Int64 := y - (shrL y 1 &&& 6148914691236517205)
def p2 (y : Int64) : Int64 := (y &&& 3689348814741910323) + (shrL y 2 &&& 3689348814741910323)
def p3 (y : Int64) : Int64 := (y + shrL y 4) &&& 1085102592571150095
def p4 (y : Int64) (k : Int32) : Int64 := y + shrL y k
theorem popL_eq (y : Int64) : popL y = (p4 (p4 (p4 (p3 (p2 (p1 y))) 8) 16) 32).toInt32 &&& 127 := rfl
def Mk (k : Nat) : Nat → Nat
  | 0 => 0
  | n + 1 => k + 256 * Mk k n
def Cb (g : Nat → Nat) : Nat → Nat → Nat
  | 0, _ => 0
  | n + 1, x => g (x % 256) + 256 * Cb g n (x / 256)
theorem Mk_mod {k n : Nat} (hk : k < 256) : Mk k (n + 1) % 2 ^ 8 = k ∧ Mk k (n + 1) / 2 ^ 8 = Mk k n := by
  show (k + 256 * Mk k n) % 256 = k ∧ (k + 256 * Mk k n) / 256 = Mk k n
  omega
theorem and_byte {y k n : Nat} (hk : k < 256) : y &&& Mk k (n + 1) = ((y % 256) &&& k) + 256 * ((y / 256) &&& Mk k n) := by
  obtain ⟨m1, m2⟩ := Mk_mod (n := n) hk
  have e1 : (y &&& Mk k (n + 1)) % 2 ^ 8 = (y % 2 ^ 8) &&& k := by rw [Nat.and_mod_two_pow, m1]
  have e2 : (y &&& Mk k (n + 1)) / 2 ^ 8 = (y / 2 ^ 8) &&& Mk k n := by rw [Nat.and_div_two_pow, m2]
  have := Nat.div_add_mod (y &&& Mk k (n + 1)) (2 ^ 8)
  rw [e1, e2] at this
  show y &&& Mk k (n + 1) = ((y % 2 ^ 8) &&& k) + 2 ^ 8 * ((y / 2 ^ 8) &&& Mk k n)
  omega
theorem m1_d : ∀ b, b < 256 → ∀ e, e < 2 → ((b / 2 + 128 * e) &&& 85 = (b / 2) &&& 85) ∧ (b / 2) &&& 85 ≤ b := by decide +kernel
theorem m2_d : ∀ b, b < 256 → ∀ e, e < 4 → ((b / 4 + 64 * e) &&& 51 = (b / 4) &&& 51) := by decide +kernel
theorem m3_d : ∀ b, b < 256 → ∀ e, e < 5 → ((b + b / 16 + 16 * e) &&& 15 = (b + b / 16) &&& 15) := by decide +kernel
def f1b (b : Nat) : Nat := b - ((b / 2) &&& 85)
def f2b (b : Nat) : Nat := (b &&& 51) + ((b / 4) &&& 51)
def f3b (b : Nat) : Nat := (b + b / 16) &&& 15
theorem f_all : ∀ b, b < 256 → f1b b < 256 ∧ f2b (f1b b) < 256 ∧ f2b (f1b b) % 16 ≤ 4 ∧ f2b (f1b b) / 16 ≤ 4 ∧ f3b (f2b (f1b b)) = aPop b 8 ∧ aPop b 8 ≤ 8 := by decide +kernel
theorem s1_le : ∀ n x, x < 256 ^ n → (x / 2) &&& Mk 85 n ≤ x ∧ x - ((x / 2) &&& Mk 85 n) = Cb f1b n x := by
  intro n
  induction n with
  | zero =>
    intro x hx
    have : x = 0 := by omega
    subst this
    exact ⟨by decide, rfl⟩
  | succ n ih =>
    intro x hx
    rw [Nat.pow_succ] at hx
    obtain ⟨i1, i2⟩ := ih (x / 256) (by omega)
    obtain ⟨d1, d2⟩ := m1_d (x % 256) (by omega) (x / 256 % 2) (by omega)
    have e : (x / 2) &&& Mk 85 (n + 1) = ((x % 256 / 2) &&& 85) + 256 * ((x / 256 / 2) &&& Mk 85 n) := by
      rw [and_byte (by decide), show x / 2 % 256 = x % 256 / 2 + 128 * (x / 256 % 2) by omega, d1, show x / 2 / 256 = x / 256 / 2 by omega]
    rw [e]
    refine ⟨by omega, ?_⟩
    show _ = f1b (x % 256) + 256 * Cb f1b n (x / 256)
    rw [← i2]
    unfold f1b
    omega
theorem s2_eq : ∀ n y, (y &&& Mk 51 n) + ((y / 4) &&& Mk 51 n) = Cb f2b n y := by
  intro n
  induction n with
  | zero => intro y; show (y &&& 0) + ((y / 4) &&& 0) = 0; rw [Nat.and_zero, Nat.and_zero]
  | succ n ih =>
    intro y
    have d1 := m2_d (y % 256) (by omega) (y / 256 % 4) (by omega)
    rw [and_byte (y := y) (by decide), and_byte (y := y / 4) (by decide), show y / 4 % 256 = y % 256 / 4 + 64 * (y / 256 % 4) by omega, d1, show y / 4 / 256 = y / 256 / 4 by omega]
    show _ = f2b (y % 256) + 256 * Cb f2b n (y / 256)
    rw [← ih (y / 256)]
    unfold f2b
    omega
def nib : Nat → Nat → Prop
  | 0, z => z = 0
  | n + 1, z => z % 256 % 16 ≤ 4 ∧ z % 256 / 16 ≤ 4 ∧ nib n (z / 256)
theorem nib_low : ∀ n z, nib n z → z % 16 ≤ 4
  | 0, z, h => by rw [show z = 0 from h]; decide
  | n + 1, z, h => by have := h.1; omega
theorem s3_eq : ∀ n z, nib n z → (z + z / 16) &&& Mk 15 n = Cb f3b n z := by
  intro n
  induction n with
  | zero => intro z hz; rw [show z = 0 from hz]; rfl
  | succ n ih =>
    intro z hz
    obtain ⟨h1, h2, h3⟩ := hz
    have h4 := nib_low n _ h3
    have d1 := m3_d (z % 256) (by omega) (z / 256 % 16) (by omega)
    rw [and_byte (by decide), show (z + z / 16) % 256 = z % 256 + z % 256 / 16 + 16 * (z / 256 % 16) by omega, d1, show (z + z / 16) / 256 = z / 256 + z / 256 / 16 by omega, ih _ h3]
    rfl
theorem Cb_comp {f g : Nat → Nat} (hg : ∀ b, b < 256 → g b < 256) : ∀ n x, Cb f n (Cb g n x) = Cb (fun b => f (g b)) n x := by
  intro n
  induction n with
  | zero => intro x; rfl
  | succ n ih =>
    intro x
    have := hg (x % 256) (by omega)
    show f ((g (x % 256) + 256 * Cb g n (x / 256)) % 256) + 256 * Cb f n ((g (x % 256) + 256 * Cb g n (x / 256)) / 256) = f (g (x % 256)) + 256 * Cb (fun b => f (g b)) n (x / 256)
    rw [show (g (x % 256) + 256 * Cb g n (x / 256)) % 256 = g (x % 256) by omega, show (g (x % 256) + 256 * Cb g n (x / 256)) / 256 = Cb g n (x / 256) by omega, ih]
theorem Cb_congr {f g : Nat → Nat} (h : ∀ b, b < 256 → f b = g b) : ∀ n x, Cb f n x = Cb g n x := by
  intro n
  induction n with
  | zero => intro x; rfl
  | succ n ih =>
    intro x
    show f (x % 256) + _ = g (x % 256) + _
    rw [h _ (by omega), ih]
theorem Cb_nib {g : Nat → Nat} (h : ∀ b, b < 256 → g b < 256 ∧ g b % 16 ≤ 4 ∧ g b / 16 ≤ 4) : ∀ n x, nib n (Cb g n x) := by
  intro n
  induction n with
  | zero => intro x; rfl
  | succ n ih =>
    intro x
    obtain ⟨h1, h2, h3⟩ := h (x % 256) (by omega)
    show (g (x % 256) + 256 * Cb g n (x / 256)) % 256 % 16 ≤ 4 ∧ (g (x % 256) + 256 * Cb g n (x / 256)) % 256 / 16 ≤ 4 ∧ nib n ((g (x % 256) + 256 * Cb g n (x / 256)) / 256)
    rw [show (g (x % 256) + 256 * Cb g n (x / 256)) % 256 = g (x % 256) by omega, show (g (x % 256) + 256 * Cb g n (x / 256)) / 256 = Cb g n (x / 256) by omega]
    exact ⟨h2, h3, ih _⟩
theorem Cb_lt {g : Nat → Nat} (h : ∀ b, b < 256 → g b < 256) : ∀ n x, Cb g n x < 256 ^ n := by
  intro n
  induction n with
  | zero => intro x; show 0 < 1; decide
  | succ n ih =>
    intro x
    have h1 := h (x % 256) (by omega)
    have h2 := ih (x / 256)
    show g (x % 256) + 256 * Cb g n (x / 256) < _
    rw [Nat.pow_succ]
    omega
theorem aPop_split {x : Nat} : ∀ n, aPop x (8 + n) = aPop (x % 256) 8 + aPop (x / 256) n
  | 0 => by
    show aPop x 8 = aPop (x % 256) 8
    have : ∀ k, k ≤ 8 → aPop x k = aPop (x % 2 ^ 8) k := by
      intro k
      induction k with
      | zero => intro _; rfl
      | succ k ih =>
        intro hk
        show aPop x k + _ = aPop (x % 2 ^ 8) k + _
        rw [ih (by omega), Nat.testBit_mod_two_pow, decide_eq_true (show k < 8 by omega), Bool.true_and]
    exact this 8 (Nat.le_refl _)
  | n + 1 => by
    show aPop x (8 + n) + (if x.testBit (8 + n) then 1 else 0) = aPop (x % 256) 8 + (aPop (x / 256) n + (if (x / 256).testBit n then 1 else 0))
    rw [aPop_split n, show (x / 256).testBit n = x.testBit (8 + n) from (by rw [show (256 : Nat) = 2 ^ 8 from rfl, Nat.testBit_div_two_pow, Nat.add_comm])]
    omega
theorem aPop_more {ps k : Nat} (h : ps < 2 ^ k) : ∀ j, aPop ps (k + j) = aPop ps k
  | 0 => rfl
  | j + 1 => by
    show aPop ps (k + j) + (if ps.testBit (k + j) then 1 else 0) = _
    rw [Nat.testBit_lt_two_pow (Nat.lt_of_lt_of_le h (Nat.pow_le_pow_right (by decide) (by omega))), aPop_more h j]; rfl
theorem pop_sum {x : Nat} (hx : x < 2 ^ 64) : aPop x 64 = aPop (x % 256) 8 + (aPop (x / 256 % 256) 8 + (aPop (x / 256 / 256 % 256) 8 + (aPop (x / 256 / 256 / 256 % 256) 8 + (aPop (x / 256 / 256 / 256 / 256 % 256) 8 + (aPop (x / 256 / 256 / 256 / 256 / 256 % 256) 8 + (aPop (x / 256 / 256 / 256 / 256 / 256 / 256 % 256) 8 + aPop (x / 256 / 256 / 256 / 256 / 256 / 256 / 256 % 256) 8)))))) := by
  have e := fun (y : Nat) n => aPop_split (x := y) n
  rw [show (64 : Nat) = 8 + 56 from rfl, e, show (56 : Nat) = 8 + 48 from rfl, e, show (48 : Nat) = 8 + 40 from rfl, e, show (40 : Nat) = 8 + 32 from rfl, e, show (32 : Nat) = 8 + 24 from rfl, e, show (24 : Nat) = 8 + 16 from rfl, e, show (16 : Nat) = 8 + 8 from rfl, e, show aPop (x / 256 / 256 / 256 / 256 / 256 / 256 / 256) 8 = aPop (x / 256 / 256 / 256 / 256 / 256 / 256 / 256) (8 + 0) from rfl, e]
  rfl
theorem fold8 {c0 c1 c2 c3 c4 c5 c6 c7 : Nat} (h0 : c0 ≤ 8) (h1 : c1 ≤ 8) (h2 : c2 ≤ 8) (h3 : c3 ≤ 8) (h4 : c4 ≤ 8) (h5 : c5 ≤ 8) (h6 : c6 ≤ 8) (h7 : c7 ≤ 8) {C D E F : Nat} (hC : C = c0 + 256 * (c1 + 256 * (c2 + 256 * (c3 + 256 * (c4 + 256 * (c5 + 256 * (c6 + 256 * (c7 + 256 * 0)))))))) (hD : D = C + C / 2 ^ 8) (hE : E = D + D / 2 ^ 16) (hF : F = E + E / 2 ^ 32) : C < 2 ^ 63 ∧ D < 2 ^ 63 ∧ E < 2 ^ 63 ∧ F % 128 = c0 + (c1 + (c2 + (c3 + (c4 + (c5 + (c6 + c7)))))) := by
  obtain ⟨r7, e7⟩ : ∃ r, r = c7 + 256 * 0 := ⟨_, rfl⟩
  rw [← e7] at hC
  obtain ⟨r6, e6⟩ : ∃ r, r = c6 + 256 * r7 := ⟨_, rfl⟩
  rw [← e6] at hC
  obtain ⟨r5, e5⟩ : ∃ r, r = c5 + 256 * r6 := ⟨_, rfl⟩
  rw [← e5] at hC
  obtain ⟨r4, e4⟩ : ∃ r, r = c4 + 256 * r5 := ⟨_, rfl⟩
  rw [← e4] at hC
  obtain ⟨r3, e3⟩ : ∃ r, r = c3 + 256 * r4 := ⟨_, rfl⟩
  rw [← e3] at hC
  obtain ⟨r2, e2⟩ : ∃ r, r = c2 + 256 * r3 := ⟨_, rfl⟩
  rw [← e2] at hC
  obtain ⟨r1, e1⟩ : ∃ r, r = c1 + 256 * r2 := ⟨_, rfl⟩
  rw [← e1] at hC
  have d1 : C / 2 ^ 8 = r1 := by clear e1 e2 e3 e4 e5 e6 e7 hD hE hF; omega
  have hD1 : D = (c0 + c1) + 256 * (r1 + r2) := by rw [hD, d1, hC]; clear hD hE hF hC d1 e2 e3 e4 e5 e6 e7; omega
  have s1 : r1 + r2 = (c1 + c2) + 256 * (r2 + r3) := by clear hD hE hF hC d1 hD1 e3 e4 e5 e6 e7; omega
  have s2 : r2 + r3 = (c2 + c3) + 256 * (r3 + r4) := by clear hD hE hF hC d1 hD1 e1 e4 e5 e6 e7; omega
  have s3 : r3 + r4 = (c3 + c4) + 256 * (r4 + r5) := by clear hD hE hF hC d1 hD1 e1 e2 e5 e6 e7; omega
  have s4 : r4 + r5 = (c4 + c5) + 256 * (r5 + r6) := by clear hD hE hF hC d1 hD1 e1 e2 e3 e6 e7; omega
  have s5 : r5 + r6 = (c5 + c6) + 256 * (r6 + r7) := by clear hD hE hF hC d1 hD1 e1 e2 e3 e4 e7; omega
  have s6 : r6 + r7 = (c6 + c7) + 256 * r7 := by clear hD hE hF hC d1 hD1 e1 e2 e3 e4 e5; omega
  obtain ⟨t1, f1⟩ : ∃ t, t = r1 + r2 := ⟨_, rfl⟩
  obtain ⟨t2, f2⟩ : ∃ t, t = r2 + r3 := ⟨_, rfl⟩
  obtain ⟨t3, f3⟩ : ∃ t, t = r3 + r4 := ⟨_, rfl⟩
  obtain ⟨t4, f4⟩ : ∃ t, t = r4 + r5 := ⟨_, rfl⟩
  obtain ⟨t5, f5⟩ : ∃ t, t = r5 + r6 := ⟨_, rfl⟩
  obtain ⟨t6, f6⟩ : ∃ t, t = r6 + r7 := ⟨_, rfl⟩
  have b7 : r7 ≤ 8 := by clear hD hE hF hC d1 hD1; omega
  have b6 : r6 ≤ 2100 := by clear hD hE hF hC d1 hD1 e1 e2 e3 e4 e5 e7; omega
  have b5 : r5 ≤ 537700 := by clear hD hE hF hC d1 hD1 e1 e2 e3 e4 e6 e7; omega
  have b4 : r4 ≤ 137651300 := by clear hD hE hF hC d1 hD1 e1 e2 e3 e5 e6 e7; omega
  have b3 : r3 ≤ 35238732900 := by clear hD hE hF hC d1 hD1 e1 e2 e4 e5 e6 e7; omega
  have b2 : r2 ≤ 9021115622500 := by clear hD hE hF hC d1 hD1 e1 e3 e4 e5 e6 e7; omega
  have b1 : r1 ≤ 2309405599360100 := by clear hD hE hF hC d1 hD1 e2 e3 e4 e5 e6 e7; omega
  rw [← f1] at hD1
  rw [← f1, ← f2] at s1
  rw [← f2, ← f3] at s2
  rw [← f3, ← f4] at s3
  rw [← f4, ← f5] at s4
  rw [← f5, ← f6] at s5
  rw [← f6] at s6
  have d2 : D / 2 ^ 16 = t2 := by clear hD hE hF hC d1 s2 s3 s4 s5 s6 e1 e2 e3 e4 e5 e6 e7 f1 f2 f3 f4 f5 f6; omega
  have hE1 : E = (c0 + c1 + c2 + c3) + 256 * (t1 + t3) := by rw [hE, d2, hD1]; clear hD hE hF hC d1 d2 hD1 s1 s3 s4 s5 s6 e1 e2 e3 e4 e5 e6 e7 f1 f2 f3 f4 f5 f6; omega
  have u1 : t1 + t3 = (c1 + c2 + c3 + c4) + 256 * (t2 + t4) := by clear hD hE hF hC d1 d2 hD1 hE1 s2 s4 s5 s6 e1 e2 e3 e4 e5 e6 e7 f1 f2 f3 f4 f5 f6; omega
  have u2 : t2 + t4 = (c2 + c3 + c4 + c5) + 256 * (t3 + t5) := by clear hD hE hF hC d1 d2 hD1 hE1 s1 s3 s5 s6 e1 e2 e3 e4 e5 e6 e7 f1 f2 f3 f4 f5 f6 u1; omega
  have u3 : t3 + t5 = (c3 + c4 + c5 + c6) + 256 * (t4 + t6) := by clear hD hE hF hC d1 d2 hD1 hE1 s1 s2 s4 s6 e1 e2 e3 e4 e5 e6 e7 f1 f2 f3 f4 f5 f6 u1 u2; omega
  have u4 : t4 + t6 = (c4 + c5 + c6 + c7) + 256 * (t5 + r7) := by clear hD hE hF hC d1 d2 hD1 hE1 s1 s2 s3 s5 e1 e2 e3 e4 e5 e6 e7 f1 f2 f3 f4 f5 f6 u1 u2 u3; omega
  have d3 : E / 2 ^ 32 = t4 + t6 := by
    obtain ⟨x1, g1⟩ : ∃ t, t = t1 + t3 := ⟨_, rfl⟩
    obtain ⟨x2, g2⟩ : ∃ t, t = t2 + t4 := ⟨_, rfl⟩
    obtain ⟨x3, g3⟩ : ∃ t, t = t3 + t5 := ⟨_, rfl⟩
    obtain ⟨x4, g4⟩ : ∃ t, t = t4 + t6 := ⟨_, rfl⟩
    rw [← g1] at hE1
    rw [← g1, ← g2] at u1
    rw [← g2, ← g3] at u2
    rw [← g3, ← g4] at u3
    rw [← g4]
    clear hD hE hF hC d1 d2 hD1 s1 s2 s3 s4 s5 s6 e1 e2 e3 e4 e5 e6 e7 f1 f2 f3 f4 f5 f6 u4 g1 g2 g3 g4 b1 b2 b3 b4 b5 b6 b7
    omega
  refine ⟨by clear hD hE hF d1 d2 d3 hD1 hE1 s1 s2 s3 s4 s5 s6 e1 e2 e3 e4 e5 e6 e7 f1 f2 f3 f4 f5 f6 u1 u2 u3 u4; omega, by clear hD hE hF hC d1 d2 d3 hE1 s1 s2 s3 s4 s5 s6 e1 e2 e3 e4 e5 e6 e7 f2 f3 f4 f5 f6 u1 u2 u3 u4; omega, by clear hD hE hF hC d1 d2 d3 hD1 s1 s2 s3 s4 s5 s6 e1 e2 e3 e4 e5 e6 e7 f2 f4 f5 f6 u1 u2 u3 u4; omega, ?_⟩
  rw [hF, d3, hE1, u4]
  clear hD hE hF hC d1 d2 d3 hD1 hE1 s1 s2 s3 s4 s5 s6 e1 e2 e3 e4 e5 e6 e7 f1 f2 f3 f4 f5 f6 u1 u2 u3 u4
  omega
theorem popL_ok {x : Nat} (hx : x < 2 ^ 63) : popL (lN x) = nI (aPop x 64) := by
  have q1 : ∀ b, b < 256 → f1b b < 256 := fun b hb => (f_all b hb).1
  have q2 : ∀ b, b < 256 → f2b (f1b b) < 256 := fun b hb => (f_all b hb).2.1
  have hx64 : x < 256 ^ 8 := by omega
  obtain ⟨a1, a2⟩ := s1_le 8 x hx64
  have k1 : (6148914691236517205 : Int64) = lN (Mk 85 8) := by decide
  have k2 : (3689348814741910323 : Int64) = lN (Mk 51 8) := by decide
  have k3 : (1085102592571150095 : Int64) = lN (Mk 15 8) := by decide
  have e1 : p1 (lN x) = lN (Cb f1b 8 x) := by
    unfold p1
    rw [shrL_lN (k := 1) (n := 1) rfl (by omega) (by decide), k1, lN_and, lN_sub (by simpa using a1), ← a2]
  have b1 : Cb f1b 8 x < 2 ^ 64 := Cb_lt q1 8 x
  have e2 : p2 (lN (Cb f1b 8 x)) = lN (Cb (fun b => f2b (f1b b)) 8 x) := by
    unfold p2
    rw [shrL_lN (k := 2) (n := 2) rfl b1 (by decide), k2, lN_and, lN_and, lN_add, ← Cb_comp q1, ← s2_eq]
  have b2 : Cb (fun b => f2b (f1b b)) 8 x < 2 ^ 64 := Cb_lt q2 8 x
  have e3 : p3 (lN (Cb (fun b => f2b (f1b b)) 8 x)) = lN (Cb (fun b => aPop b 8) 8 x) := by
    unfold p3
    rw [shrL_lN (k := 4) (n := 4) rfl b2 (by decide), k3, lN_add, lN_and, ← Cb_congr (f := fun b => f3b (f2b (f1b b))) (fun b hb => (f_all b hb).2.2.2.2.1), ← Cb_comp (f := f3b) (g := fun b => f2b (f1b b)) q2, ← s3_eq 8 _ (Cb_nib (fun b hb => ⟨(f_all b hb).2.1, (f_all b hb).2.2.1, (f_all b hb).2.2.2.1⟩) 8 x)]
  have p8 : ∀ y, aPop (y % 256) 8 ≤ 8 := fun y => (f_all _ (Nat.mod_lt _ (by decide))).2.2.2.2.2
  obtain ⟨g1, g2, g3, g4⟩ := fold8 (p8 x) (p8 (x / 256)) (p8 (x / 256 / 256)) (p8 (x / 256 / 256 / 256)) (p8 (x / 256 / 256 / 256 / 256)) (p8 (x / 256 / 256 / 256 / 256 / 256)) (p8 (x / 256 / 256 / 256 / 256 / 256 / 256)) (p8 (x / 256 / 256 / 256 / 256 / 256 / 256 / 256)) (C := Cb (fun b => aPop b 8) 8 x) rfl rfl rfl rfl
  rw [popL_eq, e1, e2, e3]
  unfold p4
  rw [shrL_lN (k := 8) (n := 8) rfl (by omega) (by decide), lN_add, shrL_lN (k := 16) (n := 16) rfl (by omega) (by decide), lN_add, shrL_lN (k := 32) (n := 32) rfl (by omega) (by decide), lN_add, lN_i, pk_and _ 7 (by decide), pop_sum (by omega), ← g4]
  congr 1
  show BitVec.toNat (BitVec.ofNat 32 _) % 128 = _
  rw [BitVec.toNat_ofNat]
  omega
theorem c_bitCountL {y : Int64} {m : Nat} {w : jx_W} {K : jx_Q} (hy : y = lN m) (hm : m < 2 ^ 63) (hK : K w (some (.int (nI (aPop m 64))))) : zcall n_JL_bitCount [.long y] w K := by
  subst hy
  rw [← popL_ok hm] at hK
  exact e_JL_bitCount (b_JL_bitCount_0 hK)
