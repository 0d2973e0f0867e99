/-! THE CLASS: bits of longs; the automaton as it is read -/
theorem lN_or (a b : Nat) : lN a ||| lN b = lN (a ||| b) := by
  apply Int64.toBitVec_inj.mp
  simp [lN, BitVec.ofNat_or]
theorem lN_pow : ∀ k, k < 63 → (1 : Int64) <<< ((nI k).toInt64 &&& 63) = lN (2 ^ k) := by decide +kernel
theorem sh64 : ∀ n, n < 64 → ((nI n).toInt64.toUInt64 &&& Int64.toUInt64 63) = UInt64.ofNat n := by decide +kernel
theorem lN_bit {ps n : Nat} (hp : ps < 2 ^ 63) (hn : n < 64) : (((lN ps).toUInt64 >>> ((nI n).toInt64.toUInt64 &&& Int64.toUInt64 63)).toInt64) &&& 1 = lN (ps / 2 ^ n % 2) := by
  rw [sh64 n hn]
  apply Int64.toBitVec_inj.mp
  apply BitVec.eq_of_toNat_eq
  show ((UInt64.ofNat ps >>> UInt64.ofNat n).toBitVec &&& (1 : Int64).toBitVec).toNat = (BitVec.ofNat 64 (ps / 2 ^ n % 2)).toNat
  rw [BitVec.toNat_and, BitVec.toNat_ofNat]
  show (UInt64.ofNat ps >>> UInt64.ofNat n).toNat &&& 1 = _
  rw [UInt64.toNat_shiftRight, UInt64.toNat_ofNat', UInt64.toNat_ofNat', Nat.mod_eq_of_lt (show ps < 2 ^ 64 by omega), Nat.mod_eq_of_lt (show n < 2 ^ 64 by omega), Nat.mod_eq_of_lt hn, Nat.shiftRight_eq_div_pow, Nat.and_one_is_mod]
  have : ps / 2 ^ n % 2 < 2 := Nat.mod_lt _ (by decide)
  rw [Nat.mod_eq_of_lt (show ps / 2 ^ n % 2 < 2 ^ 64 by omega)]
theorem lN_tb {ps n : Nat} (hp : ps < 2 ^ 63) (hn : n < 64) : lg_cmp ((((lN ps).toUInt64 >>> ((nI n).toInt64.toUInt64 &&& Int64.toUInt64 63)).toInt64) &&& 1) 0 = 0 ↔ ps.testBit n = false := by
  rw [lg_cmp_eq, lN_bit hp hn]
  have h2 : ps / 2 ^ n % 2 < 2 := Nat.mod_lt _ (by decide)
  have e : (lN (ps / 2 ^ n % 2) = 0) ↔ ps / 2 ^ n % 2 = 0 := lN_eq (b := 0) (by omega) (by decide)
  rw [e, Nat.testBit_eq_decide_div_mod_eq]
  constructor
  · intro h; rw [h]; rfl
  · intro h
    have := of_decide_eq_false h
    omega
theorem lN_inj {a b : Nat} (ha : a < 2 ^ 64) (hb : b < 2 ^ 64) : lN a = lN b ↔ a = b := by
  constructor
  · intro h
    have := congrArg (fun x : Int64 => x.toBitVec.toNat) h
    have e : ∀ n, n < 2 ^ 64 → (lN n).toBitVec.toNat = n := fun n hn => by
      show (BitVec.ofNat 64 n).toNat = n
      rw [BitVec.toNat_ofNat, Nat.mod_eq_of_lt hn]
    rw [← e a ha, ← e b hb]
    exact this
  · intro h; rw [h]
theorem lN_shl {a : Nat} : lN a <<< ((25 : Int32).toInt64 &&& 63) = lN (a * 2 ^ 25) := by
  apply Int64.toBitVec_inj.mp
  apply BitVec.eq_of_toNat_eq
  have e : ((25 : Int32).toInt64 &&& 63).toBitVec.smod 64 = 25#64 := by decide
  show ((BitVec.ofNat 64 a) <<< (((25 : Int32).toInt64 &&& 63).toBitVec.smod 64)).toNat = (BitVec.ofNat 64 (a * 2 ^ 25)).toNat
  rw [e]
  show ((BitVec.ofNat 64 a) <<< (25 : Nat)).toNat = _
  rw [BitVec.toNat_shiftLeft, BitVec.toNat_ofNat, BitVec.toNat_ofNat, Nat.shiftLeft_eq, Nat.mod_mul_mod]
theorem aLong_lN {ps : Nat} (h : ps < 2 ^ 49) : aLong ps = lN ps := by
  unfold aLong
  have h1 : ps / 2 ^ 25 < 2 ^ 31 := ps_high h
  rw [nI_l ps_low, nI_l h1, lN_shl, lN_add]
  congr 1
  have := Nat.div_add_mod ps (2 ^ 25)
  omega
/-- the class's automaton, as it is read -/
def AUr (c : Nat → Int32) (r : Nat → Nat → Int32) (A : aAU) : Prop := c 0 = nI A.1 ∧ (∀ n l, n < A.1 → l < 26 → r 7 (26 * n + l) = nI (A.2.1 n l)) ∧ (∀ n, n < A.1 → r 5 n = nI (A.2.2.1 n)) ∧ ∀ v, v < 6 → r 6 v = nI (A.2.2.2 v)
theorem Auw_eq {W : jx_W} {s : Nat} {c : Nat → Int32} {r : Nat → Nat → Int32} (h : At W s 9 (AuC s c r)) : Auw W s c r = W := bw_self h
theorem stK_bit {A : aAU} {ps l t : Nat} : ∀ {n : Nat}, (stK A ps l n).testBit t = true ↔ ∃ m, m < n ∧ ps.testBit m = true ∧ A.2.1 m l = t
  | 0 => ⟨fun h => (by rw [show stK A ps l 0 = 0 from rfl, Nat.zero_testBit] at h; cases h), fun ⟨m, h, _⟩ => absurd h (Nat.not_lt_zero _)⟩
  | n + 1 => by
    show (stK A ps l n ||| _).testBit t = true ↔ _
    rw [Nat.testBit_or, Bool.or_eq_true, stK_bit]
    constructor
    · rintro (⟨m, h1, h2⟩ | h)
      · exact ⟨m, by omega, h2⟩
      · split at h
        · rename_i hp
          rw [Nat.testBit_two_pow] at h
          exact ⟨n, by omega, hp, of_decide_eq_true h⟩
        · rw [Nat.zero_testBit] at h; cases h
    · rintro ⟨m, h1, h2, h3⟩
      by_cases e : m = n
      · subst e
        refine Or.inr ?_
        rw [if_pos h2, Nat.testBit_two_pow, decide_eq_true h3]
      · exact Or.inl ⟨m, by omega, h2, h3⟩
def nxA (A : aAU) (ps : Nat) : Nat → Nat
  | 0 => 0
  | l + 1 => nxA A ps l ||| stepSet A ps l
theorem nxA_bit {A : aAU} {ps t : Nat} : ∀ {k : Nat}, (nxA A ps k).testBit t = true ↔ ∃ l m, l < k ∧ m < A.1 ∧ ps.testBit m = true ∧ A.2.1 m l = t
  | 0 => ⟨fun h => (by rw [show nxA A ps 0 = 0 from rfl, Nat.zero_testBit] at h; cases h), fun ⟨l, m, h, _⟩ => absurd h (Nat.not_lt_zero _)⟩
  | k + 1 => by
    show (nxA A ps k ||| stepSet A ps k).testBit t = true ↔ _
    rw [Nat.testBit_or, Bool.or_eq_true, nxA_bit]
    unfold stepSet
    rw [stK_bit]
    constructor
    · rintro (⟨l, m, h1, h2⟩ | ⟨m, h1, h2⟩)
      · exact ⟨l, m, by omega, h2⟩
      · exact ⟨k, m, by omega, h1, h2⟩
    · rintro ⟨l, m, h1, h2⟩
      by_cases e : l = k
      · subst e; exact Or.inr ⟨m, h2⟩
      · exact Or.inl ⟨l, m, by omega, h2⟩
theorem nxA_lt {A : aAU} {ps : Nat} (hA : auOk A) : ∀ {k : Nat}, k ≤ 26 → nxA A ps k < 2 ^ 49
  | 0, _ => by show 0 < 2 ^ 49; decide
  | k + 1, h => Nat.or_lt_two_pow (nxA_lt hA (by omega)) (stK_lt hA (by omega) (Nat.le_refl _))
theorem rowO_bit {A : aAU} {k acc t : Nat} : ∀ {l : Nat}, (rowO A k acc l).testBit t = true ↔ acc.testBit t = true ∨ ∃ m, m < l ∧ A.2.1 k m = t
  | 0 => ⟨Or.inl, fun h => h.elim id (fun ⟨m, h, _⟩ => absurd h (Nat.not_lt_zero _))⟩
  | l + 1 => by
    show (rowO A k acc l ||| 2 ^ A.2.1 k l).testBit t = true ↔ _
    rw [Nat.testBit_or, Bool.or_eq_true, rowO_bit, Nat.testBit_two_pow]
    constructor
    · rintro ((h | ⟨m, h1, h2⟩) | h)
      · exact Or.inl h
      · exact Or.inr ⟨m, by omega, h2⟩
      · exact Or.inr ⟨l, by omega, of_decide_eq_true h⟩
    · rintro (h | ⟨m, h1, h2⟩)
      · exact Or.inl (Or.inl h)
      · by_cases e : m = l
        · subst e; exact Or.inr (decide_eq_true h2)
        · exact Or.inl (Or.inr ⟨m, by omega, h2⟩)
theorem widK_bit {A : aAU} {ps t : Nat} : ∀ {k : Nat}, (widK A ps k).testBit t = true ↔ (ps ||| 1).testBit t = true ∨ ∃ m, m < k ∧ ps.testBit m = true ∧ ∃ l, l < 26 ∧ A.2.1 m l = t
  | 0 => ⟨Or.inl, fun h => h.elim id (fun ⟨m, h, _⟩ => absurd h (Nat.not_lt_zero _))⟩
  | k + 1 => by
    unfold widK
    by_cases hp : ps.testBit k = true
    · rw [if_pos hp, rowO_bit, widK_bit]
      constructor
      · rintro ((h | ⟨m, h1, h2⟩) | h)
        · exact Or.inl h
        · exact Or.inr ⟨m, by omega, h2⟩
        · exact Or.inr ⟨k, by omega, hp, h⟩
      · rintro (h | ⟨m, h1, h2, h3⟩)
        · exact Or.inl (Or.inl h)
        · by_cases e : m = k
          · subst e; exact Or.inr h3
          · exact Or.inl (Or.inr ⟨m, by omega, h2, h3⟩)
    · rw [if_neg hp, widK_bit]
      constructor
      · rintro (h | ⟨m, h1, h2⟩)
        · exact Or.inl h
        · exact Or.inr ⟨m, by omega, h2⟩
      · rintro (h | ⟨m, h1, h2, h3⟩)
        · exact Or.inl h
        · by_cases e : m = k
          · subst e; exact absurd h2 hp
          · exact Or.inr ⟨m, by omega, h2, h3⟩
theorem wid_eq {A : aAU} {ps : Nat} : wid A ps = (ps ||| nxA A ps 26) ||| 1 := by
  refine Nat.eq_of_testBit_eq (fun t => ?_)
  have h1 : (wid A ps).testBit t = true ↔ ((ps ||| nxA A ps 26) ||| 1).testBit t = true := by
    unfold wid
    rw [widK_bit, Nat.testBit_or, Nat.testBit_or, Nat.testBit_or, Bool.or_eq_true, Bool.or_eq_true, Bool.or_eq_true, nxA_bit]
    constructor
    · rintro ((h | h) | ⟨m, h1, h2, l, h3, h4⟩)
      · exact Or.inl (Or.inl h)
      · exact Or.inr h
      · exact Or.inl (Or.inr ⟨l, m, h3, h1, h2, h4⟩)
    · rintro ((h | ⟨l, m, h3, h1, h2, h4⟩) | h)
      · exact Or.inl (Or.inl h)
      · exact Or.inr ⟨m, h1, h2, l, h3, h4⟩
      · exact Or.inl (Or.inr h)
  cases ha : (wid A ps).testBit t <;> cases hb : ((ps ||| nxA A ps 26) ||| 1).testBit t
  · rfl
  · rw [h1.mpr hb] at ha; cases ha
  · rw [h1.mp ha] at hb; cases hb
  · rfl
section CAuto
variable {W : jx_W} {s : Nat} {c : Nat → Int32} {r : Nat → Nat → Int32} {K : jx_Q} {A : aAU}
theorem c_nextOf0 {x y : Int32} {n l : Nat} (hW : At W s 9 (AuC s c r)) (hx : x = nI n) (hy : y = nI l) (hn : n < 49) (hl : l < 26) (hK : K W (some (.int (r 7 (26 * n + l))))) : zcall n_A_nextOf [.ref s, .int x, .int y] W K := by
  subst hx hy
  rw [← Auw_eq hW] at hK ⊢
  refine e_A_nextOf (b_A_nextOf_0 ⟨fun z => absurd z (nI_pos (by omega)), fun _ => ⟨fun z => absurd ((nI_leI (a := 49) (by decide) (by omega)).mp z) (by omega), fun _ => ⟨fun z => absurd z (nI_pos (by omega)), fun _ => ⟨fun _ => b_A_nextOf_2 ?_, fun z => absurd ((nI_ltI (b := 26) (by omega) (by decide)).mpr hl) z⟩⟩⟩⟩)
  simp only [and_assoc, exists_and_left, exists_eq_left, exists_eq_left', Option.some.injEq, Value.int.injEq, Value.ref.injEq, Value.long.injEq, true_and, and_true, exists_eq, exists_true_left, FdF_0, FdF_s0, FdF_1, FdF_s1, FdF_2, FdF_s2, FdF_3, FdF_s3, FdF_4, FdF_5, FdF_6, FdF_7, FdF_len, Fdw_ob, Fdw_uob, Fdw_4, Fdw_g4, Fdw_v4, Fdw_u4, Fdw_5, Fdw_g5, Fdw_v5, Fdw_u5, Fdw_6, Fdw_g6, Fdw_v6, Fdw_u6, Fdw_7, Fdw_g7, Fdw_v7, Fdw_u7, WdF_0, WdF_1, WdF_len, Wdw_ob, Wdw_0, Wdw_g0, Wdw_v0, Wdw_u0, Wdw_1, Wdw_g1, Wdw_v1, Wdw_u1, AuF_0, AuF_s0, AuF_1, AuF_2, AuF_3, AuF_4, AuF_5, AuF_6, AuF_7, AuF_8, AuF_len, Auw_ob, Auw_uob, Auw_1, Auw_g1, Auw_v1, Auw_u1, Auw_2, Auw_g2, Auw_v2, Auw_u2, Auw_3, Auw_g3, Auw_v3, Auw_u3, Auw_4, Auw_g4, Auw_v4, Auw_u4, Auw_5, Auw_g5, Auw_v5, Auw_u5, Auw_6, Auw_g6, Auw_v6, Auw_u6, Auw_7, Auw_g7, Auw_v7, Auw_u7, Auw_8, Auw_g8, Auw_v8, Auw_u8, SgF_0, SgF_s0, SgF_1, SgF_2, SgF_3, SgF_len, Sgw_ob, Sgw_uob, Sgw_1, Sgw_g1, Sgw_v1, Sgw_u1, Sgw_2, Sgw_g2, Sgw_v2, Sgw_u2, Sgw_3, Sgw_g3, Sgw_v3, Sgw_u3, RdF_0, RdF_1, RdF_2, RdF_s2, RdF_3, RdF_s3, RdF_4, RdF_s4, RdF_5, RdF_s5, RdF_6, RdF_s6, RdF_7, RdF_s7, RdF_8, RdF_s8, RdF_9, RdF_10, RdF_11, RdF_s11, RdF_12, RdF_s12, RdF_13, RdF_s13, RdF_14, RdF_s14, RdF_len, Rdw_ob, Rdw_uob, Rdw_9, Rdw_g9, Rdw_v9, Rdw_u9, Rdw_10, Rdw_g10, Rdw_v10, Rdw_u10, FlF_0, FlF_s0, FlF_1, FlF_s1, FlF_2, FlF_s2, FlF_3, FlF_s3, FlF_4, FlF_5, FlF_6, FlF_7, FlF_s7, FlF_8, FlF_s8, FlF_9, FlF_s9, FlF_10, FlF_s10, FlF_11, FlF_s11, FlF_len, Flw_ob, Flw_uob, Flw_pob, Flw_upob, Flw_p1, Flw_p2, Flw_p3, Flw_lob, Flw_ulob, Flw_l1, Flw_l2, Flw_l3, Flw_rob, Nat.reduceLT, rup_s, rup_rup]
  rw [lit_26, pk_mul, nI_add, nI_clamp (by omega), Nat.mul_comm n 26]
  exact ⟨vp_in_nI (by omega) (by decide), hK⟩
theorem c_wordsOf0 {x : Int32} {n : Nat} (hW : At W s 9 (AuC s c r)) (hx : x = nI n) (hn : n < 49) (hK : K W (some (.int (r 5 n)))) : zcall n_A_wordsOf [.ref s, .int x] W K := by
  subst hx
  rw [← Auw_eq hW] at hK ⊢
  refine e_A_wordsOf (b_A_wordsOf_0 ⟨fun z => absurd z (nI_pos (by omega)), fun _ => ⟨fun z => absurd ((nI_leI (a := 49) (by decide) (by omega)).mp z) (by omega), fun _ => ?_⟩⟩)
  simp only [and_assoc, exists_and_left, exists_eq_left, exists_eq_left', Option.some.injEq, Value.int.injEq, Value.ref.injEq, Value.long.injEq, true_and, and_true, exists_eq, exists_true_left, FdF_0, FdF_s0, FdF_1, FdF_s1, FdF_2, FdF_s2, FdF_3, FdF_s3, FdF_4, FdF_5, FdF_6, FdF_7, FdF_len, Fdw_ob, Fdw_uob, Fdw_4, Fdw_g4, Fdw_v4, Fdw_u4, Fdw_5, Fdw_g5, Fdw_v5, Fdw_u5, Fdw_6, Fdw_g6, Fdw_v6, Fdw_u6, Fdw_7, Fdw_g7, Fdw_v7, Fdw_u7, WdF_0, WdF_1, WdF_len, Wdw_ob, Wdw_0, Wdw_g0, Wdw_v0, Wdw_u0, Wdw_1, Wdw_g1, Wdw_v1, Wdw_u1, AuF_0, AuF_s0, AuF_1, AuF_2, AuF_3, AuF_4, AuF_5, AuF_6, AuF_7, AuF_8, AuF_len, Auw_ob, Auw_uob, Auw_1, Auw_g1, Auw_v1, Auw_u1, Auw_2, Auw_g2, Auw_v2, Auw_u2, Auw_3, Auw_g3, Auw_v3, Auw_u3, Auw_4, Auw_g4, Auw_v4, Auw_u4, Auw_5, Auw_g5, Auw_v5, Auw_u5, Auw_6, Auw_g6, Auw_v6, Auw_u6, Auw_7, Auw_g7, Auw_v7, Auw_u7, Auw_8, Auw_g8, Auw_v8, Auw_u8, SgF_0, SgF_s0, SgF_1, SgF_2, SgF_3, SgF_len, Sgw_ob, Sgw_uob, Sgw_1, Sgw_g1, Sgw_v1, Sgw_u1, Sgw_2, Sgw_g2, Sgw_v2, Sgw_u2, Sgw_3, Sgw_g3, Sgw_v3, Sgw_u3, RdF_0, RdF_1, RdF_2, RdF_s2, RdF_3, RdF_s3, RdF_4, RdF_s4, RdF_5, RdF_s5, RdF_6, RdF_s6, RdF_7, RdF_s7, RdF_8, RdF_s8, RdF_9, RdF_10, RdF_11, RdF_s11, RdF_12, RdF_s12, RdF_13, RdF_s13, RdF_14, RdF_s14, RdF_len, Rdw_ob, Rdw_uob, Rdw_9, Rdw_g9, Rdw_v9, Rdw_u9, Rdw_10, Rdw_g10, Rdw_v10, Rdw_u10, FlF_0, FlF_s0, FlF_1, FlF_s1, FlF_2, FlF_s2, FlF_3, FlF_s3, FlF_4, FlF_5, FlF_6, FlF_7, FlF_s7, FlF_8, FlF_s8, FlF_9, FlF_s9, FlF_10, FlF_s10, FlF_11, FlF_s11, FlF_len, Flw_ob, Flw_uob, Flw_pob, Flw_upob, Flw_p1, Flw_p2, Flw_p3, Flw_lob, Flw_ulob, Flw_l1, Flw_l2, Flw_l3, Flw_rob, Nat.reduceLT, rup_s, rup_rup]
  rw [nI_clamp (by omega)]
  exact ⟨vp_in_nI (by omega) (by decide), b_A_wordsOf_2 hK⟩
theorem c_nextOf {x y : Int32} {n l : Nat} (hW : At W s 9 (AuC s c r)) (hU : AUr c r A) (hA : auOk A) (hx : x = nI n) (hy : y = nI l) (hn : n < A.1) (hl : l < 26) (hK : K W (some (.int (nI (A.2.1 n l))))) : zcall n_A_nextOf [.ref s, .int x, .int y] W K :=
  c_nextOf0 hW hx hy (Nat.lt_of_lt_of_le hn hA.2.1) hl (by rw [hU.2.1 n l hn hl]; exact hK)
theorem c_wordsOf {x : Int32} {n : Nat} (hW : At W s 9 (AuC s c r)) (hU : AUr c r A) (hA : auOk A) (hx : x = nI n) (hn : n < A.1) (hK : K W (some (.int (nI (A.2.2.1 n))))) : zcall n_A_wordsOf [.ref s, .int x] W K :=
  c_wordsOf0 hW hx (Nat.lt_of_lt_of_le hn hA.2.1) (by rw [hU.2.2.1 n hn]; exact hK)
theorem c_nextSet {x : Int32} {y : Int64} {ps l : Nat} (hW : At W s 9 (AuC s c r)) (hU : AUr c r A) (hA : auOk A) (hp : ps < 2 ^ 49) (hy : y = lN ps) (hx : x = nI l) (hl : l < 26) (hK : K W (some (.long (lN (stepSet A ps l))))) : zcall n_A_nextSet [.ref s, .long y, .int x] W K := by
  subst hx hy
  have h49 := hA.2.1
  rw [← Auw_eq hW] at hK ⊢
  have loop : ∀ (m n : Nat), n + m = A.1 → zwp n_A_nextSet 1 [(0, .ref s), (1, .long (lN ps)), (3, .int (nI l)), (4, .long (lN (stK A ps l n))), (6, .int (nI n))] [] 0 0 (Auw W s c r) K := by
    intro m
    induction m with
    | zero =>
      intro n hn
      obtain rfl : n = A.1 := by omega
      refine b_A_nextSet_1 ?_
      simp only [and_assoc, exists_and_left, exists_eq_left, exists_eq_left', Option.some.injEq, Value.int.injEq, Value.ref.injEq, Value.long.injEq, true_and, and_true, exists_eq, exists_true_left, FdF_0, FdF_s0, FdF_1, FdF_s1, FdF_2, FdF_s2, FdF_3, FdF_s3, FdF_4, FdF_5, FdF_6, FdF_7, FdF_len, Fdw_ob, Fdw_uob, Fdw_4, Fdw_g4, Fdw_v4, Fdw_u4, Fdw_5, Fdw_g5, Fdw_v5, Fdw_u5, Fdw_6, Fdw_g6, Fdw_v6, Fdw_u6, Fdw_7, Fdw_g7, Fdw_v7, Fdw_u7, WdF_0, WdF_1, WdF_len, Wdw_ob, Wdw_0, Wdw_g0, Wdw_v0, Wdw_u0, Wdw_1, Wdw_g1, Wdw_v1, Wdw_u1, AuF_0, AuF_s0, AuF_1, AuF_2, AuF_3, AuF_4, AuF_5, AuF_6, AuF_7, AuF_8, AuF_len, Auw_ob, Auw_uob, Auw_1, Auw_g1, Auw_v1, Auw_u1, Auw_2, Auw_g2, Auw_v2, Auw_u2, Auw_3, Auw_g3, Auw_v3, Auw_u3, Auw_4, Auw_g4, Auw_v4, Auw_u4, Auw_5, Auw_g5, Auw_v5, Auw_u5, Auw_6, Auw_g6, Auw_v6, Auw_u6, Auw_7, Auw_g7, Auw_v7, Auw_u7, Auw_8, Auw_g8, Auw_v8, Auw_u8, SgF_0, SgF_s0, SgF_1, SgF_2, SgF_3, SgF_len, Sgw_ob, Sgw_uob, Sgw_1, Sgw_g1, Sgw_v1, Sgw_u1, Sgw_2, Sgw_g2, Sgw_v2, Sgw_u2, Sgw_3, Sgw_g3, Sgw_v3, Sgw_u3, RdF_0, RdF_1, RdF_2, RdF_s2, RdF_3, RdF_s3, RdF_4, RdF_s4, RdF_5, RdF_s5, RdF_6, RdF_s6, RdF_7, RdF_s7, RdF_8, RdF_s8, RdF_9, RdF_10, RdF_11, RdF_s11, RdF_12, RdF_s12, RdF_13, RdF_s13, RdF_14, RdF_s14, RdF_len, Rdw_ob, Rdw_uob, Rdw_9, Rdw_g9, Rdw_v9, Rdw_u9, Rdw_10, Rdw_g10, Rdw_v10, Rdw_u10, FlF_0, FlF_s0, FlF_1, FlF_s1, FlF_2, FlF_s2, FlF_3, FlF_s3, FlF_4, FlF_5, FlF_6, FlF_7, FlF_s7, FlF_8, FlF_s8, FlF_9, FlF_s9, FlF_10, FlF_s10, FlF_11, FlF_s11, FlF_len, Flw_ob, Flw_uob, Flw_pob, Flw_upob, Flw_p1, Flw_p2, Flw_p3, Flw_lob, Flw_ulob, Flw_l1, Flw_l2, Flw_l3, Flw_rob, Nat.reduceLT, rup_s, rup_rup]
      rw [hU.1]
      exact ⟨fun _ => b_A_nextSet_3 hK, fun z => absurd (Int32.le_refl _) z⟩
    | succ m ih =>
      intro n hn
      have hnx := hA.2.2.1 n l (by omega) hl
      refine b_A_nextSet_1 ?_
      simp only [and_assoc, exists_and_left, exists_eq_left, exists_eq_left', Option.some.injEq, Value.int.injEq, Value.ref.injEq, Value.long.injEq, true_and, and_true, exists_eq, exists_true_left, FdF_0, FdF_s0, FdF_1, FdF_s1, FdF_2, FdF_s2, FdF_3, FdF_s3, FdF_4, FdF_5, FdF_6, FdF_7, FdF_len, Fdw_ob, Fdw_uob, Fdw_4, Fdw_g4, Fdw_v4, Fdw_u4, Fdw_5, Fdw_g5, Fdw_v5, Fdw_u5, Fdw_6, Fdw_g6, Fdw_v6, Fdw_u6, Fdw_7, Fdw_g7, Fdw_v7, Fdw_u7, WdF_0, WdF_1, WdF_len, Wdw_ob, Wdw_0, Wdw_g0, Wdw_v0, Wdw_u0, Wdw_1, Wdw_g1, Wdw_v1, Wdw_u1, AuF_0, AuF_s0, AuF_1, AuF_2, AuF_3, AuF_4, AuF_5, AuF_6, AuF_7, AuF_8, AuF_len, Auw_ob, Auw_uob, Auw_1, Auw_g1, Auw_v1, Auw_u1, Auw_2, Auw_g2, Auw_v2, Auw_u2, Auw_3, Auw_g3, Auw_v3, Auw_u3, Auw_4, Auw_g4, Auw_v4, Auw_u4, Auw_5, Auw_g5, Auw_v5, Auw_u5, Auw_6, Auw_g6, Auw_v6, Auw_u6, Auw_7, Auw_g7, Auw_v7, Auw_u7, Auw_8, Auw_g8, Auw_v8, Auw_u8, SgF_0, SgF_s0, SgF_1, SgF_2, SgF_3, SgF_len, Sgw_ob, Sgw_uob, Sgw_1, Sgw_g1, Sgw_v1, Sgw_u1, Sgw_2, Sgw_g2, Sgw_v2, Sgw_u2, Sgw_3, Sgw_g3, Sgw_v3, Sgw_u3, RdF_0, RdF_1, RdF_2, RdF_s2, RdF_3, RdF_s3, RdF_4, RdF_s4, RdF_5, RdF_s5, RdF_6, RdF_s6, RdF_7, RdF_s7, RdF_8, RdF_s8, RdF_9, RdF_10, RdF_11, RdF_s11, RdF_12, RdF_s12, RdF_13, RdF_s13, RdF_14, RdF_s14, RdF_len, Rdw_ob, Rdw_uob, Rdw_9, Rdw_g9, Rdw_v9, Rdw_u9, Rdw_10, Rdw_g10, Rdw_v10, Rdw_u10, FlF_0, FlF_s0, FlF_1, FlF_s1, FlF_2, FlF_s2, FlF_3, FlF_s3, FlF_4, FlF_5, FlF_6, FlF_7, FlF_s7, FlF_8, FlF_s8, FlF_9, FlF_s9, FlF_10, FlF_s10, FlF_11, FlF_s11, FlF_len, Flw_ob, Flw_uob, Flw_pob, Flw_upob, Flw_p1, Flw_p2, Flw_p3, Flw_lob, Flw_ulob, Flw_l1, Flw_l2, Flw_l3, Flw_rob, Nat.reduceLT, rup_s, rup_rup]
      rw [hU.1]
      refine ⟨fun z => absurd ((nI_leI (by omega) (by omega)).mp z) (by omega), fun _ => ⟨fun z => b_A_nextSet_2 ?_, fun z => ?_⟩⟩
      · have z := (lN_tb (by omega) (by omega)).mp z
        rw [nI_1]
        have := ih (n + 1) (by omega)
        rw [show stK A ps l (n + 1) = stK A ps l n from (by show _ ||| (if _ then _ else _) = _; rw [if_neg (by rw [z]; decide), Nat.or_zero])] at this
        exact this
      · have z : ps.testBit n = true := by
          cases h : ps.testBit n with
          | true => rfl
          | false => exact absurd ((lN_tb (by omega) (by omega)).mpr h) z
        rw [lit_26, pk_mul, nI_add, nI_clamp (by omega), Nat.mul_comm n 26, hU.2.1 n l (by omega) hl, lN_pow _ (by omega), lN_or]
        refine ⟨vp_in_nI (by omega) (by decide), b_A_nextSet_2 ?_⟩
        rw [nI_1]
        have := ih (n + 1) (by omega)
        rw [show stK A ps l (n + 1) = stK A ps l n ||| 2 ^ A.2.1 n l from (by show _ ||| (if _ then _ else _) = _; rw [if_pos z])] at this
        exact this
  exact e_A_nextSet (b_A_nextSet_0 (loop A.1 0 (Nat.zero_add _)))
theorem c_nextSetByAny {y : Int64} {ps : Nat} (hW : At W s 9 (AuC s c r)) (hU : AUr c r A) (hA : auOk A) (hp : ps < 2 ^ 49) (hy : y = lN ps) (hK : K W (some (.long (lN (nxA A ps 26))))) : zcall n_A_nextSetByAny [.ref s, .long y] W K := by
  subst hy
  have hob : ∃ fs, jx_ob W s 0 fs := ⟨_, hW 0 (by decide)⟩
  have loop : ∀ (m l : Nat), l + m = 26 → zwp n_A_nextSetByAny 1 [(0, .ref s), (1, .long (lN ps)), (3, .long (lN (nxA A ps l))), (5, .int (nI l))] [] 0 0 W K := by
    intro m
    induction m with
    | zero =>
      intro l hl
      obtain rfl : l = 26 := by omega
      exact b_A_nextSetByAny_1 ⟨fun _ => b_A_nextSetByAny_2 hK, fun z => absurd (by decide) z⟩
    | succ m ih =>
      intro l hl
      refine b_A_nextSetByAny_1 ⟨fun z => absurd ((nI_leI (a := 26) (by decide) (by omega)).mp z) (by omega), fun _ => ⟨hob, c_nextSet hW hU hA hp rfl rfl (by omega) ⟨_, rfl, ?_⟩⟩⟩
      rw [lN_or, nI_1]
      exact ih (l + 1) (by omega)
  exact e_A_nextSetByAny (b_A_nextSetByAny_0 (loop 26 0 rfl))
theorem c_spread {x : Int32} {y : Int64} {ps N : Nat} (hW : At W s 9 (AuC s c r)) (hU : AUr c r A) (hA : auOk A) (hp : ps < 2 ^ 49) (hy : y = lN ps) (hx : x = nI N) (hN : N < 2 ^ 30) (hK : K W (some (.long (lN (aSpr A N ps))))) : zcall n_A_spread [.ref s, .long y, .int x] W K := by
  subst hy hx
  have hob : ∃ fs, jx_ob W s 0 fs := ⟨_, hW 0 (by decide)⟩
  have loop : ∀ (m i ps : Nat), i + m = N → ps < 2 ^ 49 → K W (some (.long (lN (aSpr A m ps)))) → zwp n_A_spread 1 [(0, .ref s), (3, .int (nI N)), (4, .long (lN ps)), (6, .int (nI i))] [] 0 0 W K := by
    intro m
    induction m with
    | zero =>
      intro i ps hi hp hk
      obtain rfl : i = N := by omega
      exact b_A_spread_1 ⟨fun _ => b_A_spread_3 hk, fun z => absurd (Int32.le_refl _) z⟩
    | succ m ih =>
      intro i ps hi hp hk
      refine b_A_spread_1 ⟨fun z => absurd ((nI_leI (by omega) (by omega)).mp z) (by omega), fun _ => ⟨hob, c_nextSetByAny hW hU hA hp rfl ⟨_, rfl, ?_⟩⟩⟩
      have e : (lN ps ||| lN (nxA A ps 26)) ||| 1 = lN (wid A ps) := by
        rw [show (1 : Int64) = lN 1 from rfl, lN_or, lN_or, wid_eq]
      have hw : wid A ps < 2 ^ 49 := widK_lt hA hp (Nat.le_refl _)
      have ei : lg_cmp (lN (wid A ps)) (lN ps) = 0 ↔ wid A ps = ps := by rw [lg_cmp_eq]; exact lN_inj (by omega) (by omega)
      rw [e]
      have es : aSpr A (m + 1) ps = if wid A ps = ps then ps else aSpr A m (wid A ps) := rfl
      refine ⟨fun z => b_A_spread_2 ?_, fun z => b_A_spread_3 ?_⟩
      · rw [es, if_neg (fun t => z (ei.mpr t))] at hk
        rw [nI_1]
        exact ih (i + 1) _ (by omega) hw hk
      · rw [es, if_pos (ei.mp z)] at hk
        exact hk
  exact e_A_spread (b_A_spread_0 (loop N 0 ps (Nat.zero_add _) hp hK))
theorem c_wordsOfSet {y : Int64} {ps : Nat} (hW : At W s 9 (AuC s c r)) (hU : AUr c r A) (hA : auOk A) (hp : ps < 2 ^ 49) (hy : y = lN ps) (hK : K W (some (.int (nI (anyS A ps))))) : zcall n_A_wordsOfSet [.ref s, .long y] W K := by
  subst hy
  have h49 := hA.2.1
  rw [← Auw_eq hW] at hK ⊢
  have loop : ∀ (m n : Nat), n + m = A.1 → zwp n_A_wordsOfSet 1 [(0, .ref s), (1, .long (lN ps)), (3, .int (nI (anyK A ps n))), (4, .int (nI n))] [] 0 0 (Auw W s c r) K := by
    intro m
    induction m with
    | zero =>
      intro n hn
      obtain rfl : n = A.1 := by omega
      refine b_A_wordsOfSet_1 ?_
      simp only [and_assoc, exists_and_left, exists_eq_left, exists_eq_left', Option.some.injEq, Value.int.injEq, Value.ref.injEq, Value.long.injEq, true_and, and_true, exists_eq, exists_true_left, FdF_0, FdF_s0, FdF_1, FdF_s1, FdF_2, FdF_s2, FdF_3, FdF_s3, FdF_4, FdF_5, FdF_6, FdF_7, FdF_len, Fdw_ob, Fdw_uob, Fdw_4, Fdw_g4, Fdw_v4, Fdw_u4, Fdw_5, Fdw_g5, Fdw_v5, Fdw_u5, Fdw_6, Fdw_g6, Fdw_v6, Fdw_u6, Fdw_7, Fdw_g7, Fdw_v7, Fdw_u7, WdF_0, WdF_1, WdF_len, Wdw_ob, Wdw_0, Wdw_g0, Wdw_v0, Wdw_u0, Wdw_1, Wdw_g1, Wdw_v1, Wdw_u1, AuF_0, AuF_s0, AuF_1, AuF_2, AuF_3, AuF_4, AuF_5, AuF_6, AuF_7, AuF_8, AuF_len, Auw_ob, Auw_uob, Auw_1, Auw_g1, Auw_v1, Auw_u1, Auw_2, Auw_g2, Auw_v2, Auw_u2, Auw_3, Auw_g3, Auw_v3, Auw_u3, Auw_4, Auw_g4, Auw_v4, Auw_u4, Auw_5, Auw_g5, Auw_v5, Auw_u5, Auw_6, Auw_g6, Auw_v6, Auw_u6, Auw_7, Auw_g7, Auw_v7, Auw_u7, Auw_8, Auw_g8, Auw_v8, Auw_u8, SgF_0, SgF_s0, SgF_1, SgF_2, SgF_3, SgF_len, Sgw_ob, Sgw_uob, Sgw_1, Sgw_g1, Sgw_v1, Sgw_u1, Sgw_2, Sgw_g2, Sgw_v2, Sgw_u2, Sgw_3, Sgw_g3, Sgw_v3, Sgw_u3, RdF_0, RdF_1, RdF_2, RdF_s2, RdF_3, RdF_s3, RdF_4, RdF_s4, RdF_5, RdF_s5, RdF_6, RdF_s6, RdF_7, RdF_s7, RdF_8, RdF_s8, RdF_9, RdF_10, RdF_11, RdF_s11, RdF_12, RdF_s12, RdF_13, RdF_s13, RdF_14, RdF_s14, RdF_len, Rdw_ob, Rdw_uob, Rdw_9, Rdw_g9, Rdw_v9, Rdw_u9, Rdw_10, Rdw_g10, Rdw_v10, Rdw_u10, FlF_0, FlF_s0, FlF_1, FlF_s1, FlF_2, FlF_s2, FlF_3, FlF_s3, FlF_4, FlF_5, FlF_6, FlF_7, FlF_s7, FlF_8, FlF_s8, FlF_9, FlF_s9, FlF_10, FlF_s10, FlF_11, FlF_s11, FlF_len, Flw_ob, Flw_uob, Flw_pob, Flw_upob, Flw_p1, Flw_p2, Flw_p3, Flw_lob, Flw_ulob, Flw_l1, Flw_l2, Flw_l3, Flw_rob, Nat.reduceLT, rup_s, rup_rup]
      rw [hU.1]
      exact ⟨fun _ => b_A_wordsOfSet_3 hK, fun z => absurd (Int32.le_refl _) z⟩
    | succ m ih =>
      intro n hn
      refine b_A_wordsOfSet_1 ?_
      simp only [and_assoc, exists_and_left, exists_eq_left, exists_eq_left', Option.some.injEq, Value.int.injEq, Value.ref.injEq, Value.long.injEq, true_and, and_true, exists_eq, exists_true_left, FdF_0, FdF_s0, FdF_1, FdF_s1, FdF_2, FdF_s2, FdF_3, FdF_s3, FdF_4, FdF_5, FdF_6, FdF_7, FdF_len, Fdw_ob, Fdw_uob, Fdw_4, Fdw_g4, Fdw_v4, Fdw_u4, Fdw_5, Fdw_g5, Fdw_v5, Fdw_u5, Fdw_6, Fdw_g6, Fdw_v6, Fdw_u6, Fdw_7, Fdw_g7, Fdw_v7, Fdw_u7, WdF_0, WdF_1, WdF_len, Wdw_ob, Wdw_0, Wdw_g0, Wdw_v0, Wdw_u0, Wdw_1, Wdw_g1, Wdw_v1, Wdw_u1, AuF_0, AuF_s0, AuF_1, AuF_2, AuF_3, AuF_4, AuF_5, AuF_6, AuF_7, AuF_8, AuF_len, Auw_ob, Auw_uob, Auw_1, Auw_g1, Auw_v1, Auw_u1, Auw_2, Auw_g2, Auw_v2, Auw_u2, Auw_3, Auw_g3, Auw_v3, Auw_u3, Auw_4, Auw_g4, Auw_v4, Auw_u4, Auw_5, Auw_g5, Auw_v5, Auw_u5, Auw_6, Auw_g6, Auw_v6, Auw_u6, Auw_7, Auw_g7, Auw_v7, Auw_u7, Auw_8, Auw_g8, Auw_v8, Auw_u8, SgF_0, SgF_s0, SgF_1, SgF_2, SgF_3, SgF_len, Sgw_ob, Sgw_uob, Sgw_1, Sgw_g1, Sgw_v1, Sgw_u1, Sgw_2, Sgw_g2, Sgw_v2, Sgw_u2, Sgw_3, Sgw_g3, Sgw_v3, Sgw_u3, RdF_0, RdF_1, RdF_2, RdF_s2, RdF_3, RdF_s3, RdF_4, RdF_s4, RdF_5, RdF_s5, RdF_6, RdF_s6, RdF_7, RdF_s7, RdF_8, RdF_s8, RdF_9, RdF_10, RdF_11, RdF_s11, RdF_12, RdF_s12, RdF_13, RdF_s13, RdF_14, RdF_s14, RdF_len, Rdw_ob, Rdw_uob, Rdw_9, Rdw_g9, Rdw_v9, Rdw_u9, Rdw_10, Rdw_g10, Rdw_v10, Rdw_u10, FlF_0, FlF_s0, FlF_1, FlF_s1, FlF_2, FlF_s2, FlF_3, FlF_s3, FlF_4, FlF_5, FlF_6, FlF_7, FlF_s7, FlF_8, FlF_s8, FlF_9, FlF_s9, FlF_10, FlF_s10, FlF_11, FlF_s11, FlF_len, Flw_ob, Flw_uob, Flw_pob, Flw_upob, Flw_p1, Flw_p2, Flw_p3, Flw_lob, Flw_ulob, Flw_l1, Flw_l2, Flw_l3, Flw_rob, Nat.reduceLT, rup_s, rup_rup]
      rw [hU.1]
      refine ⟨fun z => absurd ((nI_leI (by omega) (by omega)).mp z) (by omega), fun _ => ⟨fun z => b_A_wordsOfSet_2 ?_, fun z => ?_⟩⟩
      · have z := (lN_tb (by omega) (by omega)).mp z
        rw [nI_1]
        have := ih (n + 1) (by omega)
        rw [show anyK A ps (n + 1) = anyK A ps n from (by show _ ||| (if _ then _ else _) = _; rw [if_neg (by rw [z]; decide), Nat.or_zero])] at this
        exact this
      · have z : ps.testBit n = true := by
          cases h : ps.testBit n with
          | true => rfl
          | false => exact absurd ((lN_tb (by omega) (by omega)).mpr h) z
        rw [nI_clamp (by omega), hU.2.2.1 n (by omega), nI_or]
        refine ⟨vp_in_nI (by omega) (by decide), b_A_wordsOfSet_2 ?_⟩
        rw [nI_1]
        have := ih (n + 1) (by omega)
        rw [show anyK A ps (n + 1) = anyK A ps n ||| A.2.2.1 n from (by show _ ||| (if _ then _ else _) = _; rw [if_pos z])] at this
        exact this
  exact e_A_wordsOfSet (b_A_wordsOfSet_0 (loop A.1 0 (Nat.zero_add _)))
end CAuto
/-! the fewest letters -/
theorem anyK_ne {A : aAU} {ps : Nat} : ∀ {n : Nat}, anyK A ps n ≠ 0 ↔ ∃ m, m < n ∧ ps.testBit m = true ∧ A.2.2.1 m ≠ 0
  | 0 => ⟨fun h => absurd rfl h, fun ⟨m, h, _⟩ => absurd h (Nat.not_lt_zero _)⟩
  | n + 1 => by
    show (anyK A ps n ||| _) ≠ 0 ↔ _
    rw [Ne, Nat.or_eq_zero_iff]
    constructor
    · intro h
      by_cases h1 : anyK A ps n = 0
      · have h2 : ¬ (if ps.testBit n = true then A.2.2.1 n else 0) = 0 := fun z => h ⟨h1, z⟩
        split at h2
        · exact ⟨n, by omega, by assumption, h2⟩
        · exact absurd rfl h2
      · obtain ⟨m, a, b⟩ := anyK_ne.mp h1
        exact ⟨m, by omega, b⟩
    · rintro ⟨m, a, b, d⟩ ⟨z1, z2⟩
      by_cases e : m = n
      · subst e
        rw [if_pos b] at z2
        exact d z2
      · exact anyK_ne.mpr ⟨m, by omega, b, d⟩ z1
def rcS (A : aAU) (nd : Nat) : Nat → Nat
  | 0 => 2 ^ nd
  | k + 1 => nxA A (rcS A nd k) 26
theorem rch_lt {A : aAU} {nd : Nat} (hA : auOk A) (hn : nd < A.1) : ∀ {k n : Nat}, rch A nd k n → n < A.1
  | 0, n, h => by rw [h]; exact hn
  | k + 1, n, ⟨m, l, h1, h2, h3⟩ => by rw [h3]; exact hA.2.2.1 m l (rch_lt hA hn h1) h2
theorem rcS_bit {A : aAU} {nd : Nat} (hA : auOk A) (hn : nd < A.1) : ∀ {k n : Nat}, (rcS A nd k).testBit n = true ↔ rch A nd k n
  | 0, n => by
    show (2 ^ nd).testBit n = true ↔ n = nd
    rw [Nat.testBit_two_pow, decide_eq_true_iff]
    exact ⟨Eq.symm, Eq.symm⟩
  | k + 1, n => by
    show (nxA A (rcS A nd k) 26).testBit n = true ↔ _
    rw [nxA_bit]
    constructor
    · rintro ⟨l, m, h1, h2, h3, h4⟩
      exact ⟨m, l, (rcS_bit hA hn).mp h3, h1, h4.symm⟩
    · rintro ⟨m, l, h1, h2, h3⟩
      exact ⟨l, m, h2, rch_lt hA hn h1, (rcS_bit hA hn).mpr h1, h3.symm⟩
theorem hit_iff {A : aAU} {nd k : Nat} (hA : auOk A) (hn : nd < A.1) : anyS A (rcS A nd k) ≠ 0 ↔ hit A nd k := by
  unfold anyS hit
  rw [anyK_ne]
  constructor
  · rintro ⟨m, h1, h2, h3⟩
    exact ⟨m, (rcS_bit hA hn).mp h2, h3⟩
  · rintro ⟨m, h1, h2⟩
    exact ⟨m, rch_lt hA hn h1, (rcS_bit hA hn).mpr h1, h2⟩
theorem rcS_lt {A : aAU} {nd : Nat} (hA : auOk A) (hn : nd < A.1) : ∀ {k : Nat}, rcS A nd k < 2 ^ 49
  | 0 => Nat.pow_lt_pow_right (by decide) (Nat.lt_of_lt_of_le hn hA.2.1)
  | k + 1 => nxA_lt hA (Nat.le_refl _)
theorem c_fewest {W : jx_W} {s : Nat} {c : Nat → Int32} {r : Nat → Nat → Int32} {K : jx_Q} {A : aAU} {x : Int32} {nd : Nat} (hW : At W s 9 (AuC s c r)) (hU : AUr c r A) (hA : auOk A) (hn : nd < A.1) (hx : x = nI nd) (h8 : (∀ j, 1 ≤ j → j ≤ 8 → ¬ hit A nd j) → ∀ j, 1 ≤ j → ¬ hit A nd j) (hK : ∀ y, isNear A nd y → K W (some (.int (oM y)))) : zcall n_A_fewestLettersToWord [.ref s, .int x] W K := by
  subst hx
  have h49 := hA.2.1
  have hob : ∃ fs, jx_ob W s 0 fs := ⟨_, hW 0 (by decide)⟩
  have loop : ∀ (m k : Nat), k + m = 8 → (∀ j, 1 ≤ j → j ≤ k → ¬ hit A nd j) → zwp n_A_fewestLettersToWord 1 [(0, .ref s), (2, .long (lN (rcS A nd k))), (4, .int (nI (k + 1)))] [] 0 0 W K := by
    intro m
    induction m with
    | zero =>
      intro k hk hno
      obtain rfl : k = 8 := by omega
      exact b_A_fewestLettersToWord_1 ⟨fun _ => b_A_fewestLettersToWord_3 (hK none (h8 hno)), fun z => absurd (by decide) z⟩
    | succ m ih =>
      intro k hk hno
      refine b_A_fewestLettersToWord_1 ⟨fun z => absurd ((nI_ltI (a := 8) (by decide) (by omega)).mp z) (by omega), fun _ => ⟨hob, c_nextSetByAny hW hU hA (rcS_lt hA hn) rfl ⟨_, rfl, hob, c_wordsOfSet (ps := rcS A nd (k + 1)) hW hU hA (rcS_lt hA hn) rfl ⟨_, rfl, fun z => b_A_fewestLettersToWord_2 ?_, fun z => ?_⟩⟩⟩⟩
      · have hlt : anyS A (rcS A nd (k + 1)) < 64 := anyK_lt hA (Nat.le_refl _)
        have z : anyS A (rcS A nd (k + 1)) = 0 := (nI_eq (by omega) (b := 0) (by decide)).mp z
        rw [nI_1]
        refine ih (k + 1) (by omega) (fun j j1 j2 => ?_)
        by_cases e : j = k + 1
        · rw [e]; exact fun h => (hit_iff hA hn).mpr h z
        · exact hno j j1 (by omega)
      · have z : anyS A (rcS A nd (k + 1)) ≠ 0 := fun t => z (by rw [t]; rfl)
        exact hK (some (k + 1)) ⟨by omega, (hit_iff hA hn).mp z, fun j j1 j2 => hno j j1 (by omega)⟩
  have h0 := loop 8 0 rfl (fun j j1 j2 => absurd j2 (by omega))
  refine e_A_fewestLettersToWord (b_A_fewestLettersToWord_0 ?_)
  rw [lN_pow nd (by omega)]
  exact h0
