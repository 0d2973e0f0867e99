/-! THE MODEL: possible nodes as bits; the automaton's next nodes -/
/-- an automaton: its nodes, next nodes, sets of words (bits), lengths of words -/
abbrev aAU : Type := Nat × (Nat → Nat → Nat) × (Nat → Nat) × (Nat → Nat)
/-- how far a node can be from node 0: a word that ends there is no longer -/
def dOk (A : aAU) (k nd : Nat) : Prop := ∃ d : Nat → Nat, d nd ≤ k ∧ d 0 = 0 ∧ (∀ n l, n < A.1 → l < 26 → d (A.2.1 n l) ≤ d n + 1) ∧ ∀ n v, n < A.1 → v < 6 → (A.2.2.1 n).testBit v = true → A.2.2.2 v ≤ d n
theorem dOk.zero {A : aAU} {k nd : Nat} (h : dOk A k nd) (j : Nat) : dOk A j 0 := by
  obtain ⟨d, -, h2, h3⟩ := h
  exact ⟨d, by omega, h2, h3⟩
theorem dOk.next {A : aAU} {k nd l : Nat} (h : dOk A k nd) (hn : nd < A.1) (hl : l < 26) : dOk A (k + 1) (A.2.1 nd l) := by
  obtain ⟨d, h1, h2, h3, h4⟩ := h
  exact ⟨d, by have := h3 nd l hn hl; omega, h2, h3, h4⟩
theorem dOk.word {A : aAU} {k nd v : Nat} (h : dOk A k nd) (hn : nd < A.1) (hv : v < 6) (hb : (A.2.2.1 nd).testBit v = true) : A.2.2.2 v ≤ k := by
  obtain ⟨d, h1, -, -, h4⟩ := h
  exact Nat.le_trans (h4 nd v hn hv hb) h1
def auOk (A : aAU) : Prop := 1 ≤ A.1 ∧ A.1 ≤ 49 ∧ (∀ n l, n < A.1 → l < 26 → A.2.1 n l < A.1) ∧ (∀ n, n < A.1 → A.2.2.1 n < 64) ∧ A.2.2.1 0 = 0 ∧ (∀ v, v < 6 → A.2.2.2 v ≤ 8) ∧ (∀ n v, n < A.1 → v < 6 → (A.2.2.1 n).testBit v = true → 1 ≤ A.2.2.2 v) ∧ dOk A 0 0
def MA (c : Nat → Int32) (r : Nat → Nat → Int32) (A : aAU) : Prop := c 4 = nI A.1 ∧ (∀ n, n < A.1 → r 9 n = nI (A.2.2.1 n)) ∧ ∀ n l, n < A.1 → l < 26 → r 10 (26 * n + l) = nI (A.2.1 n l)
def PM (g : Nat → Int32) (ps : Nat) : Prop := g 7 = nI (ps % 2 ^ 25) ∧ g 8 = nI (ps / 2 ^ 25) ∧ ps < 2 ^ 49
def stK (A : aAU) (ps l : Nat) : Nat → Nat
  | 0 => 0
  | n + 1 => stK A ps l n ||| (if ps.testBit n then 2 ^ A.2.1 n l else 0)
def stepSet (A : aAU) (ps l : Nat) : Nat := stK A ps l A.1
theorem stK_lt {A : aAU} {ps l : Nat} (hA : auOk A) (hl : l < 26) : ∀ {n : Nat}, n ≤ A.1 → stK A ps l n < 2 ^ 49
  | 0, _ => by show 0 < 2 ^ 49; decide
  | n + 1, h => by
    refine Nat.or_lt_two_pow (stK_lt hA hl (by omega)) ?_
    split
    · exact Nat.pow_lt_pow_right (by decide) (Nat.lt_of_lt_of_le (hA.2.2.1 n l (by omega) hl) hA.2.1)
    · decide
theorem ps_low {ps : Nat} : ps % 2 ^ 25 < 2 ^ 31 := Nat.lt_of_lt_of_le (Nat.mod_lt _ (by decide)) (by decide)
theorem ps_high {ps : Nat} (h : ps < 2 ^ 49) : ps / 2 ^ 25 < 2 ^ 31 := by
  have : ps / 2 ^ 25 < 2 ^ 24 := Nat.div_lt_of_lt_mul (by omega)
  omega
theorem pow_low : ∀ k, k < 49 → 2 ^ k % 2 ^ 25 = if k < 25 then 2 ^ k else 0 := by decide +kernel
theorem pow_high : ∀ k, k < 49 → 2 ^ k / 2 ^ 25 = if k < 25 then 0 else 2 ^ (k - 25) := by decide +kernel
theorem or_div25 (a b : Nat) : (a ||| b) / 2 ^ 25 = a / 2 ^ 25 ||| b / 2 ^ 25 := by
  rw [← Nat.shiftRight_eq_div_pow, ← Nat.shiftRight_eq_div_pow, ← Nat.shiftRight_eq_div_pow, Nat.shiftRight_or_distrib]
section MPoss
variable {w : jx_W} {q : Nat} {c : Nat → Int32} {r : Nat → Nat → Int32} {K : jx_Q} {P g : Nat → Int32} {b : Nat} {A : aAU}
theorem s_M_lowOf {x : Int32} {k : Nat} {w : jx_W} (hx : x = nI k) (hk : k < 49) (hK : K w (some (.int (nI (2 ^ k % 2 ^ 25))))) : zcall n_M_lowOf [.int x] w K := by
  subst hx
  rw [pow_low k hk] at hK
  refine e_M_lowOf (b_M_lowOf_0 ⟨fun z => ?_, fun z => ?_⟩)
  · have z := (nI_leI (a := 25) (by decide) (by omega)).mp z
    rw [if_neg (by omega)] at hK
    exact b_M_lowOf_1 (b_M_lowOf_2 hK)
  · have z : ¬ 25 ≤ k := fun y => z ((nI_leI (a := 25) (by decide) (by omega)).mpr y)
    rw [if_pos (by omega)] at hK
    refine b_M_lowOf_2 ?_
    rw [nI_pow k (by omega)]
    exact hK
theorem s_M_highOf {x : Int32} {k : Nat} {w : jx_W} (hx : x = nI k) (hk : k < 49) (hK : K w (some (.int (nI (2 ^ k / 2 ^ 25))))) : zcall n_M_highOf [.int x] w K := by
  subst hx
  rw [pow_high k hk] at hK
  refine e_M_highOf (b_M_highOf_0 ⟨fun z => ?_, fun z => ?_⟩)
  · have z := (nI_leI (a := 25) (by decide) (by omega)).mp z
    rw [if_neg (by omega)] at hK
    refine b_M_highOf_1 (b_M_highOf_2 ?_)
    rw [lit_25, pk_sub z, nI_pow (k - 25) (by omega)]
    exact hK
  · have z : ¬ 25 ≤ k := fun y => z ((nI_leI (a := 25) (by decide) (by omega)).mpr y)
    rw [if_pos (by omega)] at hK
    exact b_M_highOf_2 hK
theorem f_isPossible {x : Int32} {n ps : Nat} (hb : c 12 = nI b) (hf : b + 710 ≤ 22416) (hp : PM g ps) (hx : x = nI n) (hn : n < 49) (h1 : ps.testBit n = true → K (mw w q c (rup r 0 (pgf P b 710 g))) (some (.int 1))) (h0 : ps.testBit n = false → K (mw w q c (rup r 0 (pgf P b 710 g))) (some (.int 0))) : zcall n_M_isPossible [.ref q, .int x] (mw w q c (rup r 0 (pgf P b 710 g))) K := by
  subst hx
  obtain ⟨p1, p2, p3⟩ := hp
  have fin : ∀ {m k : Nat}, m < 2 ^ 31 → k < 32 → m.testBit k = ps.testBit n → zwp n_M_isPossible 2 [] [.int ((nI m >>> (nI k &&& 31)) &&& 1)] 0 0 (mw w q c (rup r 0 (pgf P b 710 g))) K := fun {m k} hm hk he => by
    refine b_M_isPossible_2 ⟨fun z => b_M_isPossible_3 (b_M_isPossible_4 ⟨b01, h0 ?_⟩), fun z => b_M_isPossible_4 ⟨b11, h1 ?_⟩⟩
    · cases ht : ps.testBit n with
      | false => rfl
      | true => exact absurd ((nI_bit1 hm hk).mpr (he.trans ht)) z
    · exact he.symm.trans ((nI_bit1 hm hk).mp z)
  refine e_M_isPossible (b_M_isPossible_0 ⟨fun z => ?_, fun z => ?_⟩)
  · have z := (nI_leI (a := 25) (by decide) (by omega)).mp z
    refine b_M_isPossible_1 ?_
    simp only [and_assoc, exists_and_left, exists_eq_left, exists_eq_left', Option.some.injEq, Value.int.injEq, Value.ref.injEq, Value.long.injEq, true_and, and_true, exists_eq, exists_true_left, mw_ob, mw_ia0, mw_ia2, mw_ia5, mw_ia6, mw_ia7, mw_ia8, mw_ia9, mw_ia10, mw_ia11, mw_ia15, mw_ia16, mF_0, mF_1, mF_2, mF_3, mF_4, mF_5, mF_6, mF_7, mF_8, mF_9, mF_10, mF_11, mF_12, mF_13, mF_14, mF_15, mF_16, mF_len, mF_s1, mF_s3, mF_s4, mF_s12, mF_s13, mF_s14, mw_uob, mw_u0, mw_u2, mw_u5, mw_u6, mw_u7, mw_u8, mw_u9, mw_u10, mw_u11, mw_u15, mw_u16, Nat.reduceLT, rup_s, rup_rup]
    refine f_of hb (i := 8) rfl (by decide) hf ?_
    simp only [and_assoc, exists_and_left, exists_eq_left, exists_eq_left', Option.some.injEq, Value.int.injEq, Value.ref.injEq, Value.long.injEq, true_and, and_true, exists_eq, exists_true_left, mw_ob, mw_ia0, mw_ia2, mw_ia5, mw_ia6, mw_ia7, mw_ia8, mw_ia9, mw_ia10, mw_ia11, mw_ia15, mw_ia16, mF_0, mF_1, mF_2, mF_3, mF_4, mF_5, mF_6, mF_7, mF_8, mF_9, mF_10, mF_11, mF_12, mF_13, mF_14, mF_15, mF_16, mF_len, mF_s1, mF_s3, mF_s4, mF_s12, mF_s13, mF_s14, mw_uob, mw_u0, mw_u2, mw_u5, mw_u6, mw_u7, mw_u8, mw_u9, mw_u10, mw_u11, mw_u15, mw_u16, Nat.reduceLT, rup_s, rup_rup]
    rw [p2, lit_25, pk_sub z]
    refine fin (ps_high p3) (by omega) ?_
    rw [Nat.testBit_div_two_pow]
    congr 1
    omega
  · have z : ¬ 25 ≤ n := fun y => z ((nI_leI (a := 25) (by decide) (by omega)).mpr y)
    simp only [and_assoc, exists_and_left, exists_eq_left, exists_eq_left', Option.some.injEq, Value.int.injEq, Value.ref.injEq, Value.long.injEq, true_and, and_true, exists_eq, exists_true_left, mw_ob, mw_ia0, mw_ia2, mw_ia5, mw_ia6, mw_ia7, mw_ia8, mw_ia9, mw_ia10, mw_ia11, mw_ia15, mw_ia16, mF_0, mF_1, mF_2, mF_3, mF_4, mF_5, mF_6, mF_7, mF_8, mF_9, mF_10, mF_11, mF_12, mF_13, mF_14, mF_15, mF_16, mF_len, mF_s1, mF_s3, mF_s4, mF_s12, mF_s13, mF_s14, mw_uob, mw_u0, mw_u2, mw_u5, mw_u6, mw_u7, mw_u8, mw_u9, mw_u10, mw_u11, mw_u15, mw_u16, Nat.reduceLT, rup_s, rup_rup]
    refine f_of hb (i := 7) rfl (by decide) hf ?_
    simp only [and_assoc, exists_and_left, exists_eq_left, exists_eq_left', Option.some.injEq, Value.int.injEq, Value.ref.injEq, Value.long.injEq, true_and, and_true, exists_eq, exists_true_left, mw_ob, mw_ia0, mw_ia2, mw_ia5, mw_ia6, mw_ia7, mw_ia8, mw_ia9, mw_ia10, mw_ia11, mw_ia15, mw_ia16, mF_0, mF_1, mF_2, mF_3, mF_4, mF_5, mF_6, mF_7, mF_8, mF_9, mF_10, mF_11, mF_12, mF_13, mF_14, mF_15, mF_16, mF_len, mF_s1, mF_s3, mF_s4, mF_s12, mF_s13, mF_s14, mw_uob, mw_u0, mw_u2, mw_u5, mw_u6, mw_u7, mw_u8, mw_u9, mw_u10, mw_u11, mw_u15, mw_u16, Nat.reduceLT, rup_s, rup_rup]
    rw [p1]
    refine fin ps_low (by omega) ?_
    rw [Nat.testBit_mod_two_pow, decide_eq_true (by omega : n < 25), Bool.true_and]
theorem f_laysPossible {x y : Int32} (hb : c 12 = nI b) (hf : b + 710 ≤ 22416) (hK : K (mw w q c (rup r 0 (pgf P b 710 (upd (upd g 7 x) 8 y)))) none) : zcall n_M_laysPossible [.ref q, .int x, .int y] (mw w q c (rup r 0 (pgf P b 710 g))) K := by
  refine e_M_laysPossible (b_M_laysPossible_0 ?_)
  simp only [and_assoc, exists_and_left, exists_eq_left, exists_eq_left', Option.some.injEq, Value.int.injEq, Value.ref.injEq, Value.long.injEq, true_and, and_true, exists_eq, exists_true_left, mw_ob, mw_ia0, mw_ia2, mw_ia5, mw_ia6, mw_ia7, mw_ia8, mw_ia9, mw_ia10, mw_ia11, mw_ia15, mw_ia16, mF_0, mF_1, mF_2, mF_3, mF_4, mF_5, mF_6, mF_7, mF_8, mF_9, mF_10, mF_11, mF_12, mF_13, mF_14, mF_15, mF_16, mF_len, mF_s1, mF_s3, mF_s4, mF_s12, mF_s13, mF_s14, mw_uob, mw_u0, mw_u2, mw_u5, mw_u6, mw_u7, mw_u8, mw_u9, mw_u10, mw_u11, mw_u15, mw_u16, Nat.reduceLT, rup_s, rup_rup]
  refine f_put hb (i := 7) rfl (by decide) hf ?_
  simp only [and_assoc, exists_and_left, exists_eq_left, exists_eq_left', Option.some.injEq, Value.int.injEq, Value.ref.injEq, Value.long.injEq, true_and, and_true, exists_eq, exists_true_left, mw_ob, mw_ia0, mw_ia2, mw_ia5, mw_ia6, mw_ia7, mw_ia8, mw_ia9, mw_ia10, mw_ia11, mw_ia15, mw_ia16, mF_0, mF_1, mF_2, mF_3, mF_4, mF_5, mF_6, mF_7, mF_8, mF_9, mF_10, mF_11, mF_12, mF_13, mF_14, mF_15, mF_16, mF_len, mF_s1, mF_s3, mF_s4, mF_s12, mF_s13, mF_s14, mw_uob, mw_u0, mw_u2, mw_u5, mw_u6, mw_u7, mw_u8, mw_u9, mw_u10, mw_u11, mw_u15, mw_u16, Nat.reduceLT, rup_s, rup_rup]
  refine f_put hb (i := 8) rfl (by decide) hf ?_
  simp only [and_assoc, exists_and_left, exists_eq_left, exists_eq_left', Option.some.injEq, Value.int.injEq, Value.ref.injEq, Value.long.injEq, true_and, and_true, exists_eq, exists_true_left, mw_ob, mw_ia0, mw_ia2, mw_ia5, mw_ia6, mw_ia7, mw_ia8, mw_ia9, mw_ia10, mw_ia11, mw_ia15, mw_ia16, mF_0, mF_1, mF_2, mF_3, mF_4, mF_5, mF_6, mF_7, mF_8, mF_9, mF_10, mF_11, mF_12, mF_13, mF_14, mF_15, mF_16, mF_len, mF_s1, mF_s3, mF_s4, mF_s12, mF_s13, mF_s14, mw_uob, mw_u0, mw_u2, mw_u5, mw_u6, mw_u7, mw_u8, mw_u9, mw_u10, mw_u11, mw_u15, mw_u16, Nat.reduceLT, rup_s, rup_rup]
  exact hK
theorem MA_rup {f : Nat → Int32} (h : MA c r A) : MA c (rup r 0 f) A := h
theorem f_steps_loop {l ps : Nat} (hb : c 12 = nI b) (hf : b + 710 ≤ 22416) (hA : auOk A) (hm : MA c r A) (hp : PM g ps) (hl : l < 26) (hK : zwp n_M_steps 3 [(0, .ref q), (1, .int (nI l)), (2, .int (nI (stepSet A ps l % 2 ^ 25))), (3, .int (nI (stepSet A ps l / 2 ^ 25)))] [] 0 0 (mw w q c (rup r 0 (pgf P b 710 g))) K) : ∀ (n k : Nat), k + n = A.1 → zwp n_M_steps 1 [(0, .ref q), (1, .int (nI l)), (2, .int (nI (stK A ps l k % 2 ^ 25))), (3, .int (nI (stK A ps l k / 2 ^ 25))), (4, .int (nI k))] [] 0 0 (mw w q c (rup r 0 (pgf P b 710 g))) K := by
  obtain ⟨m1, m2, m3⟩ := hm
  have h49 := hA.2.1
  intro n
  induction n with
  | zero =>
    intro k hk
    refine b_M_steps_1 ?_
    simp only [and_assoc, exists_and_left, exists_eq_left, exists_eq_left', Option.some.injEq, Value.int.injEq, Value.ref.injEq, Value.long.injEq, true_and, and_true, exists_eq, exists_true_left, mw_ob, mw_ia0, mw_ia2, mw_ia5, mw_ia6, mw_ia7, mw_ia8, mw_ia9, mw_ia10, mw_ia11, mw_ia15, mw_ia16, mF_0, mF_1, mF_2, mF_3, mF_4, mF_5, mF_6, mF_7, mF_8, mF_9, mF_10, mF_11, mF_12, mF_13, mF_14, mF_15, mF_16, mF_len, mF_s1, mF_s3, mF_s4, mF_s12, mF_s13, mF_s14, mw_uob, mw_u0, mw_u2, mw_u5, mw_u6, mw_u7, mw_u8, mw_u9, mw_u10, mw_u11, mw_u15, mw_u16, Nat.reduceLT, rup_s, rup_rup]
    rw [m1]
    refine ⟨fun _ => ?_, fun z => absurd ((nI_leI (by omega) (by omega)).mpr (by omega)) z⟩
    rw [show k = A.1 by omega]
    exact hK
  | succ n ih =>
    intro k hk
    have hkA : k < A.1 := by omega
    refine b_M_steps_1 ?_
    simp only [and_assoc, exists_and_left, exists_eq_left, exists_eq_left', Option.some.injEq, Value.int.injEq, Value.ref.injEq, Value.long.injEq, true_and, and_true, exists_eq, exists_true_left, mw_ob, mw_ia0, mw_ia2, mw_ia5, mw_ia6, mw_ia7, mw_ia8, mw_ia9, mw_ia10, mw_ia11, mw_ia15, mw_ia16, mF_0, mF_1, mF_2, mF_3, mF_4, mF_5, mF_6, mF_7, mF_8, mF_9, mF_10, mF_11, mF_12, mF_13, mF_14, mF_15, mF_16, mF_len, mF_s1, mF_s3, mF_s4, mF_s12, mF_s13, mF_s14, mw_uob, mw_u0, mw_u2, mw_u5, mw_u6, mw_u7, mw_u8, mw_u9, mw_u10, mw_u11, mw_u15, mw_u16, Nat.reduceLT, rup_s, rup_rup]
    rw [m1]
    refine ⟨fun z => absurd ((nI_leI (by omega) (by omega)).mp z) (by omega), fun _ => ?_⟩
    refine f_isPossible hb hf hp rfl (by omega) (fun ht => ?_) (fun ht => ?_)
    · simp only [and_assoc, exists_and_left, exists_eq_left, exists_eq_left', Option.some.injEq, Value.int.injEq, Value.ref.injEq, Value.long.injEq, true_and, and_true, exists_eq, exists_true_left, mw_ob, mw_ia0, mw_ia2, mw_ia5, mw_ia6, mw_ia7, mw_ia8, mw_ia9, mw_ia10, mw_ia11, mw_ia15, mw_ia16, mF_0, mF_1, mF_2, mF_3, mF_4, mF_5, mF_6, mF_7, mF_8, mF_9, mF_10, mF_11, mF_12, mF_13, mF_14, mF_15, mF_16, mF_len, mF_s1, mF_s3, mF_s4, mF_s12, mF_s13, mF_s14, mw_uob, mw_u0, mw_u2, mw_u5, mw_u6, mw_u7, mw_u8, mw_u9, mw_u10, mw_u11, mw_u15, mw_u16, Nat.reduceLT, rup_s, rup_rup]
      refine if0 ?_
      have hnx := hA.2.2.1 k l hkA hl
      have e10 : rup r 0 (pgf P b 710 g) 10 = r 10 := rup_n (by decide)
      rw [e10, lit_26, pk_mul, nI_add, nI_clamp (by omega), m3 k l hkA hl]
      refine ⟨vp_in_nI (by omega) (by decide), ?_⟩
      refine s_M_lowOf rfl (by omega) ?_
      simp only [and_assoc, exists_and_left, exists_eq_left, exists_eq_left', Option.some.injEq, Value.int.injEq, Value.ref.injEq, Value.long.injEq, true_and, and_true, exists_eq, exists_true_left, mw_ob, mw_ia0, mw_ia2, mw_ia5, mw_ia6, mw_ia7, mw_ia8, mw_ia9, mw_ia10, mw_ia11, mw_ia15, mw_ia16, mF_0, mF_1, mF_2, mF_3, mF_4, mF_5, mF_6, mF_7, mF_8, mF_9, mF_10, mF_11, mF_12, mF_13, mF_14, mF_15, mF_16, mF_len, mF_s1, mF_s3, mF_s4, mF_s12, mF_s13, mF_s14, mw_uob, mw_u0, mw_u2, mw_u5, mw_u6, mw_u7, mw_u8, mw_u9, mw_u10, mw_u11, mw_u15, mw_u16, Nat.reduceLT, rup_s, rup_rup]
      rw [e10, m3 k l hkA hl]
      refine ⟨vp_in_nI (by omega) (by decide), ?_⟩
      refine s_M_highOf rfl (by omega) ?_
      simp only [and_assoc, exists_and_left, exists_eq_left, exists_eq_left', Option.some.injEq, Value.int.injEq, Value.ref.injEq, Value.long.injEq, true_and, and_true, exists_eq, exists_true_left, mw_ob, mw_ia0, mw_ia2, mw_ia5, mw_ia6, mw_ia7, mw_ia8, mw_ia9, mw_ia10, mw_ia11, mw_ia15, mw_ia16, mF_0, mF_1, mF_2, mF_3, mF_4, mF_5, mF_6, mF_7, mF_8, mF_9, mF_10, mF_11, mF_12, mF_13, mF_14, mF_15, mF_16, mF_len, mF_s1, mF_s3, mF_s4, mF_s12, mF_s13, mF_s14, mw_uob, mw_u0, mw_u2, mw_u5, mw_u6, mw_u7, mw_u8, mw_u9, mw_u10, mw_u11, mw_u15, mw_u16, Nat.reduceLT, rup_s, rup_rup]
      refine b_M_steps_2 ?_
      rw [nI_or, nI_or, ← Nat.or_mod_two_pow, ← or_div25, nI_1]
      have := ih (k + 1) (by omega)
      rw [show stK A ps l (k + 1) = stK A ps l k ||| 2 ^ A.2.1 k l from (by show _ ||| (if _ then _ else _) = _; rw [if_pos ht])] at this
      exact this
    · simp only [and_assoc, exists_and_left, exists_eq_left, exists_eq_left', Option.some.injEq, Value.int.injEq, Value.ref.injEq, Value.long.injEq, true_and, and_true, exists_eq, exists_true_left, mw_ob, mw_ia0, mw_ia2, mw_ia5, mw_ia6, mw_ia7, mw_ia8, mw_ia9, mw_ia10, mw_ia11, mw_ia15, mw_ia16, mF_0, mF_1, mF_2, mF_3, mF_4, mF_5, mF_6, mF_7, mF_8, mF_9, mF_10, mF_11, mF_12, mF_13, mF_14, mF_15, mF_16, mF_len, mF_s1, mF_s3, mF_s4, mF_s12, mF_s13, mF_s14, mw_uob, mw_u0, mw_u2, mw_u5, mw_u6, mw_u7, mw_u8, mw_u9, mw_u10, mw_u11, mw_u15, mw_u16, Nat.reduceLT, rup_s, rup_rup]
      refine if1 (b_M_steps_2 ?_)
      rw [nI_1]
      have := ih (k + 1) (by omega)
      rw [show stK A ps l (k + 1) = stK A ps l k from (by show _ ||| (if _ then _ else _) = _; rw [if_neg (by rw [ht]; decide), Nat.or_zero])] at this
      exact this
theorem f_steps {x : Int32} {l ps nd : Nat} (hb : c 12 = nI b) (hf : b + 710 ≤ 22416) (hA : auOk A) (hm : MA c r A) (hp : PM g ps) (hx : x = nI l) (hl : l < 26) (h6 : g 6 = nI nd) (hnd : nd < A.1) (hK : K (mw w q c (rup r 0 (pgf P b 710 (upd (upd (upd g 7 (nI (stepSet A ps l % 2 ^ 25))) 8 (nI (stepSet A ps l / 2 ^ 25))) 6 (nI (A.2.1 nd l)))))) none) : zcall n_M_steps [.ref q, .int x] (mw w q c (rup r 0 (pgf P b 710 g))) K := by
  subst hx
  refine e_M_steps (b_M_steps_0 ?_)
  have hgo := fun h3 => f_steps_loop (w := w) (q := q) (P := P) (K := K) hb hf hA hm hp hl h3 A.1 0 (by omega)
  rw [show stK A ps l 0 = 0 from rfl, show nI (0 % 2 ^ 25) = 0 by decide] at hgo
  refine hgo (b_M_steps_3 ?_)
  have h49 := hA.2.1
  simp only [and_assoc, exists_and_left, exists_eq_left, exists_eq_left', Option.some.injEq, Value.int.injEq, Value.ref.injEq, Value.long.injEq, true_and, and_true, exists_eq, exists_true_left, mw_ob, mw_ia0, mw_ia2, mw_ia5, mw_ia6, mw_ia7, mw_ia8, mw_ia9, mw_ia10, mw_ia11, mw_ia15, mw_ia16, mF_0, mF_1, mF_2, mF_3, mF_4, mF_5, mF_6, mF_7, mF_8, mF_9, mF_10, mF_11, mF_12, mF_13, mF_14, mF_15, mF_16, mF_len, mF_s1, mF_s3, mF_s4, mF_s12, mF_s13, mF_s14, mw_uob, mw_u0, mw_u2, mw_u5, mw_u6, mw_u7, mw_u8, mw_u9, mw_u10, mw_u11, mw_u15, mw_u16, Nat.reduceLT, rup_s, rup_rup]
  refine f_laysPossible hb hf ?_
  simp only [and_assoc, exists_and_left, exists_eq_left, exists_eq_left', Option.some.injEq, Value.int.injEq, Value.ref.injEq, Value.long.injEq, true_and, and_true, exists_eq, exists_true_left, mw_ob, mw_ia0, mw_ia2, mw_ia5, mw_ia6, mw_ia7, mw_ia8, mw_ia9, mw_ia10, mw_ia11, mw_ia15, mw_ia16, mF_0, mF_1, mF_2, mF_3, mF_4, mF_5, mF_6, mF_7, mF_8, mF_9, mF_10, mF_11, mF_12, mF_13, mF_14, mF_15, mF_16, mF_len, mF_s1, mF_s3, mF_s4, mF_s12, mF_s13, mF_s14, mw_uob, mw_u0, mw_u2, mw_u5, mw_u6, mw_u7, mw_u8, mw_u9, mw_u10, mw_u11, mw_u15, mw_u16, Nat.reduceLT, rup_s, rup_rup]
  refine f_of hb (i := 6) rfl (by decide) hf ?_
  simp only [and_assoc, exists_and_left, exists_eq_left, exists_eq_left', Option.some.injEq, Value.int.injEq, Value.ref.injEq, Value.long.injEq, true_and, and_true, exists_eq, exists_true_left, mw_ob, mw_ia0, mw_ia2, mw_ia5, mw_ia6, mw_ia7, mw_ia8, mw_ia9, mw_ia10, mw_ia11, mw_ia15, mw_ia16, mF_0, mF_1, mF_2, mF_3, mF_4, mF_5, mF_6, mF_7, mF_8, mF_9, mF_10, mF_11, mF_12, mF_13, mF_14, mF_15, mF_16, mF_len, mF_s1, mF_s3, mF_s4, mF_s12, mF_s13, mF_s14, mw_uob, mw_u0, mw_u2, mw_u5, mw_u6, mw_u7, mw_u8, mw_u9, mw_u10, mw_u11, mw_u15, mw_u16, Nat.reduceLT, rup_s, rup_rup]
  have e6 : upd (upd g 7 (nI (stepSet A ps l % 2 ^ 25))) 8 (nI (stepSet A ps l / 2 ^ 25)) 6 = nI nd := h6
  have e10 : ∀ f, rup r 0 f 10 = r 10 := fun f => rup_n (by decide)
  rw [e6, e10, lit_26, pk_mul, nI_add, nI_clamp (by omega), hm.2.2 nd l hnd hl]
  refine ⟨vp_in_nI (by omega) (by decide), ?_⟩
  refine f_put hb (i := 6) rfl (by decide) hf ?_
  simp only [and_assoc, exists_and_left, exists_eq_left, exists_eq_left', Option.some.injEq, Value.int.injEq, Value.ref.injEq, Value.long.injEq, true_and, and_true, exists_eq, exists_true_left, mw_ob, mw_ia0, mw_ia2, mw_ia5, mw_ia6, mw_ia7, mw_ia8, mw_ia9, mw_ia10, mw_ia11, mw_ia15, mw_ia16, mF_0, mF_1, mF_2, mF_3, mF_4, mF_5, mF_6, mF_7, mF_8, mF_9, mF_10, mF_11, mF_12, mF_13, mF_14, mF_15, mF_16, mF_len, mF_s1, mF_s3, mF_s4, mF_s12, mF_s13, mF_s14, mw_uob, mw_u0, mw_u2, mw_u5, mw_u6, mw_u7, mw_u8, mw_u9, mw_u10, mw_u11, mw_u15, mw_u16, Nat.reduceLT, rup_s, rup_rup]
  exact hK
end MPoss
