/-! gaps -/
def rowO (A : aAU) (k acc : Nat) : Nat → Nat
  | 0 => acc
  | l + 1 => rowO A k acc l ||| 2 ^ A.2.1 k l
def widK (A : aAU) (ps : Nat) : Nat → Nat
  | 0 => ps ||| 1
  | k + 1 => if ps.testBit k then rowO A k (widK A ps k) 26 else widK A ps k
def wid (A : aAU) (ps : Nat) : Nat := widK A ps A.1
def aSpr (A : aAU) : Nat → Nat → Nat
  | 0, ps => ps
  | n + 1, ps => if wid A ps = ps then ps else aSpr A n (wid A ps)
theorem rowO_lt {A : aAU} {k acc : Nat} (hA : auOk A) (hk : k < A.1) (ha : acc < 2 ^ 49) : ∀ {l : Nat}, l ≤ 26 → rowO A k acc l < 2 ^ 49
  | 0, _ => ha
  | l + 1, h => Nat.or_lt_two_pow (rowO_lt hA hk ha (by omega)) (Nat.pow_lt_pow_right (by decide) (Nat.lt_of_lt_of_le (hA.2.2.1 k l hk (by omega)) hA.2.1))
theorem widK_lt {A : aAU} {ps : Nat} (hA : auOk A) (hp : ps < 2 ^ 49) : ∀ {k : Nat}, k ≤ A.1 → widK A ps k < 2 ^ 49
  | 0, _ => Nat.or_lt_two_pow hp (by decide)
  | k + 1, h => by
    unfold widK
    split
    · exact rowO_lt hA (by omega) (widK_lt hA hp (by omega)) (Nat.le_refl _)
    · exact widK_lt hA hp (by omega)
theorem aSpr_lt {A : aAU} (hA : auOk A) : ∀ {n ps : Nat}, ps < 2 ^ 49 → aSpr A n ps < 2 ^ 49
  | 0, ps, h => h
  | n + 1, ps, h => by
    unfold aSpr
    split
    · exact h
    · exact aSpr_lt hA (widK_lt hA h (Nat.le_refl _))
def aGap (A : aAU) (ky : aKy) (F : aF) (to : Nat) : aF :=
  let S := aRel A ky.2.2.1 ky.1 F.1.1 F.1.2.1 F.1.2.2 F.2.1
  (((0, aSpr A (to - F.2.1) S.2.1, S.2.2.1, false, S.2.2.2.2), 0, F.1.2.2), to, F.2.2.1, F.2.2.2.1, F.2.2.2.2.1 + 1, F.2.2.2.2.2.1 + (to - F.2.1), F.2.2.2.2.2.2)
theorem aGap_ok {A : aAU} {ky : aKy} {F : aF} {to : Nat} (hA : auOk A) (h : sOk A F.1.1) (hi : F.2.1 < 2 ^ 30) : sOk A (aGap A ky F to).1.1 := by
  obtain ⟨h1, h2, h3, h4, h5⟩ := aRel_ok (fl := ky.2.2.1) (key := ky.1) (held := F.1.2.1) (dig := F.1.2.2) hA h hi
  exact ⟨hA.1, aSpr_lt hA h2, h3, h4, h5.zero _⟩
section MGap
variable {w : jx_W} {q : Nat} {c : Nat → Int32} {r : Nat → Nat → Int32} {K : jx_Q} {P g : Nat → Int32} {b : Nat} {A : aAU}
theorem f_row_loop {ps k acc : Nat} {x2 x4 : Int32} (hb : c 12 = nI b) (hf : b + 710 ≤ 22416) (hA : auOk A) (hm : MA c r A) (hp : PM g ps) (hk : k < A.1) (ht : ps.testBit k = true) (hK : zwp n_M_gap 4 [(0, .ref q), (2, .int x2), (4, .int x4), (5, .int (nI (rowO A k acc 26 % 2 ^ 25))), (6, .int (nI (rowO A k acc 26 / 2 ^ 25))), (7, .int (nI k))] [] 0 0 (mw w q c (rup r 0 (pgf P b 710 g))) K) : ∀ (n l : Nat), l + n = 26 → zwp n_M_gap 3 [(0, .ref q), (2, .int x2), (4, .int x4), (5, .int (nI (rowO A k acc l % 2 ^ 25))), (6, .int (nI (rowO A k acc l / 2 ^ 25))), (7, .int (nI k)), (8, .int (nI l))] [] 0 0 (mw w q c (rup r 0 (pgf P b 710 g))) K := by
  obtain ⟨m1, m2, m3⟩ := hm
  have h49 := hA.2.1
  intro n
  induction n with
  | zero =>
    intro l hl
    refine b_M_gap_3 ⟨fun _ => ?_, fun z => absurd ((nI_leI (a := 26) (by decide) (by omega)).mpr (by omega)) z⟩
    rw [show l = 26 by omega]
    exact hK
  | succ n ih =>
    intro l hl
    refine b_M_gap_3 ⟨fun z => absurd ((nI_leI (a := 26) (by decide) (by omega)).mp z) (by omega), fun _ => ?_⟩
    simp only [and_assoc, exists_and_left, exists_eq_left, exists_eq_left', Option.some.injEq, Value.int.injEq, Value.ref.injEq, Value.long.injEq, true_and, and_true, exists_eq, exists_true_left, mw_ob, mw_ia0, mw_ia2, mw_ia5, mw_ia6, mw_ia7, mw_ia8, mw_ia9, mw_ia10, mw_ia11, mw_ia15, mw_ia16, mF_0, mF_1, mF_2, mF_3, mF_4, mF_5, mF_6, mF_7, mF_8, mF_9, mF_10, mF_11, mF_12, mF_13, mF_14, mF_15, mF_16, mF_len, mF_s1, mF_s3, mF_s4, mF_s12, mF_s13, mF_s14, mw_uob, mw_u0, mw_u2, mw_u5, mw_u6, mw_u7, mw_u8, mw_u9, mw_u10, mw_u11, mw_u15, mw_u16, Nat.reduceLT, rup_s, rup_rup]
    refine f_isPossible hb hf hp rfl (by omega) (fun _ => ?_) (fun h => by rw [ht] at h; cases h)
    simp only [and_assoc, exists_and_left, exists_eq_left, exists_eq_left', Option.some.injEq, Value.int.injEq, Value.ref.injEq, Value.long.injEq, true_and, and_true, exists_eq, exists_true_left, mw_ob, mw_ia0, mw_ia2, mw_ia5, mw_ia6, mw_ia7, mw_ia8, mw_ia9, mw_ia10, mw_ia11, mw_ia15, mw_ia16, mF_0, mF_1, mF_2, mF_3, mF_4, mF_5, mF_6, mF_7, mF_8, mF_9, mF_10, mF_11, mF_12, mF_13, mF_14, mF_15, mF_16, mF_len, mF_s1, mF_s3, mF_s4, mF_s12, mF_s13, mF_s14, mw_uob, mw_u0, mw_u2, mw_u5, mw_u6, mw_u7, mw_u8, mw_u9, mw_u10, mw_u11, mw_u15, mw_u16, Nat.reduceLT, rup_s, rup_rup]
    refine if0 ?_
    have hnx := hA.2.2.1 k l hk (by omega)
    have e10 : rup r 0 (pgf P b 710 g) 10 = r 10 := rup_n (by decide)
    rw [e10, lit_26, pk_mul, nI_add, nI_clamp (by omega), m3 k l hk (by omega)]
    refine ⟨vp_in_nI (by omega) (by decide), ?_⟩
    refine s_M_lowOf rfl (by omega) ?_
    simp only [and_assoc, exists_and_left, exists_eq_left, exists_eq_left', Option.some.injEq, Value.int.injEq, Value.ref.injEq, Value.long.injEq, true_and, and_true, exists_eq, exists_true_left, mw_ob, mw_ia0, mw_ia2, mw_ia5, mw_ia6, mw_ia7, mw_ia8, mw_ia9, mw_ia10, mw_ia11, mw_ia15, mw_ia16, mF_0, mF_1, mF_2, mF_3, mF_4, mF_5, mF_6, mF_7, mF_8, mF_9, mF_10, mF_11, mF_12, mF_13, mF_14, mF_15, mF_16, mF_len, mF_s1, mF_s3, mF_s4, mF_s12, mF_s13, mF_s14, mw_uob, mw_u0, mw_u2, mw_u5, mw_u6, mw_u7, mw_u8, mw_u9, mw_u10, mw_u11, mw_u15, mw_u16, Nat.reduceLT, rup_s, rup_rup]
    rw [e10, m3 k l hk (by omega)]
    refine ⟨vp_in_nI (by omega) (by decide), ?_⟩
    refine s_M_highOf rfl (by omega) ?_
    simp only [and_assoc, exists_and_left, exists_eq_left, exists_eq_left', Option.some.injEq, Value.int.injEq, Value.ref.injEq, Value.long.injEq, true_and, and_true, exists_eq, exists_true_left, mw_ob, mw_ia0, mw_ia2, mw_ia5, mw_ia6, mw_ia7, mw_ia8, mw_ia9, mw_ia10, mw_ia11, mw_ia15, mw_ia16, mF_0, mF_1, mF_2, mF_3, mF_4, mF_5, mF_6, mF_7, mF_8, mF_9, mF_10, mF_11, mF_12, mF_13, mF_14, mF_15, mF_16, mF_len, mF_s1, mF_s3, mF_s4, mF_s12, mF_s13, mF_s14, mw_uob, mw_u0, mw_u2, mw_u5, mw_u6, mw_u7, mw_u8, mw_u9, mw_u10, mw_u11, mw_u15, mw_u16, Nat.reduceLT, rup_s, rup_rup]
    rw [nI_or, nI_or, ← Nat.or_mod_two_pow, ← or_div25, nI_1]
    exact ih (l + 1) (by omega)
theorem f_wid_loop {ps : Nat} {x2 x4 : Int32} (hb : c 12 = nI b) (hf : b + 710 ≤ 22416) (hA : auOk A) (hm : MA c r A) (hp : PM g ps) (hK : zwp n_M_gap 5 [(0, .ref q), (2, .int x2), (4, .int x4), (5, .int (nI (wid A ps % 2 ^ 25))), (6, .int (nI (wid A ps / 2 ^ 25)))] [] 0 0 (mw w q c (rup r 0 (pgf P b 710 g))) K) : ∀ (n k : Nat), k + n = A.1 → zwp n_M_gap 2 [(0, .ref q), (2, .int x2), (4, .int x4), (5, .int (nI (widK A ps k % 2 ^ 25))), (6, .int (nI (widK A ps k / 2 ^ 25))), (7, .int (nI k))] [] 0 0 (mw w q c (rup r 0 (pgf P b 710 g))) K := by
  have h49 := hA.2.1
  intro n
  induction n with
  | zero =>
    intro k hk
    refine b_M_gap_2 ?_
    simp only [and_assoc, exists_and_left, exists_eq_left, exists_eq_left', Option.some.injEq, Value.int.injEq, Value.ref.injEq, Value.long.injEq, true_and, and_true, exists_eq, exists_true_left, mw_ob, mw_ia0, mw_ia2, mw_ia5, mw_ia6, mw_ia7, mw_ia8, mw_ia9, mw_ia10, mw_ia11, mw_ia15, mw_ia16, mF_0, mF_1, mF_2, mF_3, mF_4, mF_5, mF_6, mF_7, mF_8, mF_9, mF_10, mF_11, mF_12, mF_13, mF_14, mF_15, mF_16, mF_len, mF_s1, mF_s3, mF_s4, mF_s12, mF_s13, mF_s14, mw_uob, mw_u0, mw_u2, mw_u5, mw_u6, mw_u7, mw_u8, mw_u9, mw_u10, mw_u11, mw_u15, mw_u16, Nat.reduceLT, rup_s, rup_rup]
    rw [hm.1]
    refine ⟨fun _ => ?_, fun z => absurd ((nI_leI (by omega) (by omega)).mpr (by omega)) z⟩
    rw [show k = A.1 by omega]
    exact hK
  | succ n ih =>
    intro k hk
    refine b_M_gap_2 ?_
    simp only [and_assoc, exists_and_left, exists_eq_left, exists_eq_left', Option.some.injEq, Value.int.injEq, Value.ref.injEq, Value.long.injEq, true_and, and_true, exists_eq, exists_true_left, mw_ob, mw_ia0, mw_ia2, mw_ia5, mw_ia6, mw_ia7, mw_ia8, mw_ia9, mw_ia10, mw_ia11, mw_ia15, mw_ia16, mF_0, mF_1, mF_2, mF_3, mF_4, mF_5, mF_6, mF_7, mF_8, mF_9, mF_10, mF_11, mF_12, mF_13, mF_14, mF_15, mF_16, mF_len, mF_s1, mF_s3, mF_s4, mF_s12, mF_s13, mF_s14, mw_uob, mw_u0, mw_u2, mw_u5, mw_u6, mw_u7, mw_u8, mw_u9, mw_u10, mw_u11, mw_u15, mw_u16, Nat.reduceLT, rup_s, rup_rup]
    rw [hm.1]
    refine ⟨fun z => absurd ((nI_leI (by omega) (by omega)).mp z) (by omega), fun _ => ?_⟩
    have hn := ih (k + 1) (by omega)
    cases ht : ps.testBit k with
    | true =>
      rw [show widK A ps (k + 1) = rowO A k (widK A ps k) 26 from (by show (if _ then _ else _) = _; rw [if_pos ht])] at hn
      refine f_row_loop (acc := widK A ps k) hb hf hA hm hp (by omega) ht (b_M_gap_4 ?_) 26 0 rfl
      rw [nI_1]
      exact hn
    | false =>
      rw [show widK A ps (k + 1) = widK A ps k from (by show (if _ then _ else _) = _; rw [if_neg (by rw [ht]; decide)])] at hn
      refine b_M_gap_3 ⟨fun z => absurd z (by decide), fun _ => ?_⟩
      simp only [and_assoc, exists_and_left, exists_eq_left, exists_eq_left', Option.some.injEq, Value.int.injEq, Value.ref.injEq, Value.long.injEq, true_and, and_true, exists_eq, exists_true_left, mw_ob, mw_ia0, mw_ia2, mw_ia5, mw_ia6, mw_ia7, mw_ia8, mw_ia9, mw_ia10, mw_ia11, mw_ia15, mw_ia16, mF_0, mF_1, mF_2, mF_3, mF_4, mF_5, mF_6, mF_7, mF_8, mF_9, mF_10, mF_11, mF_12, mF_13, mF_14, mF_15, mF_16, mF_len, mF_s1, mF_s3, mF_s4, mF_s12, mF_s13, mF_s14, mw_uob, mw_u0, mw_u2, mw_u5, mw_u6, mw_u7, mw_u8, mw_u9, mw_u10, mw_u11, mw_u15, mw_u16, Nat.reduceLT, rup_s, rup_rup]
      refine f_isPossible hb hf hp rfl (by omega) (fun h => by rw [ht] at h; cases h) (fun _ => ?_)
      simp only [and_assoc, exists_and_left, exists_eq_left, exists_eq_left', Option.some.injEq, Value.int.injEq, Value.ref.injEq, Value.long.injEq, true_and, and_true, exists_eq, exists_true_left, mw_ob, mw_ia0, mw_ia2, mw_ia5, mw_ia6, mw_ia7, mw_ia8, mw_ia9, mw_ia10, mw_ia11, mw_ia15, mw_ia16, mF_0, mF_1, mF_2, mF_3, mF_4, mF_5, mF_6, mF_7, mF_8, mF_9, mF_10, mF_11, mF_12, mF_13, mF_14, mF_15, mF_16, mF_len, mF_s1, mF_s3, mF_s4, mF_s12, mF_s13, mF_s14, mw_uob, mw_u0, mw_u2, mw_u5, mw_u6, mw_u7, mw_u8, mw_u9, mw_u10, mw_u11, mw_u15, mw_u16, Nat.reduceLT, rup_s, rup_rup]
      refine if1 (b_M_gap_4 ?_)
      rw [nI_1]
      exact hn
theorem f_spr_loop {N : Nat} (hb : c 12 = nI b) (hf : b + 710 ≤ 22416) (hA : auOk A) (hm : MA c r A) (hN : N < 2 ^ 30) : ∀ (n k ps : Nat) (g : Nat → Int32), k + n = N → PM g ps → (∀ g', PM g' (aSpr A n ps) → (∀ i, i ≠ 7 → i ≠ 8 → g' i = g i) → K (mw w q c (rup r 0 (pgf P b 710 g'))) none) → zwp n_M_gap 1 [(0, .ref q), (2, .int (nI N)), (3, .int 1), (4, .int (nI k))] [] 0 0 (mw w q c (rup r 0 (pgf P b 710 g))) K := by
  intro n
  induction n with
  | zero =>
    intro k ps g hk hp hK
    exact b_M_gap_1 ⟨fun _ => b_M_gap_9 (hK g hp (fun _ _ _ => rfl)), fun z => absurd ((nI_leI (by omega) (by omega)).mpr (by omega)) z⟩
  | succ n ih =>
    intro k ps g hk hp hK
    obtain ⟨p1, p2, p3⟩ := hp
    have hwl : wid A ps < 2 ^ 49 := widK_lt hA p3 (Nat.le_refl _)
    refine b_M_gap_1 ⟨fun z => absurd ((nI_leI (by omega) (by omega)).mp z) (by omega), fun _ => ⟨fun z => absurd z (by decide), fun _ => ?_⟩⟩
    simp only [and_assoc, exists_and_left, exists_eq_left, exists_eq_left', Option.some.injEq, Value.int.injEq, Value.ref.injEq, Value.long.injEq, true_and, and_true, exists_eq, exists_true_left, mw_ob, mw_ia0, mw_ia2, mw_ia5, mw_ia6, mw_ia7, mw_ia8, mw_ia9, mw_ia10, mw_ia11, mw_ia15, mw_ia16, mF_0, mF_1, mF_2, mF_3, mF_4, mF_5, mF_6, mF_7, mF_8, mF_9, mF_10, mF_11, mF_12, mF_13, mF_14, mF_15, mF_16, mF_len, mF_s1, mF_s3, mF_s4, mF_s12, mF_s13, mF_s14, mw_uob, mw_u0, mw_u2, mw_u5, mw_u6, mw_u7, mw_u8, mw_u9, mw_u10, mw_u11, mw_u15, mw_u16, Nat.reduceLT, rup_s, rup_rup]
    refine f_of hb (i := 7) rfl (by decide) hf ?_
    simp only [and_assoc, exists_and_left, exists_eq_left, exists_eq_left', Option.some.injEq, Value.int.injEq, Value.ref.injEq, Value.long.injEq, true_and, and_true, exists_eq, exists_true_left, mw_ob, mw_ia0, mw_ia2, mw_ia5, mw_ia6, mw_ia7, mw_ia8, mw_ia9, mw_ia10, mw_ia11, mw_ia15, mw_ia16, mF_0, mF_1, mF_2, mF_3, mF_4, mF_5, mF_6, mF_7, mF_8, mF_9, mF_10, mF_11, mF_12, mF_13, mF_14, mF_15, mF_16, mF_len, mF_s1, mF_s3, mF_s4, mF_s12, mF_s13, mF_s14, mw_uob, mw_u0, mw_u2, mw_u5, mw_u6, mw_u7, mw_u8, mw_u9, mw_u10, mw_u11, mw_u15, mw_u16, Nat.reduceLT, rup_s, rup_rup]
    refine f_of hb (i := 8) rfl (by decide) hf ?_
    simp only [and_assoc, exists_and_left, exists_eq_left, exists_eq_left', Option.some.injEq, Value.int.injEq, Value.ref.injEq, Value.long.injEq, true_and, and_true, exists_eq, exists_true_left, mw_ob, mw_ia0, mw_ia2, mw_ia5, mw_ia6, mw_ia7, mw_ia8, mw_ia9, mw_ia10, mw_ia11, mw_ia15, mw_ia16, mF_0, mF_1, mF_2, mF_3, mF_4, mF_5, mF_6, mF_7, mF_8, mF_9, mF_10, mF_11, mF_12, mF_13, mF_14, mF_15, mF_16, mF_len, mF_s1, mF_s3, mF_s4, mF_s12, mF_s13, mF_s14, mw_uob, mw_u0, mw_u2, mw_u5, mw_u6, mw_u7, mw_u8, mw_u9, mw_u10, mw_u11, mw_u15, mw_u16, Nat.reduceLT, rup_s, rup_rup]
    rw [p1, p2, lit_1, nI_or]
    have e1 : ps % 2 ^ 25 ||| 1 = widK A ps 0 % 2 ^ 25 := by show _ = (ps ||| 1) % 2 ^ 25; rw [Nat.or_mod_two_pow]
    have e2 : ps / 2 ^ 25 = widK A ps 0 / 2 ^ 25 := by show _ = (ps ||| 1) / 2 ^ 25; rw [or_div25, show 1 / 2 ^ 25 = 0 by decide, Nat.or_zero]
    rw [e1, e2]
    have e3 : wid A ps % 2 ^ 25 = ps % 2 ^ 25 → wid A ps / 2 ^ 25 = ps / 2 ^ 25 → wid A ps = ps := fun a1 a2 => by
      have h1 := Nat.div_add_mod (wid A ps) (2 ^ 25)
      have h2 := Nat.div_add_mod ps (2 ^ 25)
      rw [a1, a2] at h1
      omega
    have lo1 := ps_low (ps := wid A ps)
    have lo2 := ps_low (ps := ps)
    have hi1 := ps_high hwl
    have hi2 := ps_high p3
    obtain ⟨g', hg'⟩ : ∃ g', g' = upd (upd g 7 (nI (wid A ps % 2 ^ 25))) 8 (nI (wid A ps / 2 ^ 25)) := ⟨_, rfl⟩
    have hp' : PM g' (wid A ps) := by rw [hg']; exact ⟨rfl, rfl, hwl⟩
    have g'o : ∀ i, i ≠ 7 → i ≠ 8 → g' i = g i := fun i a1 a2 => by rw [hg']; exact (if_neg a2).trans (if_neg a1)
    have go1 : wid A ps ≠ ps → zwp n_M_gap 6 [(0, .ref q), (2, .int (nI N)), (4, .int (nI k)), (5, .int (nI (wid A ps % 2 ^ 25))), (6, .int (nI (wid A ps / 2 ^ 25)))] [] 0 0 (mw w q c (rup r 0 (pgf P b 710 g))) K := fun hne => by
      refine b_M_gap_6 (b_M_gap_8 ?_)
      simp only [and_assoc, exists_and_left, exists_eq_left, exists_eq_left', Option.some.injEq, Value.int.injEq, Value.ref.injEq, Value.long.injEq, true_and, and_true, exists_eq, exists_true_left, mw_ob, mw_ia0, mw_ia2, mw_ia5, mw_ia6, mw_ia7, mw_ia8, mw_ia9, mw_ia10, mw_ia11, mw_ia15, mw_ia16, mF_0, mF_1, mF_2, mF_3, mF_4, mF_5, mF_6, mF_7, mF_8, mF_9, mF_10, mF_11, mF_12, mF_13, mF_14, mF_15, mF_16, mF_len, mF_s1, mF_s3, mF_s4, mF_s12, mF_s13, mF_s14, mw_uob, mw_u0, mw_u2, mw_u5, mw_u6, mw_u7, mw_u8, mw_u9, mw_u10, mw_u11, mw_u15, mw_u16, Nat.reduceLT, rup_s, rup_rup]
      refine f_laysPossible hb hf ?_
      simp only [and_assoc, exists_and_left, exists_eq_left, exists_eq_left', Option.some.injEq, Value.int.injEq, Value.ref.injEq, Value.long.injEq, true_and, and_true, exists_eq, exists_true_left, mw_ob, mw_ia0, mw_ia2, mw_ia5, mw_ia6, mw_ia7, mw_ia8, mw_ia9, mw_ia10, mw_ia11, mw_ia15, mw_ia16, mF_0, mF_1, mF_2, mF_3, mF_4, mF_5, mF_6, mF_7, mF_8, mF_9, mF_10, mF_11, mF_12, mF_13, mF_14, mF_15, mF_16, mF_len, mF_s1, mF_s3, mF_s4, mF_s12, mF_s13, mF_s14, mw_uob, mw_u0, mw_u2, mw_u5, mw_u6, mw_u7, mw_u8, mw_u9, mw_u10, mw_u11, mw_u15, mw_u16, Nat.reduceLT, rup_s, rup_rup]
      rw [← hg', nI_1]
      refine ih (k + 1) (wid A ps) g' (by omega) hp' (fun g2 t1 t2 => hK g2 ?_ (fun i a1 a2 => (t2 i a1 a2).trans (g'o i a1 a2)))
      show PM g2 (if wid A ps = ps then ps else aSpr A n (wid A ps))
      rw [if_neg hne]
      exact t1
    refine f_wid_loop hb hf hA hm ⟨p1, p2, p3⟩ (b_M_gap_5 ?_) A.1 0 (by omega)
    simp only [and_assoc, exists_and_left, exists_eq_left, exists_eq_left', Option.some.injEq, Value.int.injEq, Value.ref.injEq, Value.long.injEq, true_and, and_true, exists_eq, exists_true_left, mw_ob, mw_ia0, mw_ia2, mw_ia5, mw_ia6, mw_ia7, mw_ia8, mw_ia9, mw_ia10, mw_ia11, mw_ia15, mw_ia16, mF_0, mF_1, mF_2, mF_3, mF_4, mF_5, mF_6, mF_7, mF_8, mF_9, mF_10, mF_11, mF_12, mF_13, mF_14, mF_15, mF_16, mF_len, mF_s1, mF_s3, mF_s4, mF_s12, mF_s13, mF_s14, mw_uob, mw_u0, mw_u2, mw_u5, mw_u6, mw_u7, mw_u8, mw_u9, mw_u10, mw_u11, mw_u15, mw_u16, Nat.reduceLT, rup_s, rup_rup]
    refine f_of hb (i := 7) rfl (by decide) hf ?_
    simp only [and_assoc, exists_and_left, exists_eq_left, exists_eq_left', Option.some.injEq, Value.int.injEq, Value.ref.injEq, Value.long.injEq, true_and, and_true, exists_eq, exists_true_left, mw_ob, mw_ia0, mw_ia2, mw_ia5, mw_ia6, mw_ia7, mw_ia8, mw_ia9, mw_ia10, mw_ia11, mw_ia15, mw_ia16, mF_0, mF_1, mF_2, mF_3, mF_4, mF_5, mF_6, mF_7, mF_8, mF_9, mF_10, mF_11, mF_12, mF_13, mF_14, mF_15, mF_16, mF_len, mF_s1, mF_s3, mF_s4, mF_s12, mF_s13, mF_s14, mw_uob, mw_u0, mw_u2, mw_u5, mw_u6, mw_u7, mw_u8, mw_u9, mw_u10, mw_u11, mw_u15, mw_u16, Nat.reduceLT, rup_s, rup_rup]
    rw [p1]
    refine ⟨fun z => go1 (fun e => z (by rw [e])), fun z => ?_⟩
    refine f_of hb (i := 8) rfl (by decide) hf ?_
    simp only [and_assoc, exists_and_left, exists_eq_left, exists_eq_left', Option.some.injEq, Value.int.injEq, Value.ref.injEq, Value.long.injEq, true_and, and_true, exists_eq, exists_true_left, mw_ob, mw_ia0, mw_ia2, mw_ia5, mw_ia6, mw_ia7, mw_ia8, mw_ia9, mw_ia10, mw_ia11, mw_ia15, mw_ia16, mF_0, mF_1, mF_2, mF_3, mF_4, mF_5, mF_6, mF_7, mF_8, mF_9, mF_10, mF_11, mF_12, mF_13, mF_14, mF_15, mF_16, mF_len, mF_s1, mF_s3, mF_s4, mF_s12, mF_s13, mF_s14, mw_uob, mw_u0, mw_u2, mw_u5, mw_u6, mw_u7, mw_u8, mw_u9, mw_u10, mw_u11, mw_u15, mw_u16, Nat.reduceLT, rup_s, rup_rup]
    rw [p2]
    refine ⟨fun y => b_M_gap_7 (b_M_gap_8 ?_), fun y => go1 (fun e => y (by rw [e]))⟩
    have heq : wid A ps = ps := e3 ((nI_eq lo1 lo2).mp z) ((nI_eq hi1 hi2).mp y)
    simp only [and_assoc, exists_and_left, exists_eq_left, exists_eq_left', Option.some.injEq, Value.int.injEq, Value.ref.injEq, Value.long.injEq, true_and, and_true, exists_eq, exists_true_left, mw_ob, mw_ia0, mw_ia2, mw_ia5, mw_ia6, mw_ia7, mw_ia8, mw_ia9, mw_ia10, mw_ia11, mw_ia15, mw_ia16, mF_0, mF_1, mF_2, mF_3, mF_4, mF_5, mF_6, mF_7, mF_8, mF_9, mF_10, mF_11, mF_12, mF_13, mF_14, mF_15, mF_16, mF_len, mF_s1, mF_s3, mF_s4, mF_s12, mF_s13, mF_s14, mw_uob, mw_u0, mw_u2, mw_u5, mw_u6, mw_u7, mw_u8, mw_u9, mw_u10, mw_u11, mw_u15, mw_u16, Nat.reduceLT, rup_s, rup_rup]
    refine f_laysPossible hb hf ?_
    simp only [and_assoc, exists_and_left, exists_eq_left, exists_eq_left', Option.some.injEq, Value.int.injEq, Value.ref.injEq, Value.long.injEq, true_and, and_true, exists_eq, exists_true_left, mw_ob, mw_ia0, mw_ia2, mw_ia5, mw_ia6, mw_ia7, mw_ia8, mw_ia9, mw_ia10, mw_ia11, mw_ia15, mw_ia16, mF_0, mF_1, mF_2, mF_3, mF_4, mF_5, mF_6, mF_7, mF_8, mF_9, mF_10, mF_11, mF_12, mF_13, mF_14, mF_15, mF_16, mF_len, mF_s1, mF_s3, mF_s4, mF_s12, mF_s13, mF_s14, mw_uob, mw_u0, mw_u2, mw_u5, mw_u6, mw_u7, mw_u8, mw_u9, mw_u10, mw_u11, mw_u15, mw_u16, Nat.reduceLT, rup_s, rup_rup]
    rw [← hg']
    have fin : K (mw w q c (rup r 0 (pgf P b 710 g'))) none := by
      refine hK g' ?_ g'o
      show PM g' (if wid A ps = ps then ps else aSpr A n (wid A ps))
      rw [if_pos heq, ← heq]
      rw [heq]
      rw [heq] at hp'
      exact hp'
    refine b_M_gap_1 ⟨fun _ => b_M_gap_9 fin, fun _ => ⟨fun _ => b_M_gap_9 fin, fun y => absurd rfl y⟩⟩
theorem f_gap {f0 n0 to : Nat} {x : Int32} {ky : aKy} {F : aF} (hb : c 12 = nI b) (hf : b + 710 ≤ 22416) (hb1 : 186 ≤ b) (hA : auOk A) (hky : kyOk ky) (hm : MA c r A) (hW : PWd P A) (hS : sOk A F.1.1) (ho : F.2.1 ≤ to) (hto : to < 2000) (hx : x = nI to) (hF : MFw f0 n0 c P g ky F)
    (hK : ∀ c' P' g', MFw f0 n0 c' P' g' ky (aGap A ky F to) → CFr c c' → PFr P P' → GLg g g' → K (mw w q c' (rup r 0 (pgf P' b 710 g'))) none) : zcall n_M_gap [.ref q, .int x] (mw w q c (rup r 0 (pgf P b 710 g))) K := by
  subst hx
  obtain ⟨⟨S, held, dig⟩, off, ps, cf, e1, e2, e3, e4⟩ := F
  obtain ⟨r1, r2, r3, r4, r5, r6, r7, r8, r9, r10, r11, r12, r13⟩ := hF
  dsimp only at hS ho r1 r2 r3 r4 r5 r6 r7 r8 r9 r10 r11 r12 r13
  refine e_M_gap (b_M_gap_0 ?_)
  simp only [and_assoc, exists_and_left, exists_eq_left, exists_eq_left', Option.some.injEq, Value.int.injEq, Value.ref.injEq, Value.long.injEq, true_and, and_true, exists_eq, exists_true_left, mw_ob, mw_ia0, mw_ia2, mw_ia5, mw_ia6, mw_ia7, mw_ia8, mw_ia9, mw_ia10, mw_ia11, mw_ia15, mw_ia16, mF_0, mF_1, mF_2, mF_3, mF_4, mF_5, mF_6, mF_7, mF_8, mF_9, mF_10, mF_11, mF_12, mF_13, mF_14, mF_15, mF_16, mF_len, mF_s1, mF_s3, mF_s4, mF_s12, mF_s13, mF_s14, mw_uob, mw_u0, mw_u2, mw_u5, mw_u6, mw_u7, mw_u8, mw_u9, mw_u10, mw_u11, mw_u15, mw_u16, Nat.reduceLT, rup_s, rup_rup]
  refine f_of hb (i := 4) rfl (by decide) hf ?_
  simp only [and_assoc, exists_and_left, exists_eq_left, exists_eq_left', Option.some.injEq, Value.int.injEq, Value.ref.injEq, Value.long.injEq, true_and, and_true, exists_eq, exists_true_left, mw_ob, mw_ia0, mw_ia2, mw_ia5, mw_ia6, mw_ia7, mw_ia8, mw_ia9, mw_ia10, mw_ia11, mw_ia15, mw_ia16, mF_0, mF_1, mF_2, mF_3, mF_4, mF_5, mF_6, mF_7, mF_8, mF_9, mF_10, mF_11, mF_12, mF_13, mF_14, mF_15, mF_16, mF_len, mF_s1, mF_s3, mF_s4, mF_s12, mF_s13, mF_s14, mw_uob, mw_u0, mw_u2, mw_u5, mw_u6, mw_u7, mw_u8, mw_u9, mw_u10, mw_u11, mw_u15, mw_u16, Nat.reduceLT, rup_s, rup_rup]
  refine f_adds hb (i := 16) rfl (by decide) hf ?_
  simp only [and_assoc, exists_and_left, exists_eq_left, exists_eq_left', Option.some.injEq, Value.int.injEq, Value.ref.injEq, Value.long.injEq, true_and, and_true, exists_eq, exists_true_left, mw_ob, mw_ia0, mw_ia2, mw_ia5, mw_ia6, mw_ia7, mw_ia8, mw_ia9, mw_ia10, mw_ia11, mw_ia15, mw_ia16, mF_0, mF_1, mF_2, mF_3, mF_4, mF_5, mF_6, mF_7, mF_8, mF_9, mF_10, mF_11, mF_12, mF_13, mF_14, mF_15, mF_16, mF_len, mF_s1, mF_s3, mF_s4, mF_s12, mF_s13, mF_s14, mw_uob, mw_u0, mw_u2, mw_u5, mw_u6, mw_u7, mw_u8, mw_u9, mw_u10, mw_u11, mw_u15, mw_u16, Nat.reduceLT, rup_s, rup_rup]
  refine f_adds hb (i := 17) rfl (by decide) hf ?_
  simp only [and_assoc, exists_and_left, exists_eq_left, exists_eq_left', Option.some.injEq, Value.int.injEq, Value.ref.injEq, Value.long.injEq, true_and, and_true, exists_eq, exists_true_left, mw_ob, mw_ia0, mw_ia2, mw_ia5, mw_ia6, mw_ia7, mw_ia8, mw_ia9, mw_ia10, mw_ia11, mw_ia15, mw_ia16, mF_0, mF_1, mF_2, mF_3, mF_4, mF_5, mF_6, mF_7, mF_8, mF_9, mF_10, mF_11, mF_12, mF_13, mF_14, mF_15, mF_16, mF_len, mF_s1, mF_s3, mF_s4, mF_s12, mF_s13, mF_s14, mw_uob, mw_u0, mw_u2, mw_u5, mw_u6, mw_u7, mw_u8, mw_u9, mw_u10, mw_u11, mw_u15, mw_u16, Nat.reduceLT, rup_s, rup_rup]
  rw [r3, pk_sub ho, show upd g 16 (g 16 + 1) 17 = nI e2 from r7, r6, nI_1, nI_add]
  obtain ⟨g1, hg1⟩ : ∃ g1, g1 = upd (upd g 16 (nI (e1 + 1))) 17 (nI (e2 + (to - off))) := ⟨_, rfl⟩
  rw [← hg1]
  have g1o : ∀ i, i ≠ 16 → i ≠ 17 → g1 i = g i := fun i a1 a2 => by rw [hg1]; exact (if_neg a2).trans (if_neg a1)
  refine f_lets (S := S) (held := held) (dig := dig) (index := off) hb hf hb1 hA hm hW ((g1o 2 (by decide) (by decide)).trans r12) hky.2.1 hS (MR_congr2 r1 (fun i a1 a2 => g1o i (by omega) (by omega))) (MHd_congr r2 (g1o 9 (by decide) (by decide)) (g1o 10 (by decide) (by decide)) (g1o 11 (by decide) (by decide))) (by omega) (fun c' P' g2 m1 m9 m2 m3 m4 => ?_)
  simp only [and_assoc, exists_and_left, exists_eq_left, exists_eq_left', Option.some.injEq, Value.int.injEq, Value.ref.injEq, Value.long.injEq, true_and, and_true, exists_eq, exists_true_left, mw_ob, mw_ia0, mw_ia2, mw_ia5, mw_ia6, mw_ia7, mw_ia8, mw_ia9, mw_ia10, mw_ia11, mw_ia15, mw_ia16, mF_0, mF_1, mF_2, mF_3, mF_4, mF_5, mF_6, mF_7, mF_8, mF_9, mF_10, mF_11, mF_12, mF_13, mF_14, mF_15, mF_16, mF_len, mF_s1, mF_s3, mF_s4, mF_s12, mF_s13, mF_s14, mw_uob, mw_u0, mw_u2, mw_u5, mw_u6, mw_u7, mw_u8, mw_u9, mw_u10, mw_u11, mw_u15, mw_u16, Nat.reduceLT, rup_s, rup_rup]
  have hb' := m2.b hb
  rw [show g1 0 = ky.1 from (g1o 0 (by decide) (by decide)).trans r10] at m1
  have k5 : ∀ i, i ≠ 16 → i ≠ 17 → i < 6 ∨ i = 13 ∨ i = 14 ∨ i = 15 ∨ i = 21 ∨ 38 ≤ i → g2 i = g i := fun i a1 a2 a3 => (m4 i (by omega) (by omega) (by omega) (by omega) (by omega) (by omega) (by omega) (by omega) (by omega) (by omega) (by omega)).trans (g1o i a1 a2)
  refine f_put hb' (i := 12) rfl (by decide) hf ?_
  simp only [and_assoc, exists_and_left, exists_eq_left, exists_eq_left', Option.some.injEq, Value.int.injEq, Value.ref.injEq, Value.long.injEq, true_and, and_true, exists_eq, exists_true_left, mw_ob, mw_ia0, mw_ia2, mw_ia5, mw_ia6, mw_ia7, mw_ia8, mw_ia9, mw_ia10, mw_ia11, mw_ia15, mw_ia16, mF_0, mF_1, mF_2, mF_3, mF_4, mF_5, mF_6, mF_7, mF_8, mF_9, mF_10, mF_11, mF_12, mF_13, mF_14, mF_15, mF_16, mF_len, mF_s1, mF_s3, mF_s4, mF_s12, mF_s13, mF_s14, mw_uob, mw_u0, mw_u2, mw_u5, mw_u6, mw_u7, mw_u8, mw_u9, mw_u10, mw_u11, mw_u15, mw_u16, Nat.reduceLT, rup_s, rup_rup]
  refine f_put hb' (i := 6) rfl (by decide) hf ?_
  simp only [and_assoc, exists_and_left, exists_eq_left, exists_eq_left', Option.some.injEq, Value.int.injEq, Value.ref.injEq, Value.long.injEq, true_and, and_true, exists_eq, exists_true_left, mw_ob, mw_ia0, mw_ia2, mw_ia5, mw_ia6, mw_ia7, mw_ia8, mw_ia9, mw_ia10, mw_ia11, mw_ia15, mw_ia16, mF_0, mF_1, mF_2, mF_3, mF_4, mF_5, mF_6, mF_7, mF_8, mF_9, mF_10, mF_11, mF_12, mF_13, mF_14, mF_15, mF_16, mF_len, mF_s1, mF_s3, mF_s4, mF_s12, mF_s13, mF_s14, mw_uob, mw_u0, mw_u2, mw_u5, mw_u6, mw_u7, mw_u8, mw_u9, mw_u10, mw_u11, mw_u15, mw_u16, Nat.reduceLT, rup_s, rup_rup]
  refine f_put hb' (i := 4) rfl (by decide) hf ?_
  simp only [and_assoc, exists_and_left, exists_eq_left, exists_eq_left', Option.some.injEq, Value.int.injEq, Value.ref.injEq, Value.long.injEq, true_and, and_true, exists_eq, exists_true_left, mw_ob, mw_ia0, mw_ia2, mw_ia5, mw_ia6, mw_ia7, mw_ia8, mw_ia9, mw_ia10, mw_ia11, mw_ia15, mw_ia16, mF_0, mF_1, mF_2, mF_3, mF_4, mF_5, mF_6, mF_7, mF_8, mF_9, mF_10, mF_11, mF_12, mF_13, mF_14, mF_15, mF_16, mF_len, mF_s1, mF_s3, mF_s4, mF_s12, mF_s13, mF_s14, mw_uob, mw_u0, mw_u2, mw_u5, mw_u6, mw_u7, mw_u8, mw_u9, mw_u10, mw_u11, mw_u15, mw_u16, Nat.reduceLT, rup_s, rup_rup]
  obtain ⟨g3, hg3⟩ : ∃ g3, g3 = upd (upd (upd g2 12 0) 6 0) 4 (nI to) := ⟨_, rfl⟩
  rw [← hg3]
  have g3o : ∀ i, i ≠ 12 → i ≠ 6 → i ≠ 4 → g3 i = g2 i := fun i a1 a2 a3 => by rw [hg3]; exact (if_neg a3).trans ((if_neg a2).trans (if_neg a1))
  obtain ⟨s1, s2, s3, s4, s5, s6, s7, s8, s9, s10⟩ := m1
  refine f_spr_loop hb' hf hA (hm.fr m2) (by omega) (to - off) 0 _ g3 (by omega) ⟨(g3o 7 (by decide) (by decide) (by decide)).trans s2.1, (g3o 8 (by decide) (by decide) (by decide)).trans s2.2.1, s2.2.2⟩ (fun g4 t1 t2 => ?_)
  have g4o : ∀ i, i ≠ 7 → i ≠ 8 → i ≠ 12 → i ≠ 6 → i ≠ 4 → g4 i = g2 i := fun i a1 a2 a3 a4 a5 => (t2 i a1 a2).trans (g3o i a3 a4 a5)
  have g4k : ∀ i, i ≠ 4 → i ≠ 16 → i ≠ 17 → i < 6 ∨ i = 13 ∨ i = 14 ∨ i = 15 ∨ i = 21 ∨ 38 ≤ i → g4 i = g i := fun i a1 a2 a3 a4 => (g4o i (by omega) (by omega) (by omega) (by omega) a1).trans (k5 i a2 a3 a4)
  refine hK c' P' g4 ⟨⟨(t2 6 (by decide) (by decide)).trans (by rw [hg3]; rfl), t1, MH_congr s3 (g4o 18 (by decide) (by decide) (by decide) (by decide) (by decide)) (fun i h1 h2 => g4o i (by omega) (by omega) (by omega) (by omega) (by omega)), (t2 12 (by decide) (by decide)).trans (by rw [hg3]; rfl), s5, (g4o 19 (by decide) (by decide) (by decide) (by decide) (by decide)).trans s6, (g4o 20 (by decide) (by decide) (by decide) (by decide) (by decide)).trans s7, s8, s9, s10⟩, ⟨(g4o 9 (by decide) (by decide) (by decide) (by decide) (by decide)).trans m9, by show 0 ≤ 2; decide, fun z => absurd z (show ¬ 0 < 0 by decide), fun z => absurd z (show ¬ 0 = 2 by decide)⟩, (t2 4 (by decide) (by decide)).trans (by rw [hg3]; rfl), MP_congr r4 (g4k 5 (by decide) (by decide) (by decide) (by decide)) (fun i h1 h2 => g4k i (by omega) (by omega) (by omega) (by omega)), (g4k 15 (by decide) (by decide) (by decide) (by decide)).trans r5, ?_, ?_, (g4k 13 (by decide) (by decide) (by decide) (by decide)).trans r8, (g4k 14 (by decide) (by decide) (by decide) (by decide)).trans r9, (g4k 0 (by decide) (by decide) (by decide) (by decide)).trans r10, (g4k 1 (by decide) (by decide) (by decide) (by decide)).trans r11, (g4k 2 (by decide) (by decide) (by decide) (by decide)).trans r12, (g4k 3 (by decide) (by decide) (by decide) (by decide)).trans r13⟩ m2 m3 ⟨g4k 21 (by decide) (by decide) (by decide) (by decide), fun i hi => g4k i (by omega) (by omega) (by omega) (by omega)⟩
  · refine (g4o 16 (by decide) (by decide) (by decide) (by decide) (by decide)).trans ((m4 16 (by decide) (by decide) (by decide) (by decide) (by decide) (by decide) (by decide) (by decide) (by decide) (by decide) (by decide)).trans ?_)
    rw [hg1]; rfl
  · refine (g4o 17 (by decide) (by decide) (by decide) (by decide) (by decide)).trans ((m4 17 (by decide) (by decide) (by decide) (by decide) (by decide) (by decide) (by decide) (by decide) (by decide) (by decide) (by decide)).trans ?_)
    rw [hg1]; rfl
end MGap
