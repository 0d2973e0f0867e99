/-! THE MODEL: inserts(..) -/
def r56 (r : Nat → Nat → Int32) (L T : Nat → Int32) : Nat → Nat → Int32 := fun j => if j = 5 then L else if j = 6 then T else r j
theorem r56_5 {r : Nat → Nat → Int32} {L T : Nat → Int32} : r56 r L T 5 = L := rfl
theorem r56_6 {r : Nat → Nat → Int32} {L T : Nat → Int32} : r56 r L T 6 = T := rfl
theorem r56_11 {r : Nat → Nat → Int32} {L T : Nat → Int32} : r56 r L T 11 = r 11 := rfl
theorem r56_u5 {r : Nat → Nat → Int32} {L T L' : Nat → Int32} : rup (r56 r L T) 5 L' = r56 r L' T := by
  funext j
  unfold rup r56
  by_cases h : j = 5
  · simp only [h, if_true]
  · simp only [h, if_false]
theorem r56_u6 {r : Nat → Nat → Int32} {L T T' : Nat → Int32} : rup (r56 r L T) 6 T' = r56 r L T' := by
  funext j
  unfold rup r56
  by_cases h : j = 6
  · subst h; rfl
  · simp only [h, if_false]
theorem r56_id {r : Nat → Nat → Int32} : r56 r (r 5) (r 6) = r := by
  funext j
  unfold r56
  by_cases h : j = 5
  · rw [if_pos h, h]
  · rw [if_neg h]
    by_cases h2 : j = 6
    · rw [if_pos h2, h2]
    · rw [if_neg h2]
def shL (L : Nat → Int32) (m n : Nat) : Nat → Int32 := fun i => if m < i ∧ i ≤ n then L (i - 1) else L i
def shT (T : Nat → Int32) (m n i : Nat) : Nat → Int32 := fun j => if (8 * (m + 1) ≤ j ∧ j < 8 * (n + 1)) ∨ (8 * m ≤ j ∧ j < 8 * m + i) then T (j - 8) else T j
theorem shL_step {L : Nat → Int32} {m n : Nat} (h : m + 1 ≤ n) : upd (shL L (m + 1) n) (m + 1) (shL L (m + 1) n m) = shL L m n := by
  have e : shL L (m + 1) n m = L m := if_neg (by omega)
  rw [e]
  funext i
  show (if i = m + 1 then L m else if m + 1 < i ∧ i ≤ n then L (i - 1) else L i) = if m < i ∧ i ≤ n then L (i - 1) else L i
  by_cases h1 : i = m + 1
  · rw [if_pos h1, if_pos (by omega), h1, Nat.add_sub_cancel]
  · rw [if_neg h1]
    by_cases h2 : m + 1 < i ∧ i ≤ n
    · rw [if_pos h2, if_pos (by omega)]
    · rw [if_neg h2, if_neg (by omega)]
theorem shT_step {T : Nat → Int32} {m n i : Nat} (hi : i < 8) : upd (shT T (m + 1) n i) (8 * (m + 1) + i) (shT T (m + 1) n i (8 * m + i)) = shT T (m + 1) n (i + 1) := by
  have e : shT T (m + 1) n i (8 * m + i) = T (8 * m + i) := if_neg (by omega)
  rw [e]
  funext j
  show (if j = 8 * (m + 1) + i then T (8 * m + i) else if (8 * (m + 1 + 1) ≤ j ∧ j < 8 * (n + 1)) ∨ (8 * (m + 1) ≤ j ∧ j < 8 * (m + 1) + i) then T (j - 8) else T j) = if (8 * (m + 1 + 1) ≤ j ∧ j < 8 * (n + 1)) ∨ (8 * (m + 1) ≤ j ∧ j < 8 * (m + 1) + (i + 1)) then T (j - 8) else T j
  by_cases h1 : j = 8 * (m + 1) + i
  · rw [if_pos h1, if_pos (by omega), h1, show 8 * (m + 1) + i - 8 = 8 * m + i by omega]
  · rw [if_neg h1]
    by_cases h2 : (8 * (m + 1 + 1) ≤ j ∧ j < 8 * (n + 1)) ∨ (8 * (m + 1) ≤ j ∧ j < 8 * (m + 1) + i)
    · rw [if_pos h2, if_pos (by omega)]
    · rw [if_neg h2, if_neg (by omega)]
theorem shT_row {T : Nat → Int32} {m n : Nat} (h : m + 1 ≤ n) : shT T (m + 1) n 8 = shT T m n 0 := by
  funext j
  show (if (8 * (m + 1 + 1) ≤ j ∧ j < 8 * (n + 1)) ∨ (8 * (m + 1) ≤ j ∧ j < 8 * (m + 1) + 8) then T (j - 8) else T j) = if (8 * (m + 1) ≤ j ∧ j < 8 * (n + 1)) ∨ (8 * m ≤ j ∧ j < 8 * m + 0) then T (j - 8) else T j
  by_cases h1 : 8 * (m + 1) ≤ j ∧ j < 8 * (n + 1)
  · rw [if_pos (by omega), if_pos (by omega)]
  · rw [if_neg (by omega), if_neg (by omega)]
/-- letters of a new row laid up to i -/
def inT (T : Nat → Int32) (x : List Nat) (p i : Nat) : Nat → Int32 := fun j => if 8 * p ≤ j ∧ j < 8 * p + i then nI (x.getD (j - 8 * p) 0) else T j
theorem inT_step {T : Nat → Int32} {x : List Nat} {p i : Nat} : upd (inT T x p i) (8 * p + i) (nI (x.getD i 0)) = inT T x p (i + 1) := by
  funext j
  show (if j = 8 * p + i then nI (x.getD i 0) else if 8 * p ≤ j ∧ j < 8 * p + i then nI (x.getD (j - 8 * p) 0) else T j) = if 8 * p ≤ j ∧ j < 8 * p + (i + 1) then nI (x.getD (j - 8 * p) 0) else T j
  by_cases h1 : j = 8 * p + i
  · rw [if_pos h1, if_pos (by omega), h1, Nat.add_sub_cancel_left]
  · rw [if_neg h1]
    by_cases h2 : 8 * p ≤ j ∧ j < 8 * p + i
    · rw [if_pos h2, if_pos (by omega)]
    · rw [if_neg h2, if_neg (by omega)]
theorem inT_0 {T : Nat → Int32} {x : List Nat} {p : Nat} : inT T x p 0 = T := by
  funext j
  exact if_neg (by omega)
theorem posL_eq {x : List Nat} {N : aNL} {i : Nat} (hi : i ≤ N.length) (h1 : ∀ j, j < i → enc (nGet N j) < enc x) (h2 : i < N.length → ¬ enc (nGet N i) < enc x) : posL x N = i := by
  rcases Nat.lt_trichotomy (posL x N) i with h | h | h
  · exact absurd (h1 _ h) (posL_at (by omega))
  · exact h
  · have := posL_le (x := x) (N := N)
    exact absurd (posL_lt h) (h2 (by omega))
theorem MNd_ins {c : Nat → Int32} {r : Nat → Nat → Int32} {N : aNL} {x : List Nat} {p : Nat} (hN : nlOk N) (hM : MNd c r N) (hx : x.length ≤ 8) (hp : p ≤ N.length) : MNd (upd c 4 (nI (N.length + 1))) (r56 r (upd (shL (r 5) p N.length) p (nI x.length)) (inT (shT (r 6) p N.length 0) x p x.length)) (N.take p ++ x :: N.drop p) := by
  have hl : (N.take p ++ x :: N.drop p).length = N.length + 1 := by
    rw [List.length_append, List.length_cons, List.length_take, List.length_drop]; omega
  refine ⟨by rw [hl]; rfl, fun n hn => ?_⟩
  rw [hl] at hn
  rw [insG hp, r56_5, r56_6]
  by_cases h1 : n < p
  · rw [if_pos h1]
    have h8 := (hN.2.1 _ (nGet_mem (show n < N.length by omega))).2
    obtain ⟨m1, m2⟩ := hM.2 n (by omega)
    refine ⟨(if_neg (by omega)).trans ((if_neg (by omega)).trans m1), fun i hi => ?_⟩
    exact (if_neg (by omega)).trans ((if_neg (by omega)).trans (m2 i hi))
  · rw [if_neg h1]
    by_cases h2 : n = p
    · rw [if_pos h2, h2]
      refine ⟨if_pos rfl, fun i hi => (if_pos (by omega)).trans ?_⟩
      rw [Nat.add_sub_cancel_left]
    · rw [if_neg h2]
      have h8 := (hN.2.1 _ (nGet_mem (show n - 1 < N.length by omega))).2
      obtain ⟨m1, m2⟩ := hM.2 (n - 1) (by omega)
      refine ⟨(if_neg h2).trans ((if_pos (by omega)).trans m1), fun i hi => ?_⟩
      refine (if_neg (by omega)).trans ((if_pos (by omega)).trans ?_)
      rw [show 8 * n + i - 8 = 8 * (n - 1) + i by omega]
      exact m2 i hi
section MIns
variable {w : jx_W} {q : Nat} {c : Nat → Int32} {r : Nat → Nat → Int32} {K : jx_Q} {N : aNL}
theorem f_ins_row {x : List Nat} {p : Nat} {L T : Nat → Int32} (hc : c 4 = nI N.length) (h8 : x.length ≤ 8) (hp : p ≤ 48) (hR : RW r x) (hK : K (mw w q (upd c 4 (nI (N.length + 1))) (r56 r L (inT T x p x.length))) none) : ∀ (m i : Nat), i + m = x.length → zwp n_M_inserts 9 [(0, .ref q), (1, .int (nI x.length)), (2, .int (nI p)), (3, .int (nI i))] [] 0 0 (mw w q c (r56 r L (inT T x p i))) K := by
  intro m
  induction m with
  | zero =>
    intro i hi
    obtain rfl : i = x.length := by omega
    refine b_M_inserts_9 ⟨fun _ => b_M_inserts_10 ?_, fun z => absurd (Int32.le_refl _) z⟩
    simp only [and_assoc, exists_and_left, exists_eq_left, exists_eq_left', Option.some.injEq, Value.int.injEq, Value.ref.injEq, Value.long.injEq, true_and, and_true, exists_eq, exists_true_left, mw_ob, mw_ia0, mw_ia2, mw_ia5, mw_ia6, mw_ia7, mw_ia8, mw_ia9, mw_ia10, mw_ia11, mw_ia15, mw_ia16, mF_0, mF_1, mF_2, mF_3, mF_4, mF_5, mF_6, mF_7, mF_8, mF_9, mF_10, mF_11, mF_12, mF_13, mF_14, mF_15, mF_16, mF_len, mF_s1, mF_s3, mF_s4, mF_s12, mF_s13, mF_s14, mw_uob, mw_u0, mw_u2, mw_u5, mw_u6, mw_u7, mw_u8, mw_u9, mw_u10, mw_u11, mw_u15, mw_u16, Nat.reduceLT, rup_s, rup_rup]
    rw [hc, nI_1]
    exact hK
  | succ m ih =>
    intro i hi
    refine b_M_inserts_9 ⟨fun z => absurd ((nI_leI (by omega) (by omega)).mp z) (by omega), fun _ => ?_⟩
    simp only [and_assoc, exists_and_left, exists_eq_left, exists_eq_left', Option.some.injEq, Value.int.injEq, Value.ref.injEq, Value.long.injEq, true_and, and_true, exists_eq, exists_true_left, mw_ob, mw_ia0, mw_ia2, mw_ia5, mw_ia6, mw_ia7, mw_ia8, mw_ia9, mw_ia10, mw_ia11, mw_ia15, mw_ia16, mF_0, mF_1, mF_2, mF_3, mF_4, mF_5, mF_6, mF_7, mF_8, mF_9, mF_10, mF_11, mF_12, mF_13, mF_14, mF_15, mF_16, mF_len, mF_s1, mF_s3, mF_s4, mF_s12, mF_s13, mF_s14, mw_uob, mw_u0, mw_u2, mw_u5, mw_u6, mw_u7, mw_u8, mw_u9, mw_u10, mw_u11, mw_u15, mw_u16, Nat.reduceLT, rup_s, rup_rup, r56_5, r56_6, r56_11, r56_u5, r56_u6]
    rw [lit_8, pk_mul, nI_add, nI_clamp (by omega), nI_clamp (by omega), hR i (by omega), inT_step, nI_1]
    exact ⟨vp_in_nI (by omega) (by decide), vp_in_nI (by omega) (by decide), ih (i + 1) (by omega)⟩
theorem f_ins_in {x1 x2 : Int32} {n m : Nat} {L T : Nat → Int32} (hm : m + 1 ≤ n) (hn : n ≤ 48) (hK : zwp n_M_inserts 7 [(0, .ref q), (1, .int x1), (2, .int x2), (3, .int (nI (m + 1)))] [] 0 0 (mw w q c (r56 r L (shT T (m + 1) n 8))) K) : ∀ (k i : Nat), i + k = 8 → zwp n_M_inserts 6 [(0, .ref q), (1, .int x1), (2, .int x2), (3, .int (nI (m + 1))), (4, .int (nI i))] [] 0 0 (mw w q c (r56 r L (shT T (m + 1) n i))) K := by
  intro k
  induction k with
  | zero =>
    intro i hi
    obtain rfl : i = 8 := by omega
    exact b_M_inserts_6 ⟨fun _ => hK, fun z => absurd (by decide) z⟩
  | succ k ih =>
    intro i hi
    refine b_M_inserts_6 ⟨fun z => absurd ((nI_leI (a := 8) (by decide) (by omega)).mp z) (by omega), fun _ => ?_⟩
    simp only [and_assoc, exists_and_left, exists_eq_left, exists_eq_left', Option.some.injEq, Value.int.injEq, Value.ref.injEq, Value.long.injEq, true_and, and_true, exists_eq, exists_true_left, mw_ob, mw_ia0, mw_ia2, mw_ia5, mw_ia6, mw_ia7, mw_ia8, mw_ia9, mw_ia10, mw_ia11, mw_ia15, mw_ia16, mF_0, mF_1, mF_2, mF_3, mF_4, mF_5, mF_6, mF_7, mF_8, mF_9, mF_10, mF_11, mF_12, mF_13, mF_14, mF_15, mF_16, mF_len, mF_s1, mF_s3, mF_s4, mF_s12, mF_s13, mF_s14, mw_uob, mw_u0, mw_u2, mw_u5, mw_u6, mw_u7, mw_u8, mw_u9, mw_u10, mw_u11, mw_u15, mw_u16, Nat.reduceLT, rup_s, rup_rup, r56_5, r56_6, r56_11, r56_u5, r56_u6]
    rw [nI_pred, lit_8, pk_mul, pk_mul, nI_add, nI_add, nI_clamp (by omega), nI_clamp (by omega), shT_step (by omega), nI_1]
    exact ⟨vp_in_nI (by omega) (by decide), vp_in_nI (by omega) (by decide), ih (i + 1) (by omega)⟩
theorem f_ins_shift {x1 : Int32} {n p : Nat} {L T : Nat → Int32} (hn : n ≤ 48) (hK : zwp n_M_inserts 8 [(0, .ref q), (1, .int x1), (2, .int (nI p))] [] 0 0 (mw w q c (r56 r (shL L p n) (shT T p n 0))) K) : ∀ (k m : Nat), m = p + k → m ≤ n → zwp n_M_inserts 5 [(0, .ref q), (1, .int x1), (2, .int (nI p)), (3, .int (nI m))] [] 0 0 (mw w q c (r56 r (shL L m n) (shT T m n 0))) K := by
  intro k
  induction k with
  | zero =>
    intro m hm hmn
    obtain rfl : m = p := by omega
    exact b_M_inserts_5 ⟨fun _ => hK, fun z => absurd (Int32.le_refl _) z⟩
  | succ k ih =>
    intro m hm hmn
    obtain ⟨m, rfl⟩ : ∃ m', m = m' + 1 := ⟨p + k, by omega⟩
    refine b_M_inserts_5 ⟨fun z => absurd ((nI_leI (by omega) (by omega)).mp z) (by omega), fun _ => ?_⟩
    simp only [and_assoc, exists_and_left, exists_eq_left, exists_eq_left', Option.some.injEq, Value.int.injEq, Value.ref.injEq, Value.long.injEq, true_and, and_true, exists_eq, exists_true_left, mw_ob, mw_ia0, mw_ia2, mw_ia5, mw_ia6, mw_ia7, mw_ia8, mw_ia9, mw_ia10, mw_ia11, mw_ia15, mw_ia16, mF_0, mF_1, mF_2, mF_3, mF_4, mF_5, mF_6, mF_7, mF_8, mF_9, mF_10, mF_11, mF_12, mF_13, mF_14, mF_15, mF_16, mF_len, mF_s1, mF_s3, mF_s4, mF_s12, mF_s13, mF_s14, mw_uob, mw_u0, mw_u2, mw_u5, mw_u6, mw_u7, mw_u8, mw_u9, mw_u10, mw_u11, mw_u15, mw_u16, Nat.reduceLT, rup_s, rup_rup, r56_5, r56_6, r56_11, r56_u5, r56_u6]
    rw [nI_pred, nI_clamp (by omega), nI_clamp (by omega), shL_step hmn]
    refine ⟨vp_in_nI (by omega) (by decide), vp_in_nI (by omega) (by decide), f_ins_in hmn hn (b_M_inserts_7 ?_) 8 0 rfl⟩
    rw [shT_row hmn, show nI (m + 1) + -1 = nI m from pk_m1 m]
    exact ih m (by omega) (by omega)
theorem f_inserts {x : List Nat} {u : Int32} (hN : nlOk N) (h48 : N.length ≤ 48) (hM : MNd c r N) (hx : lOk x) (h8 : x.length ≤ 8) (hR : RW r x) (hu : u = nI x.length) (hK : ∀ c' r', MNd c' r' (insN x N) → (∀ j, j ≠ 5 → j ≠ 6 → r' j = r j) → (∀ j, j ≠ 4 → c' j = c j) → K (mw w q c' r') none) : zcall n_M_inserts [.ref q, .int u] (mw w q c r) K := by
  subst hu
  have hc := hM.1
  have fin : zwp n_M_inserts 3 [(0, .ref q), (1, .int (nI x.length)), (2, .int (nI (posL x N)))] [] 0 0 (mw w q c r) K := by
    have hp := posL_le (x := x) (N := N)
    have b4 : ¬ (posL x N < N.length ∧ nGet N (posL x N) = x) → zwp n_M_inserts 4 [(0, .ref q), (1, .int (nI x.length)), (2, .int (nI (posL x N)))] [] 0 0 (mw w q c r) K := fun hne => by
      refine b_M_inserts_4 ?_
      simp only [and_assoc, exists_and_left, exists_eq_left, exists_eq_left', Option.some.injEq, Value.int.injEq, Value.ref.injEq, Value.long.injEq, true_and, and_true, exists_eq, exists_true_left, mw_ob, mw_ia0, mw_ia2, mw_ia5, mw_ia6, mw_ia7, mw_ia8, mw_ia9, mw_ia10, mw_ia11, mw_ia15, mw_ia16, mF_0, mF_1, mF_2, mF_3, mF_4, mF_5, mF_6, mF_7, mF_8, mF_9, mF_10, mF_11, mF_12, mF_13, mF_14, mF_15, mF_16, mF_len, mF_s1, mF_s3, mF_s4, mF_s12, mF_s13, mF_s14, mw_uob, mw_u0, mw_u2, mw_u5, mw_u6, mw_u7, mw_u8, mw_u9, mw_u10, mw_u11, mw_u15, mw_u16, Nat.reduceLT, rup_s, rup_rup]
      rw [hc]
      have hk : K (mw w q (upd c 4 (nI (N.length + 1))) (r56 r (upd (shL (r 5) (posL x N) N.length) (posL x N) (nI x.length)) (inT (shT (r 6) (posL x N) N.length 0) x (posL x N) x.length))) none := by
        refine hK _ _ ?_ (fun j h1 h2 => (if_neg h1).trans (if_neg h2)) (fun j h => if_neg h)
        rw [insN, if_neg hne]
        exact MNd_ins hN hM h8 hp
      have h5 := f_ins_shift (w := w) (q := q) (c := c) (r := r) (K := K) (x1 := nI x.length) (n := N.length) (p := posL x N) (L := r 5) (T := r 6) h48 (b_M_inserts_8 (by
        simp only [and_assoc, exists_and_left, exists_eq_left, exists_eq_left', Option.some.injEq, Value.int.injEq, Value.ref.injEq, Value.long.injEq, true_and, and_true, exists_eq, exists_true_left, mw_ob, mw_ia0, mw_ia2, mw_ia5, mw_ia6, mw_ia7, mw_ia8, mw_ia9, mw_ia10, mw_ia11, mw_ia15, mw_ia16, mF_0, mF_1, mF_2, mF_3, mF_4, mF_5, mF_6, mF_7, mF_8, mF_9, mF_10, mF_11, mF_12, mF_13, mF_14, mF_15, mF_16, mF_len, mF_s1, mF_s3, mF_s4, mF_s12, mF_s13, mF_s14, mw_uob, mw_u0, mw_u2, mw_u5, mw_u6, mw_u7, mw_u8, mw_u9, mw_u10, mw_u11, mw_u15, mw_u16, Nat.reduceLT, rup_s, rup_rup, r56_5, r56_6, r56_11, r56_u5, r56_u6]
        rw [nI_clamp (by omega)]
        have h9 := f_ins_row (w := w) (q := q) (c := c) (r := r) (K := K) (x := x) (p := posL x N) (L := upd (shL (r 5) (posL x N) N.length) (posL x N) (nI x.length)) (T := shT (r 6) (posL x N) N.length 0) hc h8 (by omega) hR hk x.length 0 (Nat.zero_add _)
        rw [inT_0] at h9
        exact ⟨vp_in_nI (by omega) (by decide), h9⟩)) (N.length - posL x N) N.length (by omega) (Nat.le_refl _)
      have e1 : shL (r 5) N.length N.length = r 5 := by
        funext i
        exact if_neg (by omega)
      have e2 : shT (r 6) N.length N.length 0 = r 6 := by
        funext i
        exact if_neg (by omega)
      rw [e1, e2, r56_id] at h5
      exact h5
    refine b_M_inserts_3 ?_
    simp only [and_assoc, exists_and_left, exists_eq_left, exists_eq_left', Option.some.injEq, Value.int.injEq, Value.ref.injEq, Value.long.injEq, true_and, and_true, exists_eq, exists_true_left, mw_ob, mw_ia0, mw_ia2, mw_ia5, mw_ia6, mw_ia7, mw_ia8, mw_ia9, mw_ia10, mw_ia11, mw_ia15, mw_ia16, mF_0, mF_1, mF_2, mF_3, mF_4, mF_5, mF_6, mF_7, mF_8, mF_9, mF_10, mF_11, mF_12, mF_13, mF_14, mF_15, mF_16, mF_len, mF_s1, mF_s3, mF_s4, mF_s12, mF_s13, mF_s14, mw_uob, mw_u0, mw_u2, mw_u5, mw_u6, mw_u7, mw_u8, mw_u9, mw_u10, mw_u11, mw_u15, mw_u16, Nat.reduceLT, rup_s, rup_rup]
    rw [hc, nI_clamp (by omega)]
    refine ⟨fun z => b4 (fun y => absurd ((nI_leI (by omega) (by omega)).mp z) (by omega)), fun z => ?_⟩
    have hlt : posL x N < N.length := Nat.lt_of_not_le (fun y => z ((nI_leI (by omega) (by omega)).mpr y))
    rw [(hM.2 _ hlt).1]
    have l8 := (hN.2.1 _ (nGet_mem hlt)).2
    refine ⟨vp_in_nI (by omega) (by decide), fun y => b4 (fun t => y (by rw [t.2])), fun y => ?_⟩
    have hl : (nGet N (posL x N)).length = x.length := (nI_eq (by omega) (by omega)).mp y
    refine f_order hN (by omega) hM hlt hx hR h8 hl rfl rfl (fun d d1 d2 => ?_)
    simp only [and_assoc, exists_and_left, exists_eq_left, exists_eq_left', Option.some.injEq, Value.int.injEq, Value.ref.injEq, Value.long.injEq, true_and, and_true, exists_eq, exists_true_left, mw_ob, mw_ia0, mw_ia2, mw_ia5, mw_ia6, mw_ia7, mw_ia8, mw_ia9, mw_ia10, mw_ia11, mw_ia15, mw_ia16, mF_0, mF_1, mF_2, mF_3, mF_4, mF_5, mF_6, mF_7, mF_8, mF_9, mF_10, mF_11, mF_12, mF_13, mF_14, mF_15, mF_16, mF_len, mF_s1, mF_s3, mF_s4, mF_s12, mF_s13, mF_s14, mw_uob, mw_u0, mw_u2, mw_u5, mw_u6, mw_u7, mw_u8, mw_u9, mw_u10, mw_u11, mw_u15, mw_u16, Nat.reduceLT, rup_s, rup_rup]
    refine ⟨fun t => b4 (fun s => t (d2.mpr s.2)), fun t => hK c r ?_ (fun _ _ _ => rfl) (fun _ _ => rfl)⟩
    rw [insN, if_pos ⟨hlt, d2.mp t⟩]
    exact hM
  have loop : ∀ (m i : Nat), i + m = N.length → (∀ j, j < i → enc (nGet N j) < enc x) → zwp n_M_inserts 1 [(0, .ref q), (1, .int (nI x.length)), (2, .int (nI i))] [] 0 0 (mw w q c r) K := by
    intro m
    induction m with
    | zero =>
      intro i hi hj
      refine b_M_inserts_1 ?_
      simp only [and_assoc, exists_and_left, exists_eq_left, exists_eq_left', Option.some.injEq, Value.int.injEq, Value.ref.injEq, Value.long.injEq, true_and, and_true, exists_eq, exists_true_left, mw_ob, mw_ia0, mw_ia2, mw_ia5, mw_ia6, mw_ia7, mw_ia8, mw_ia9, mw_ia10, mw_ia11, mw_ia15, mw_ia16, mF_0, mF_1, mF_2, mF_3, mF_4, mF_5, mF_6, mF_7, mF_8, mF_9, mF_10, mF_11, mF_12, mF_13, mF_14, mF_15, mF_16, mF_len, mF_s1, mF_s3, mF_s4, mF_s12, mF_s13, mF_s14, mw_uob, mw_u0, mw_u2, mw_u5, mw_u6, mw_u7, mw_u8, mw_u9, mw_u10, mw_u11, mw_u15, mw_u16, Nat.reduceLT, rup_s, rup_rup]
      rw [hc]
      refine ⟨fun _ => ?_, fun z => absurd ((nI_leI (by omega) (by omega)).mpr (by omega)) z⟩
      rw [posL_eq (i := i) (by omega) hj (fun y => absurd y (by omega))] at fin
      exact fin
    | succ m ih =>
      intro i hi hj
      have hlt : i < N.length := by omega
      have l8 := (hN.2.1 _ (nGet_mem hlt))
      have hno : ¬ enc (nGet N i) < enc x → zwp n_M_inserts 3 [(0, .ref q), (1, .int (nI x.length)), (2, .int (nI i))] [] 0 0 (mw w q c r) K := fun h => by
        rw [posL_eq (i := i) (by omega) hj (fun _ => h)] at fin
        exact fin
      have hyes : enc (nGet N i) < enc x → zwp n_M_inserts 2 [(0, .ref q), (1, .int (nI x.length)), (2, .int (nI i))] [] 0 0 (mw w q c r) K := fun h => by
        refine b_M_inserts_2 ?_
        rw [nI_1]
        refine ih (i + 1) (by omega) (fun j hj' => ?_)
        by_cases e : j = i
        · rw [e]; exact h
        · exact hj j (by omega)
      refine b_M_inserts_1 ?_
      simp only [and_assoc, exists_and_left, exists_eq_left, exists_eq_left', Option.some.injEq, Value.int.injEq, Value.ref.injEq, Value.long.injEq, true_and, and_true, exists_eq, exists_true_left, mw_ob, mw_ia0, mw_ia2, mw_ia5, mw_ia6, mw_ia7, mw_ia8, mw_ia9, mw_ia10, mw_ia11, mw_ia15, mw_ia16, mF_0, mF_1, mF_2, mF_3, mF_4, mF_5, mF_6, mF_7, mF_8, mF_9, mF_10, mF_11, mF_12, mF_13, mF_14, mF_15, mF_16, mF_len, mF_s1, mF_s3, mF_s4, mF_s12, mF_s13, mF_s14, mw_uob, mw_u0, mw_u2, mw_u5, mw_u6, mw_u7, mw_u8, mw_u9, mw_u10, mw_u11, mw_u15, mw_u16, Nat.reduceLT, rup_s, rup_rup]
      rw [hc, nI_clamp (by omega), (hM.2 i hlt).1]
      refine ⟨fun z => absurd ((nI_leI (by omega) (by omega)).mp z) (by omega), fun _ => ⟨vp_in_nI (by omega) (by decide), fun z => hyes (enc_len l8.1 ((nI_ltI (by omega) (by omega)).mp z)), fun z => ⟨vp_in_nI (by omega) (by decide), fun y => hno ?_, fun y => ?_⟩⟩⟩
      · have z : ¬ (nGet N i).length < x.length := fun t => z ((nI_ltI (by omega) (by omega)).mpr t)
        have y : ¬ (nGet N i).length = x.length := fun t => y (by rw [t])
        have := enc_len (l := x) (m := nGet N i) hx (by omega)
        omega
      · have hl : (nGet N i).length = x.length := (nI_eq (by omega) (by omega)).mp y
        refine f_order hN (by omega) hM hlt hx hR h8 hl rfl rfl (fun d d1 d2 => ?_)
        simp only [and_assoc, exists_and_left, exists_eq_left, exists_eq_left', Option.some.injEq, Value.int.injEq, Value.ref.injEq, Value.long.injEq, true_and, and_true, exists_eq, exists_true_left, mw_ob, mw_ia0, mw_ia2, mw_ia5, mw_ia6, mw_ia7, mw_ia8, mw_ia9, mw_ia10, mw_ia11, mw_ia15, mw_ia16, mF_0, mF_1, mF_2, mF_3, mF_4, mF_5, mF_6, mF_7, mF_8, mF_9, mF_10, mF_11, mF_12, mF_13, mF_14, mF_15, mF_16, mF_len, mF_s1, mF_s3, mF_s4, mF_s12, mF_s13, mF_s14, mw_uob, mw_u0, mw_u2, mw_u5, mw_u6, mw_u7, mw_u8, mw_u9, mw_u10, mw_u11, mw_u15, mw_u16, Nat.reduceLT, rup_s, rup_rup]
        refine ⟨fun t => hno (fun s => ?_), fun t => hyes (d1.mp (Int32.not_le.mp t))⟩
        exact absurd (d1.mpr s) (Int32.not_lt.mpr t)
  exact e_M_inserts (b_M_inserts_0 (loop N.length 0 (Nat.zero_add _) (fun j hj => absurd hj (Nat.not_lt_zero _))))
end MIns
