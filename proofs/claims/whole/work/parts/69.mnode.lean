/-! THE MODEL: order(..), nodeOf(..), longest(..), takes(..), endsWith(..) -/
def MNd (c : Nat → Int32) (r : Nat → Nat → Int32) (N : aNL) : Prop := c 4 = nI N.length ∧ ∀ n, n < N.length → r 5 n = nI (nGet N n).length ∧ ∀ i, i < (nGet N n).length → r 6 (8 * n + i) = nI ((nGet N n).getD i 0)
def RW (r : Nat → Nat → Int32) (x : List Nat) : Prop := ∀ i, i < x.length → r 11 i = nI (x.getD i 0)
theorem sub_sg : ∀ x, x < 26 → ∀ y, y < 26 → ((nI x - nI y < 0) ↔ x < y) ∧ ((nI x - nI y = 0) ↔ x = y) := by decide +kernel
theorem sfx_len {x : List Nat} {n : Nat} (h : n ≤ x.length) : (sfx x n).length = n := by
  unfold sfx
  rw [List.length_drop]; omega
theorem sfx_getD {x : List Nat} {n i : Nat} (h : n ≤ x.length) : (sfx x n).getD i 0 = x.getD (x.length - n + i) 0 := by
  unfold sfx
  rw [List.getD_eq_getElem?_getD, List.getElem?_drop, List.getD_eq_getElem?_getD]
section MNode
variable {w : jx_W} {q : Nat} {c : Nat → Int32} {r : Nat → Nat → Int32} {K : jx_Q} {N : aNL}
theorem f_order_loop {n : Nat} {x : List Nat} (hN : nlOk N) (h49 : N.length ≤ 49) (hM : MNd c r N) (hn : n < N.length) (hx : lOk x) (hR : RW r x) (h8 : x.length ≤ 8) (hl : (nGet N n).length = x.length) (hK : ∀ d : Int32, (d < 0 ↔ enc (nGet N n) < enc x) → (d = 0 ↔ nGet N n = x) → K (mw w q c r) (some (.int d))) : ∀ (m i : Nat), i + m = x.length → (∀ j, j < i → (nGet N n).getD j 0 = x.getD j 0) → zwp n_M_order 1 [(0, .ref q), (1, .int (nI n)), (2, .int (nI x.length)), (3, .int (nI i))] [] 0 0 (mw w q c r) K := by
  intro m
  induction m with
  | zero =>
    intro i hi hj
    obtain rfl : i = x.length := by omega
    have e : nGet N n = x := getD_ext hl (fun j hj' => hj j (by omega))
    refine b_M_order_1 ⟨fun _ => b_M_order_3 (hK 0 ?_ ?_), fun z => absurd (Int32.le_refl _) z⟩
    · rw [e]; exact ⟨fun z => absurd z (by decide), fun z => absurd z (Nat.lt_irrefl _)⟩
    · exact ⟨fun _ => e, fun _ => rfl⟩
  | succ m ih =>
    intro i hi hj
    have hm := (hM.2 n hn).2 i (by omega)
    refine b_M_order_1 ⟨fun z => absurd ((nI_leI (by omega) (by omega)).mp z) (by omega), fun _ => ?_⟩
    simp only [and_assoc, exists_and_left, exists_eq_left, exists_eq_left', Option.some.injEq, Value.int.injEq, Value.ref.injEq, Value.long.injEq, true_and, and_true, exists_eq, exists_true_left, mw_ob, mw_ia0, mw_ia2, mw_ia5, mw_ia6, mw_ia7, mw_ia8, mw_ia9, mw_ia10, mw_ia11, mw_ia15, mw_ia16, mF_0, mF_1, mF_2, mF_3, mF_4, mF_5, mF_6, mF_7, mF_8, mF_9, mF_10, mF_11, mF_12, mF_13, mF_14, mF_15, mF_16, mF_len, mF_s1, mF_s3, mF_s4, mF_s12, mF_s13, mF_s14, mw_uob, mw_u0, mw_u2, mw_u5, mw_u6, mw_u7, mw_u8, mw_u9, mw_u10, mw_u11, mw_u15, mw_u16, Nat.reduceLT, rup_s, rup_rup]
    rw [lit_8, pk_mul, nI_add, nI_clamp (by omega), nI_clamp (by omega), hm, hR i (by omega)]
    obtain ⟨s1, s2⟩ := sub_sg _ (lOk_getD (hN.2.1 _ (nGet_mem hn)).1 i) _ (lOk_getD hx i)
    refine ⟨vp_in_nI (by omega) (by decide), vp_in_nI (by omega) (by decide), fun z => b_M_order_2 ?_, fun z => hK _ ?_ ?_⟩
    · rw [nI_1]
      refine ih (i + 1) (by omega) (fun j hj' => ?_)
      by_cases e : j = i
      · rw [e]; exact s2.mp z
      · exact hj j (by omega)
    · rw [s1]
      constructor
      · exact enc_diff (hN.2.1 _ (nGet_mem hn)).1 hl (by omega) hj
      · intro h
        rcases Nat.lt_trichotomy ((nGet N n).getD i 0) (x.getD i 0) with t | t | t
        · exact t
        · exact absurd (s2.mpr t) z
        · have := enc_diff hx hl.symm (by omega) (fun j hj' => (hj j hj').symm) t
          omega
    · exact ⟨fun y => absurd y z, fun y => absurd (s2.mpr (by rw [y])) z⟩
theorem f_order {n : Nat} {x : List Nat} {y z : Int32} (hN : nlOk N) (h49 : N.length ≤ 49) (hM : MNd c r N) (hn : n < N.length) (hx : lOk x) (hR : RW r x) (h8 : x.length ≤ 8) (hl : (nGet N n).length = x.length) (hy : y = nI n) (hz : z = nI x.length) (hK : ∀ d : Int32, (d < 0 ↔ enc (nGet N n) < enc x) → (d = 0 ↔ nGet N n = x) → K (mw w q c r) (some (.int d))) : zcall n_M_order [.ref q, .int y, .int z] (mw w q c r) K := by
  subst hy hz
  exact e_M_order (b_M_order_0 (f_order_loop hN h49 hM hn hx hR h8 hl hK x.length 0 (Nat.zero_add _) (fun j hj => absurd hj (Nat.not_lt_zero _))))
theorem f_nodeOf_in {n fr : Nat} {y : List Nat} (h49 : N.length ≤ 49) (hM : MNd c r N) (hn : n < N.length) (h8 : y.length ≤ 8) (hfr : fr + y.length ≤ 9) (hR : ∀ i, i < y.length → r 11 (fr + i) = nI (y.getD i 0)) (hyo : lOk y) (hno : lOk (nGet N n)) (hl : (nGet N n).length = y.length) (h1 : nGet N n = y → K (mw w q c r) (some (.int (nI n)))) (h0 : nGet N n ≠ y → zwp n_M_nodeOf 8 [(0, .ref q), (1, .int (nI fr)), (2, .int (nI y.length)), (3, .int (nI n))] [] 0 0 (mw w q c r) K) : ∀ (m i : Nat), i + m = y.length → (∀ j, j < i → (nGet N n).getD j 0 = y.getD j 0) → zwp n_M_nodeOf 4 [(0, .ref q), (1, .int (nI fr)), (2, .int (nI y.length)), (3, .int (nI n)), (4, .int 1), (5, .int (nI i))] [] 0 0 (mw w q c r) K := by
  intro m
  induction m with
  | zero =>
    intro i hi hj
    obtain rfl : i = y.length := by omega
    have e : nGet N n = y := getD_ext hl (fun j hj' => hj j (by omega))
    exact b_M_nodeOf_4 ⟨fun _ => b_M_nodeOf_7 ⟨fun z => absurd z (by decide), fun _ => h1 e⟩, fun z => absurd (Int32.le_refl _) z⟩
  | succ m ih =>
    intro i hi hj
    have hm := (hM.2 n hn).2 i (by omega)
    refine b_M_nodeOf_4 ⟨fun z => absurd ((nI_leI (by omega) (by omega)).mp z) (by omega), fun _ => ⟨fun z => absurd z (by decide), fun _ => ?_⟩⟩
    simp only [and_assoc, exists_and_left, exists_eq_left, exists_eq_left', Option.some.injEq, Value.int.injEq, Value.ref.injEq, Value.long.injEq, true_and, and_true, exists_eq, exists_true_left, mw_ob, mw_ia0, mw_ia2, mw_ia5, mw_ia6, mw_ia7, mw_ia8, mw_ia9, mw_ia10, mw_ia11, mw_ia15, mw_ia16, mF_0, mF_1, mF_2, mF_3, mF_4, mF_5, mF_6, mF_7, mF_8, mF_9, mF_10, mF_11, mF_12, mF_13, mF_14, mF_15, mF_16, mF_len, mF_s1, mF_s3, mF_s4, mF_s12, mF_s13, mF_s14, mw_uob, mw_u0, mw_u2, mw_u5, mw_u6, mw_u7, mw_u8, mw_u9, mw_u10, mw_u11, mw_u15, mw_u16, Nat.reduceLT, rup_s, rup_rup]
    rw [lit_8, pk_mul, nI_add, nI_add, nI_clamp (by omega), nI_clamp (by omega), hm, hR i (by omega)]
    have a1 := lOk_getD hno i
    have a2 := lOk_getD hyo i
    refine ⟨vp_in_nI (by omega) (by decide), vp_in_nI (by omega) (by decide), fun z => ?_, fun z => b_M_nodeOf_6 ?_⟩
    · have hne : nGet N n ≠ y := fun e => z (by rw [e])
      have h7 : zwp n_M_nodeOf 7 [(0, .ref q), (1, .int (nI fr)), (2, .int (nI y.length)), (3, .int (nI n)), (4, .int 0)] [] 0 0 (mw w q c r) K := b_M_nodeOf_7 ⟨fun _ => h0 hne, fun z => absurd rfl z⟩
      exact b_M_nodeOf_5 (b_M_nodeOf_6 (b_M_nodeOf_4 ⟨fun _ => h7, fun _ => ⟨fun _ => h7, fun z => absurd rfl z⟩⟩))
    · rw [nI_1]
      refine ih (i + 1) (by omega) (fun j hj' => ?_)
      by_cases e : j = i
      · rw [e]; exact (nI_eq (by omega) (by omega)).mp z
      · exact hj j (by omega)
theorem f_nodeOf {fr : Nat} {y : List Nat} {u v : Int32} (hN : nlOk N) (h49 : N.length ≤ 49) (hM : MNd c r N) (h8 : y.length ≤ 8) (hfr : fr + y.length ≤ 9) (hR : ∀ i, i < y.length → r 11 (fr + i) = nI (y.getD i 0)) (hyo : lOk y) (hu : u = nI fr) (hv : v = nI y.length) (hK : K (mw w q c r) (some (.int (oM (nodeIx N y))))) : zcall n_M_nodeOf [.ref q, .int u, .int v] (mw w q c r) K := by
  subst hu hv
  have loop : ∀ (m n : Nat), n + m = N.length → K (mw w q c r) (some (.int (oM (nIx N y m n)))) → zwp n_M_nodeOf 1 [(0, .ref q), (1, .int (nI fr)), (2, .int (nI y.length)), (3, .int (nI n))] [] 0 0 (mw w q c r) K := by
    intro m
    induction m with
    | zero =>
      intro n hn hk
      refine b_M_nodeOf_1 ?_
      simp only [and_assoc, exists_and_left, exists_eq_left, exists_eq_left', Option.some.injEq, Value.int.injEq, Value.ref.injEq, Value.long.injEq, true_and, and_true, exists_eq, exists_true_left, mw_ob, mw_ia0, mw_ia2, mw_ia5, mw_ia6, mw_ia7, mw_ia8, mw_ia9, mw_ia10, mw_ia11, mw_ia15, mw_ia16, mF_0, mF_1, mF_2, mF_3, mF_4, mF_5, mF_6, mF_7, mF_8, mF_9, mF_10, mF_11, mF_12, mF_13, mF_14, mF_15, mF_16, mF_len, mF_s1, mF_s3, mF_s4, mF_s12, mF_s13, mF_s14, mw_uob, mw_u0, mw_u2, mw_u5, mw_u6, mw_u7, mw_u8, mw_u9, mw_u10, mw_u11, mw_u15, mw_u16, Nat.reduceLT, rup_s, rup_rup]
      rw [hM.1]
      exact ⟨fun _ => b_M_nodeOf_9 hk, fun z => absurd ((nI_leI (by omega) (by omega)).mpr (by omega)) z⟩
    | succ m ih =>
      intro n hn hk
      have hno := hN.2.1 _ (nGet_mem (show n < N.length by omega))
      refine b_M_nodeOf_1 ?_
      simp only [and_assoc, exists_and_left, exists_eq_left, exists_eq_left', Option.some.injEq, Value.int.injEq, Value.ref.injEq, Value.long.injEq, true_and, and_true, exists_eq, exists_true_left, mw_ob, mw_ia0, mw_ia2, mw_ia5, mw_ia6, mw_ia7, mw_ia8, mw_ia9, mw_ia10, mw_ia11, mw_ia15, mw_ia16, mF_0, mF_1, mF_2, mF_3, mF_4, mF_5, mF_6, mF_7, mF_8, mF_9, mF_10, mF_11, mF_12, mF_13, mF_14, mF_15, mF_16, mF_len, mF_s1, mF_s3, mF_s4, mF_s12, mF_s13, mF_s14, mw_uob, mw_u0, mw_u2, mw_u5, mw_u6, mw_u7, mw_u8, mw_u9, mw_u10, mw_u11, mw_u15, mw_u16, Nat.reduceLT, rup_s, rup_rup]
      rw [hM.1, nI_clamp (by omega), (hM.2 n (by omega)).1]
      have h8' : nGet N n ≠ y → zwp n_M_nodeOf 8 [(0, .ref q), (1, .int (nI fr)), (2, .int (nI y.length)), (3, .int (nI n))] [] 0 0 (mw w q c r) K := fun hne => by
        refine b_M_nodeOf_8 ?_
        rw [nI_1]
        refine ih (n + 1) (by omega) ?_
        have e : nIx N y (m + 1) n = nIx N y m (n + 1) := if_neg hne
        rw [← e]; exact hk
      refine ⟨fun z => absurd ((nI_leI (by omega) (by omega)).mp z) (by omega), fun _ => ⟨vp_in_nI (by omega) (by decide), fun z => ?_, fun z => ?_⟩⟩
      · have hne : nGet N n ≠ y := fun e => z (by rw [e])
        have h7 : zwp n_M_nodeOf 7 [(0, .ref q), (1, .int (nI fr)), (2, .int (nI y.length)), (3, .int (nI n)), (4, .int 0)] [] 0 0 (mw w q c r) K := b_M_nodeOf_7 ⟨fun _ => h8' hne, fun z => absurd rfl z⟩
        exact b_M_nodeOf_2 (b_M_nodeOf_3 (b_M_nodeOf_4 ⟨fun _ => h7, fun _ => ⟨fun _ => h7, fun z => absurd rfl z⟩⟩))
      · have hl : (nGet N n).length = y.length := (nI_eq (by omega) (by omega)).mp z
        refine b_M_nodeOf_3 (f_nodeOf_in h49 hM (by omega) h8 hfr hR hyo hno.1 hl (fun e => ?_) h8' y.length 0 (Nat.zero_add _) (fun j hj => absurd hj (Nat.not_lt_zero _)))
        have e2 : nIx N y (m + 1) n = some n := if_pos e
        rw [e2] at hk
        exact hk
  exact e_M_nodeOf (b_M_nodeOf_0 (loop N.length 0 (Nat.zero_add _) hK))
theorem f_longest {mo : Nat} {x : List Nat} {u v : Int32} (hN : nlOk N) (h49 : N.length ≤ 49) (hM : MNd c r N) (h9 : x.length ≤ 9) (hmo : mo ≤ 8) (hR : RW r x) (hxo : lOk x) (hu : u = nI x.length) (hv : v = nI mo) (hK : K (mw w q c r) (some (.int (nI (lgst N x (min mo x.length)))))) : zcall n_M_longest [.ref q, .int u, .int v] (mw w q c r) K := by
  subst hu hv
  have loop : ∀ (k : Nat), k ≤ x.length → k ≤ 8 → K (mw w q c r) (some (.int (nI (lgst N x k)))) → zwp n_M_longest 3 [(0, .ref q), (1, .int (nI x.length)), (3, .int (nI k))] [] 0 0 (mw w q c r) K := by
    intro k
    induction k with
    | zero => intro _ _ hk; exact b_M_longest_3 ⟨fun _ => b_M_longest_5 hk, fun z => absurd (by decide) z⟩
    | succ k ih =>
      intro h1 h2 hk
      refine b_M_longest_3 ⟨fun z => absurd z (nI_nle (by omega) (by omega)), fun _ => ?_⟩
      simp only [and_assoc, exists_and_left, exists_eq_left, exists_eq_left', Option.some.injEq, Value.int.injEq, Value.ref.injEq, Value.long.injEq, true_and, and_true, exists_eq, exists_true_left, mw_ob, mw_ia0, mw_ia2, mw_ia5, mw_ia6, mw_ia7, mw_ia8, mw_ia9, mw_ia10, mw_ia11, mw_ia15, mw_ia16, mF_0, mF_1, mF_2, mF_3, mF_4, mF_5, mF_6, mF_7, mF_8, mF_9, mF_10, mF_11, mF_12, mF_13, mF_14, mF_15, mF_16, mF_len, mF_s1, mF_s3, mF_s4, mF_s12, mF_s13, mF_s14, mw_uob, mw_u0, mw_u2, mw_u5, mw_u6, mw_u7, mw_u8, mw_u9, mw_u10, mw_u11, mw_u15, mw_u16, Nat.reduceLT, rup_s, rup_rup]
      rw [pk_sub h1]
      refine f_nodeOf (fr := x.length - (k + 1)) (y := sfx x (k + 1)) hN h49 hM (by rw [sfx_len h1]; exact h2) (by rw [sfx_len h1]; omega) (fun i hi => ?_) (lOk_drop hxo) rfl (by rw [sfx_len h1]) ?_
      · rw [sfx_len h1] at hi
        rw [sfx_getD h1]
        exact hR _ (by omega)
      · simp only [and_assoc, exists_and_left, exists_eq_left, exists_eq_left', Option.some.injEq, Value.int.injEq, Value.ref.injEq, Value.long.injEq, true_and, and_true, exists_eq, exists_true_left, mw_ob, mw_ia0, mw_ia2, mw_ia5, mw_ia6, mw_ia7, mw_ia8, mw_ia9, mw_ia10, mw_ia11, mw_ia15, mw_ia16, mF_0, mF_1, mF_2, mF_3, mF_4, mF_5, mF_6, mF_7, mF_8, mF_9, mF_10, mF_11, mF_12, mF_13, mF_14, mF_15, mF_16, mF_len, mF_s1, mF_s3, mF_s4, mF_s12, mF_s13, mF_s14, mw_uob, mw_u0, mw_u2, mw_u5, mw_u6, mw_u7, mw_u8, mw_u9, mw_u10, mw_u11, mw_u15, mw_u16, Nat.reduceLT, rup_s, rup_rup]
        have e : lgst N x (k + 1) = match nodeIx N (sfx x (k + 1)) with
          | some k => k
          | none => lgst N x k := rfl
        cases hi : nodeIx N (sfx x (k + 1)) with
        | none =>
          rw [hi] at e
          rw [e] at hk
          refine ⟨fun _ => b_M_longest_4 ?_, fun z => absurd rfl z⟩
          rw [show nI (k + 1) + -1 = nI k from pk_m1 k]
          exact ih (by omega) (by omega) hk
        | some j =>
          rw [hi] at e
          rw [e] at hk
          have := (nodeIx_lt hi).1
          exact ⟨fun z => absurd z (nI_ne9 (by omega)), fun _ => hk⟩
  refine e_M_longest (b_M_longest_0 ⟨fun z => b_M_longest_1 (b_M_longest_2 (loop x.length (Nat.le_refl _) ?_ ?_)), fun z => b_M_longest_2 (loop mo ?_ hmo ?_)⟩)
  · have := (nI_leI (by omega) (by omega)).mp z; omega
  · have := (nI_leI (by omega) (by omega)).mp z
    rw [Nat.min_eq_right this] at hK
    exact hK
  · have : ¬ x.length ≤ mo := fun y => z ((nI_leI (by omega) (by omega)).mpr y)
    omega
  · have : ¬ x.length ≤ mo := fun y => z ((nI_leI (by omega) (by omega)).mpr y)
    rw [Nat.min_eq_left (by omega)] at hK
    exact hK
def tkR (f : Nat → Int32) (a : List Nat) (i : Nat) : Nat → Int32 := fun k => if k < i then nI (a.getD k 0) else f k
theorem tkR_step {f : Nat → Int32} {a : List Nat} {i : Nat} : upd (tkR f a i) i (nI (a.getD i 0)) = tkR f a (i + 1) := by
  funext k
  show (if k = i then nI (a.getD i 0) else if k < i then nI (a.getD k 0) else f k) = if k < i + 1 then nI (a.getD k 0) else f k
  by_cases h1 : k = i
  · rw [if_pos h1, if_pos (by omega), h1]
  · rw [if_neg h1]
    by_cases h2 : k < i
    · rw [if_pos h2, if_pos (by omega)]
    · rw [if_neg h2, if_neg (by omega)]
theorem rup_id {r : Nat → Nat → Int32} {k : Nat} : rup r k (r k) = r := by
  funext j
  unfold rup
  split
  · rename_i e; rw [e]
  · rfl
theorem f_takes {n : Nat} {u : Int32} (hN : nlOk N) (h49 : N.length ≤ 49) (hM : MNd c r N) (hn : n < N.length) (hu : u = nI n) (hK : K (mw w q c (rup r 11 (tkR (r 11) (nGet N n) (nGet N n).length))) none) : zcall n_M_takes [.ref q, .int u] (mw w q c r) K := by
  subst hu
  have h8 := (hN.2.1 _ (nGet_mem hn)).2
  have loop : ∀ (m i : Nat), i + m = (nGet N n).length → zwp n_M_takes 1 [(0, .ref q), (1, .int (nI n)), (2, .int (nI i))] [] 0 0 (mw w q c (rup r 11 (tkR (r 11) (nGet N n) i))) K := by
    intro m
    induction m with
    | zero =>
      intro i hi
      obtain rfl : i = (nGet N n).length := by omega
      refine b_M_takes_1 ?_
      simp only [and_assoc, exists_and_left, exists_eq_left, exists_eq_left', Option.some.injEq, Value.int.injEq, Value.ref.injEq, Value.long.injEq, true_and, and_true, exists_eq, exists_true_left, mw_ob, mw_ia0, mw_ia2, mw_ia5, mw_ia6, mw_ia7, mw_ia8, mw_ia9, mw_ia10, mw_ia11, mw_ia15, mw_ia16, mF_0, mF_1, mF_2, mF_3, mF_4, mF_5, mF_6, mF_7, mF_8, mF_9, mF_10, mF_11, mF_12, mF_13, mF_14, mF_15, mF_16, mF_len, mF_s1, mF_s3, mF_s4, mF_s12, mF_s13, mF_s14, mw_uob, mw_u0, mw_u2, mw_u5, mw_u6, mw_u7, mw_u8, mw_u9, mw_u10, mw_u11, mw_u15, mw_u16, Nat.reduceLT, rup_s, rup_rup]
      rw [rup_n (j := 5) (by decide), nI_clamp (by omega), (hM.2 n hn).1]
      exact ⟨vp_in_nI (by omega) (by decide), fun _ => b_M_takes_2 hK, fun z => absurd (Int32.le_refl _) z⟩
    | succ m ih =>
      intro i hi
      refine b_M_takes_1 ?_
      simp only [and_assoc, exists_and_left, exists_eq_left, exists_eq_left', Option.some.injEq, Value.int.injEq, Value.ref.injEq, Value.long.injEq, true_and, and_true, exists_eq, exists_true_left, mw_ob, mw_ia0, mw_ia2, mw_ia5, mw_ia6, mw_ia7, mw_ia8, mw_ia9, mw_ia10, mw_ia11, mw_ia15, mw_ia16, mF_0, mF_1, mF_2, mF_3, mF_4, mF_5, mF_6, mF_7, mF_8, mF_9, mF_10, mF_11, mF_12, mF_13, mF_14, mF_15, mF_16, mF_len, mF_s1, mF_s3, mF_s4, mF_s12, mF_s13, mF_s14, mw_uob, mw_u0, mw_u2, mw_u5, mw_u6, mw_u7, mw_u8, mw_u9, mw_u10, mw_u11, mw_u15, mw_u16, Nat.reduceLT, rup_s, rup_rup]
      rw [rup_n (j := 5) (by decide), rup_n (j := 6) (by decide), nI_clamp (by omega), (hM.2 n hn).1, lit_8, pk_mul, nI_add, nI_clamp (by omega), nI_clamp (by omega), (hM.2 n hn).2 i (by omega), tkR_step, nI_1]
      exact ⟨vp_in_nI (by omega) (by decide), fun z => absurd ((nI_leI (by omega) (by omega)).mp z) (by omega), fun _ => ⟨vp_in_nI (by omega) (by decide), vp_in_nI (by omega) (by decide), ih (i + 1) (by omega)⟩⟩
  have h0 := loop (nGet N n).length 0 (Nat.zero_add _)
  rw [show tkR (r 11) (nGet N n) 0 = r 11 from rfl, rup_id] at h0
  exact e_M_takes (b_M_takes_0 h0)
theorem f_endsWith {n v : Nat} {x y : Int32} {wd : Nat → List Nat} (hN : nlOk N) (h49 : N.length ≤ 49) (hM : MNd c r N) (hn : n < N.length) (hv : v < 6) (hw : wdOk wd) (hW : PSw (r 0) wd) (hx : x = nI n) (hy : y = nI v) (hK : K (mw w q c r) (some (.int (oob (endsW (wd v) (nGet N n)))))) : zcall n_M_endsWith [.ref q, .int x, .int y] (mw w q c r) K := by
  subst hx hy
  have h8 := (hN.2.1 _ (nGet_mem hn)).2
  obtain ⟨w1, w2, w3⟩ := hW v hv
  have wo := (hw v hv).2
  have no := (hN.2.1 _ (nGet_mem hn)).1
  have bad : ∀ (z : Int32) (i : Nat), endsW (wd v) (nGet N n) = false → zwp n_M_endsWith 3 [(0, .ref q), (1, .int (nI n)), (2, .int (nI v)), (3, .int z), (4, .int 0), (5, .int (nI i))] [] 0 0 (mw w q c r) K := fun z i he => by
    rw [he] at hK
    refine b_M_endsWith_3 ?_
    simp only [and_assoc, exists_and_left, exists_eq_left, exists_eq_left', Option.some.injEq, Value.int.injEq, Value.ref.injEq, Value.long.injEq, true_and, and_true, exists_eq, exists_true_left, mw_ob, mw_ia0, mw_ia2, mw_ia5, mw_ia6, mw_ia7, mw_ia8, mw_ia9, mw_ia10, mw_ia11, mw_ia15, mw_ia16, mF_0, mF_1, mF_2, mF_3, mF_4, mF_5, mF_6, mF_7, mF_8, mF_9, mF_10, mF_11, mF_12, mF_13, mF_14, mF_15, mF_16, mF_len, mF_s1, mF_s3, mF_s4, mF_s12, mF_s13, mF_s14, mw_uob, mw_u0, mw_u2, mw_u5, mw_u6, mw_u7, mw_u8, mw_u9, mw_u10, mw_u11, mw_u15, mw_u16, Nat.reduceLT, rup_s, rup_rup]
    refine s_M_wordLength rfl hv ?_
    simp only [and_assoc, exists_and_left, exists_eq_left, exists_eq_left', Option.some.injEq, Value.int.injEq, Value.ref.injEq, Value.long.injEq, true_and, and_true, exists_eq, exists_true_left, mw_ob, mw_ia0, mw_ia2, mw_ia5, mw_ia6, mw_ia7, mw_ia8, mw_ia9, mw_ia10, mw_ia11, mw_ia15, mw_ia16, mF_0, mF_1, mF_2, mF_3, mF_4, mF_5, mF_6, mF_7, mF_8, mF_9, mF_10, mF_11, mF_12, mF_13, mF_14, mF_15, mF_16, mF_len, mF_s1, mF_s3, mF_s4, mF_s12, mF_s13, mF_s14, mw_uob, mw_u0, mw_u2, mw_u5, mw_u6, mw_u7, mw_u8, mw_u9, mw_u10, mw_u11, mw_u15, mw_u16, Nat.reduceLT, rup_s, rup_rup]
    exact ⟨fun _ => b_M_endsWith_6 ⟨b01, hK⟩, fun _ => if1 (b_M_endsWith_6 ⟨b01, hK⟩)⟩
  refine e_M_endsWith (b_M_endsWith_0 ?_)
  simp only [and_assoc, exists_and_left, exists_eq_left, exists_eq_left', Option.some.injEq, Value.int.injEq, Value.ref.injEq, Value.long.injEq, true_and, and_true, exists_eq, exists_true_left, mw_ob, mw_ia0, mw_ia2, mw_ia5, mw_ia6, mw_ia7, mw_ia8, mw_ia9, mw_ia10, mw_ia11, mw_ia15, mw_ia16, mF_0, mF_1, mF_2, mF_3, mF_4, mF_5, mF_6, mF_7, mF_8, mF_9, mF_10, mF_11, mF_12, mF_13, mF_14, mF_15, mF_16, mF_len, mF_s1, mF_s3, mF_s4, mF_s12, mF_s13, mF_s14, mw_uob, mw_u0, mw_u2, mw_u5, mw_u6, mw_u7, mw_u8, mw_u9, mw_u10, mw_u11, mw_u15, mw_u16, Nat.reduceLT, rup_s, rup_rup]
  rw [nI_clamp (by omega), (hM.2 n hn).1]
  refine ⟨vp_in_nI (by omega) (by decide), ?_⟩
  refine s_M_wordLength rfl hv ?_
  simp only [and_assoc, exists_and_left, exists_eq_left, exists_eq_left', Option.some.injEq, Value.int.injEq, Value.ref.injEq, Value.long.injEq, true_and, and_true, exists_eq, exists_true_left, mw_ob, mw_ia0, mw_ia2, mw_ia5, mw_ia6, mw_ia7, mw_ia8, mw_ia9, mw_ia10, mw_ia11, mw_ia15, mw_ia16, mF_0, mF_1, mF_2, mF_3, mF_4, mF_5, mF_6, mF_7, mF_8, mF_9, mF_10, mF_11, mF_12, mF_13, mF_14, mF_15, mF_16, mF_len, mF_s1, mF_s3, mF_s4, mF_s12, mF_s13, mF_s14, mw_uob, mw_u0, mw_u2, mw_u5, mw_u6, mw_u7, mw_u8, mw_u9, mw_u10, mw_u11, mw_u15, mw_u16, Nat.reduceLT, rup_s, rup_rup]
  refine s_M_wordLength rfl hv ?_
  simp only [and_assoc, exists_and_left, exists_eq_left, exists_eq_left', Option.some.injEq, Value.int.injEq, Value.ref.injEq, Value.long.injEq, true_and, and_true, exists_eq, exists_true_left, mw_ob, mw_ia0, mw_ia2, mw_ia5, mw_ia6, mw_ia7, mw_ia8, mw_ia9, mw_ia10, mw_ia11, mw_ia15, mw_ia16, mF_0, mF_1, mF_2, mF_3, mF_4, mF_5, mF_6, mF_7, mF_8, mF_9, mF_10, mF_11, mF_12, mF_13, mF_14, mF_15, mF_16, mF_len, mF_s1, mF_s3, mF_s4, mF_s12, mF_s13, mF_s14, mw_uob, mw_u0, mw_u2, mw_u5, mw_u6, mw_u7, mw_u8, mw_u9, mw_u10, mw_u11, mw_u15, mw_u16, Nat.reduceLT, rup_s, rup_rup]
  rw [w1]
  refine ⟨fun z => b_M_endsWith_1 (b_M_endsWith_2 (bad _ 0 ?_)), fun z => ⟨fun y => b_M_endsWith_1 (b_M_endsWith_2 (bad _ 0 ?_)), fun y => ?_⟩⟩
  · have := (nI_leI (b := 0) (by omega) (by decide)).mp z
    unfold endsW
    rw [decide_eq_false (by omega), Bool.false_and]
  · unfold endsW
    have : ¬ (wd v).length ≤ (nGet N n).length := fun t => by
      rw [pk_sub t] at y
      exact absurd y (nI_pos (by omega))
    rw [decide_eq_false this, Bool.false_and, Bool.and_false]
  · have hle : (wd v).length ≤ (nGet N n).length := Nat.not_lt.mp (fun t => y (by
      obtain ⟨d, hd⟩ : ∃ d, (wd v).length = (nGet N n).length + (d + 1) := ⟨(wd v).length - (nGet N n).length - 1, by omega⟩
      have : ∀ a, a < 9 → ∀ b, b < 9 → a < b → nI a - nI b < 0 := by decide +kernel
      exact this _ (by omega) _ (by omega) t))
    have hpos : ¬ (wd v).length ≤ 0 := fun t => z ((nI_leI (b := 0) (by omega) (by decide)).mpr t)
    rw [pk_sub hle]
    have loop : ∀ (m i : Nat), i + m = (wd v).length → (∀ j, j < i → (sfx (nGet N n) (wd v).length).getD j 0 = (wd v).getD j 0) → zwp n_M_endsWith 3 [(0, .ref q), (1, .int (nI n)), (2, .int (nI v)), (3, .int (nI ((nGet N n).length - (wd v).length))), (4, .int 1), (5, .int (nI i))] [] 0 0 (mw w q c r) K := by
      intro m
      induction m with
      | zero =>
        intro i hi hj
        refine b_M_endsWith_3 ?_
        simp only [and_assoc, exists_and_left, exists_eq_left, exists_eq_left', Option.some.injEq, Value.int.injEq, Value.ref.injEq, Value.long.injEq, true_and, and_true, exists_eq, exists_true_left, mw_ob, mw_ia0, mw_ia2, mw_ia5, mw_ia6, mw_ia7, mw_ia8, mw_ia9, mw_ia10, mw_ia11, mw_ia15, mw_ia16, mF_0, mF_1, mF_2, mF_3, mF_4, mF_5, mF_6, mF_7, mF_8, mF_9, mF_10, mF_11, mF_12, mF_13, mF_14, mF_15, mF_16, mF_len, mF_s1, mF_s3, mF_s4, mF_s12, mF_s13, mF_s14, mw_uob, mw_u0, mw_u2, mw_u5, mw_u6, mw_u7, mw_u8, mw_u9, mw_u10, mw_u11, mw_u15, mw_u16, Nat.reduceLT, rup_s, rup_rup]
        refine s_M_wordLength rfl hv ?_
        simp only [and_assoc, exists_and_left, exists_eq_left, exists_eq_left', Option.some.injEq, Value.int.injEq, Value.ref.injEq, Value.long.injEq, true_and, and_true, exists_eq, exists_true_left, mw_ob, mw_ia0, mw_ia2, mw_ia5, mw_ia6, mw_ia7, mw_ia8, mw_ia9, mw_ia10, mw_ia11, mw_ia15, mw_ia16, mF_0, mF_1, mF_2, mF_3, mF_4, mF_5, mF_6, mF_7, mF_8, mF_9, mF_10, mF_11, mF_12, mF_13, mF_14, mF_15, mF_16, mF_len, mF_s1, mF_s3, mF_s4, mF_s12, mF_s13, mF_s14, mw_uob, mw_u0, mw_u2, mw_u5, mw_u6, mw_u7, mw_u8, mw_u9, mw_u10, mw_u11, mw_u15, mw_u16, Nat.reduceLT, rup_s, rup_rup]
        rw [w1]
        refine ⟨fun _ => b_M_endsWith_6 ⟨b11, ?_⟩, fun z => absurd ((nI_leI (by omega) (by omega)).mpr (by omega)) z⟩
        have e : sfx (nGet N n) (wd v).length = wd v := getD_ext (sfx_len hle) (fun j hj' => hj j (by rw [sfx_len hle] at hj'; omega))
        have : endsW (wd v) (nGet N n) = true := by
          unfold endsW
          rw [decide_eq_true (by omega), decide_eq_true hle, decide_eq_true e]; rfl
        rw [this] at hK
        exact hK
      | succ m ih =>
        intro i hi hj
        have hm := (hM.2 n hn).2 ((nGet N n).length - (wd v).length + i) (by omega)
        refine b_M_endsWith_3 ?_
        simp only [and_assoc, exists_and_left, exists_eq_left, exists_eq_left', Option.some.injEq, Value.int.injEq, Value.ref.injEq, Value.long.injEq, true_and, and_true, exists_eq, exists_true_left, mw_ob, mw_ia0, mw_ia2, mw_ia5, mw_ia6, mw_ia7, mw_ia8, mw_ia9, mw_ia10, mw_ia11, mw_ia15, mw_ia16, mF_0, mF_1, mF_2, mF_3, mF_4, mF_5, mF_6, mF_7, mF_8, mF_9, mF_10, mF_11, mF_12, mF_13, mF_14, mF_15, mF_16, mF_len, mF_s1, mF_s3, mF_s4, mF_s12, mF_s13, mF_s14, mw_uob, mw_u0, mw_u2, mw_u5, mw_u6, mw_u7, mw_u8, mw_u9, mw_u10, mw_u11, mw_u15, mw_u16, Nat.reduceLT, rup_s, rup_rup]
        refine s_M_wordLength rfl hv ?_
        simp only [and_assoc, exists_and_left, exists_eq_left, exists_eq_left', Option.some.injEq, Value.int.injEq, Value.ref.injEq, Value.long.injEq, true_and, and_true, exists_eq, exists_true_left, mw_ob, mw_ia0, mw_ia2, mw_ia5, mw_ia6, mw_ia7, mw_ia8, mw_ia9, mw_ia10, mw_ia11, mw_ia15, mw_ia16, mF_0, mF_1, mF_2, mF_3, mF_4, mF_5, mF_6, mF_7, mF_8, mF_9, mF_10, mF_11, mF_12, mF_13, mF_14, mF_15, mF_16, mF_len, mF_s1, mF_s3, mF_s4, mF_s12, mF_s13, mF_s14, mw_uob, mw_u0, mw_u2, mw_u5, mw_u6, mw_u7, mw_u8, mw_u9, mw_u10, mw_u11, mw_u15, mw_u16, Nat.reduceLT, rup_s, rup_rup]
        rw [w1, lit_8, pk_mul, nI_add, nI_add]
        refine ⟨fun z => absurd ((nI_leI (by omega) (by omega)).mp z) (by omega), fun _ => if0 ⟨vp_in_nI (by omega) (by decide), ?_⟩⟩
        refine s_M_letterOf (i := v) (j := i) rfl rfl hv (by omega) ?_
        simp only [and_assoc, exists_and_left, exists_eq_left, exists_eq_left', Option.some.injEq, Value.int.injEq, Value.ref.injEq, Value.long.injEq, true_and, and_true, exists_eq, exists_true_left, mw_ob, mw_ia0, mw_ia2, mw_ia5, mw_ia6, mw_ia7, mw_ia8, mw_ia9, mw_ia10, mw_ia11, mw_ia15, mw_ia16, mF_0, mF_1, mF_2, mF_3, mF_4, mF_5, mF_6, mF_7, mF_8, mF_9, mF_10, mF_11, mF_12, mF_13, mF_14, mF_15, mF_16, mF_len, mF_s1, mF_s3, mF_s4, mF_s12, mF_s13, mF_s14, mw_uob, mw_u0, mw_u2, mw_u5, mw_u6, mw_u7, mw_u8, mw_u9, mw_u10, mw_u11, mw_u15, mw_u16, Nat.reduceLT, rup_s, rup_rup]
        rw [nI_clamp (by omega), Nat.add_assoc, hm, w3 i (by omega), ← sfx_getD hle]
        have a1 := lOk_getD (lOk_drop (n := (nGet N n).length - (wd v).length) no) i
        have a1 : (sfx (nGet N n) (wd v).length).getD i 0 < 26 := a1
        have a2 := lOk_getD wo i
        refine ⟨fun t => b_M_endsWith_4 (b_M_endsWith_5 ?_), fun t => b_M_endsWith_5 ?_⟩
        · rw [nI_1]
          refine bad _ (i + 1) ?_
          cases e : endsW (wd v) (nGet N n) with
          | false => rfl
          | true =>
            exact absurd (by rw [(endsW_len e).2.2]) t
        · rw [nI_1]
          refine ih (i + 1) (by omega) (fun j hj' => ?_)
          by_cases e : j = i
          · rw [e]; exact (nI_eq (by omega) (by omega)).mp t
          · exact hj j (by omega)
    exact b_M_endsWith_2 (loop (wd v).length 0 (Nat.zero_add _) (fun j hj => absurd hj (Nat.not_lt_zero _)))
end MNode
