/-! THE MODEL: what is covered; pieces that are dropped -/
def shf (g : Nat → Int32) (s e : Nat) : Nat → Int32 := fun i => if s ≤ i ∧ i < e then g (i + 42) else g i
theorem shf_step {g : Nat → Int32} {s i : Nat} (h : s ≤ i) : upd (shf g s i) i (shf g s i (i + 42)) = shf g s (i + 1) := by
  funext j
  have e : shf g s i (i + 42) = g (i + 42) := if_neg (by omega)
  show (if j = i then shf g s i (i + 42) else if s ≤ j ∧ j < i then g (j + 42) else g j) = if s ≤ j ∧ j < i + 1 then g (j + 42) else g j
  rw [e]
  by_cases h1 : j = i
  · rw [if_pos h1, if_pos (by omega), h1]
  · rw [if_neg h1]
    by_cases h2 : s ≤ j ∧ j < i
    · rw [if_pos h2, if_pos (by omega)]
    · rw [if_neg h2, if_neg (by omega)]
theorem aPc_erase {l : List aP} {k i : Nat} : aPc (l.eraseIdx k) i = if i < k then aPc l i else aPc l (i + 1) := by
  unfold aPc
  rw [List.getD_eq_getElem?_getD, List.getD_eq_getElem?_getD, List.getD_eq_getElem?_getD, List.getElem?_eraseIdx]
  split <;> rfl
theorem PC_congr {g g' : Nat → Int32} {b b' : Nat} {p : aP} (h : PC g b p) (e : ∀ j, j < p.2.length + 2 → g' (b' + j) = g (b + j)) : PC g' b' p := by
  obtain ⟨h1, h2, h3⟩ := h
  refine ⟨(e 0 (by omega)).trans h1, (e 1 (by omega)).trans h2, fun j hj => ?_⟩
  rw [Nat.add_assoc, e (2 + j) (by omega), ← Nat.add_assoc]
  exact h3 j hj
theorem MP_erase {g : Nat → Int32} {l : List aP} {k : Nat} (h : MP g l) (hk : k < l.length) : MP (upd (shf g (38 + 42 * k) (38 + 42 * (l.length - 1))) 5 (nI (l.length - 1))) (l.eraseIdx k) := by
  obtain ⟨h1, h2, h3, h4⟩ := h
  have hlen : (l.eraseIdx k).length = l.length - 1 := List.length_eraseIdx_of_lt hk
  refine ⟨by rw [hlen]; exact if_pos rfl, by omega, fun p hp => h3 p (List.mem_of_mem_eraseIdx hp), fun i hi => ?_⟩
  rw [hlen] at hi
  have hok : ∀ i, i < l.length → (aPc l i).2.length ≤ 40 := fun i hi => (h3 _ (aPc_mem hi)).2.2.1
  rw [aPc_erase]
  split
  · rename_i hik
    have := hok i (by omega)
    refine PC_congr (h4 i (by omega)) (fun j hj => ?_)
    show (if 38 + 42 * i + j = 5 then _ else if 38 + 42 * k ≤ 38 + 42 * i + j ∧ _ then _ else _) = _
    rw [if_neg (by omega), if_neg (by omega)]
  · rename_i hik
    have := hok (i + 1) (by omega)
    refine PC_congr (h4 (i + 1) (by omega)) (fun j hj => ?_)
    show (if 38 + 42 * i + j = 5 then _ else if 38 + 42 * k ≤ 38 + 42 * i + j ∧ 38 + 42 * i + j < 38 + 42 * (l.length - 1) then g (38 + 42 * i + j + 42) else _) = _
    rw [if_neg (by omega), if_pos (by omega)]
    congr 1
    omega
theorem take_drop_k {l : List aP} {k : Nat} (hk : k < l.length) (f : aP → Bool) : (l.take (k + 1) ++ (l.drop (k + 1)).filter f) = l.take k ++ aPc l k :: (l.drop (k + 1)).filter f := by
  have e : aPc l k = l[k] := by unfold aPc; rw [List.getD_eq_getElem?_getD, List.getElem?_eq_getElem hk]; rfl
  rw [List.take_succ_eq_append_getElem hk, e, List.append_assoc]
  rfl
theorem drop_filter_k {l : List aP} {k : Nat} (hk : k < l.length) (f : aP → Bool) : (l.drop k).filter f = if f (aPc l k) then aPc l k :: (l.drop (k + 1)).filter f else (l.drop (k + 1)).filter f := by
  have e : aPc l k = l[k] := by unfold aPc; rw [List.getD_eq_getElem?_getD, List.getElem?_eq_getElem hk]; rfl
  rw [List.drop_eq_getElem_cons hk, List.filter_cons, e]
section MCov
variable {w : jx_W} {q : Nat} {c : Nat → Int32} {r : Nat → Nat → Int32} {K : jx_Q} {P g : Nat → Int32} {b : Nat} {l : List aP}
theorem f_shift {k : Nat} (hb : c 12 = nI b) (hf : b + 710 ≤ 22416) (h5 : g 5 = nI l.length) (hk : k < l.length) (hl : l.length ≤ 6) (hK : zwp n_M_drops 3 [(0, .ref q), (1, .int (nI k))] [] 0 0 (mw w q c (rup r 0 (pgf P b 710 (shf g (38 + 42 * k) (38 + 42 * (l.length - 1)))))) K) : ∀ (n i : Nat), 38 + 42 * k ≤ i → i + n = 38 + 42 * (l.length - 1) → zwp n_M_drops 2 [(0, .ref q), (1, .int (nI k)), (2, .int (nI (b + i)))] [] 0 0 (mw w q c (rup r 0 (pgf P b 710 (shf g (38 + 42 * k) i)))) K := by
  intro n
  have e5 : ∀ i, shf g (38 + 42 * k) i 5 = nI l.length := fun i => (if_neg (by omega)).trans h5
  induction n with
  | zero =>
    intro i h1 h2
    refine b_M_drops_2 ?_
    simp only [and_assoc, exists_and_left, exists_eq_left, exists_eq_left', Option.some.injEq, Value.int.injEq, Value.ref.injEq, Value.long.injEq, true_and, and_true, exists_eq, exists_true_left, mw_ob, mw_ia0, mw_ia2, mw_ia5, mw_ia6, mw_ia7, mw_ia8, mw_ia9, mw_ia10, mw_ia11, mw_ia15, mw_ia16, mF_0, mF_1, mF_2, mF_3, mF_4, mF_5, mF_6, mF_7, mF_8, mF_9, mF_10, mF_11, mF_12, mF_13, mF_14, mF_15, mF_16, mF_len, mF_s1, mF_s3, mF_s4, mF_s12, mF_s13, mF_s14, mw_uob, mw_u0, mw_u2, mw_u5, mw_u6, mw_u7, mw_u8, mw_u9, mw_u10, mw_u11, mw_u15, mw_u16, Nat.reduceLT, rup_s, rup_rup]
    refine f_of hb (i := 5) rfl (by decide) hf ?_
    simp only [and_assoc, exists_and_left, exists_eq_left, exists_eq_left', Option.some.injEq, Value.int.injEq, Value.ref.injEq, Value.long.injEq, true_and, and_true, exists_eq, exists_true_left, mw_ob, mw_ia0, mw_ia2, mw_ia5, mw_ia6, mw_ia7, mw_ia8, mw_ia9, mw_ia10, mw_ia11, mw_ia15, mw_ia16, mF_0, mF_1, mF_2, mF_3, mF_4, mF_5, mF_6, mF_7, mF_8, mF_9, mF_10, mF_11, mF_12, mF_13, mF_14, mF_15, mF_16, mF_len, mF_s1, mF_s3, mF_s4, mF_s12, mF_s13, mF_s14, mw_uob, mw_u0, mw_u2, mw_u5, mw_u6, mw_u7, mw_u8, mw_u9, mw_u10, mw_u11, mw_u15, mw_u16, Nat.reduceLT, rup_s, rup_rup]
    rw [e5, lit_1, pk_sub (by omega)]
    refine s_M_pieceAt hb rfl ?_
    simp only [and_assoc, exists_and_left, exists_eq_left, exists_eq_left', Option.some.injEq, Value.int.injEq, Value.ref.injEq, Value.long.injEq, true_and, and_true, exists_eq, exists_true_left, mw_ob, mw_ia0, mw_ia2, mw_ia5, mw_ia6, mw_ia7, mw_ia8, mw_ia9, mw_ia10, mw_ia11, mw_ia15, mw_ia16, mF_0, mF_1, mF_2, mF_3, mF_4, mF_5, mF_6, mF_7, mF_8, mF_9, mF_10, mF_11, mF_12, mF_13, mF_14, mF_15, mF_16, mF_len, mF_s1, mF_s3, mF_s4, mF_s12, mF_s13, mF_s14, mw_uob, mw_u0, mw_u2, mw_u5, mw_u6, mw_u7, mw_u8, mw_u9, mw_u10, mw_u11, mw_u15, mw_u16, Nat.reduceLT, rup_s, rup_rup]
    refine ⟨fun _ => ?_, fun z => absurd ((nI_leI (by omega) (by omega)).mpr (by omega)) z⟩
    rw [show i = 38 + 42 * (l.length - 1) by omega]
    exact hK
  | succ n ih =>
    intro i h1 h2
    refine b_M_drops_2 ?_
    simp only [and_assoc, exists_and_left, exists_eq_left, exists_eq_left', Option.some.injEq, Value.int.injEq, Value.ref.injEq, Value.long.injEq, true_and, and_true, exists_eq, exists_true_left, mw_ob, mw_ia0, mw_ia2, mw_ia5, mw_ia6, mw_ia7, mw_ia8, mw_ia9, mw_ia10, mw_ia11, mw_ia15, mw_ia16, mF_0, mF_1, mF_2, mF_3, mF_4, mF_5, mF_6, mF_7, mF_8, mF_9, mF_10, mF_11, mF_12, mF_13, mF_14, mF_15, mF_16, mF_len, mF_s1, mF_s3, mF_s4, mF_s12, mF_s13, mF_s14, mw_uob, mw_u0, mw_u2, mw_u5, mw_u6, mw_u7, mw_u8, mw_u9, mw_u10, mw_u11, mw_u15, mw_u16, Nat.reduceLT, rup_s, rup_rup]
    refine f_of hb (i := 5) rfl (by decide) hf ?_
    simp only [and_assoc, exists_and_left, exists_eq_left, exists_eq_left', Option.some.injEq, Value.int.injEq, Value.ref.injEq, Value.long.injEq, true_and, and_true, exists_eq, exists_true_left, mw_ob, mw_ia0, mw_ia2, mw_ia5, mw_ia6, mw_ia7, mw_ia8, mw_ia9, mw_ia10, mw_ia11, mw_ia15, mw_ia16, mF_0, mF_1, mF_2, mF_3, mF_4, mF_5, mF_6, mF_7, mF_8, mF_9, mF_10, mF_11, mF_12, mF_13, mF_14, mF_15, mF_16, mF_len, mF_s1, mF_s3, mF_s4, mF_s12, mF_s13, mF_s14, mw_uob, mw_u0, mw_u2, mw_u5, mw_u6, mw_u7, mw_u8, mw_u9, mw_u10, mw_u11, mw_u15, mw_u16, Nat.reduceLT, rup_s, rup_rup]
    rw [e5, lit_1, pk_sub (by omega)]
    refine s_M_pieceAt hb rfl ?_
    simp only [and_assoc, exists_and_left, exists_eq_left, exists_eq_left', Option.some.injEq, Value.int.injEq, Value.ref.injEq, Value.long.injEq, true_and, and_true, exists_eq, exists_true_left, mw_ob, mw_ia0, mw_ia2, mw_ia5, mw_ia6, mw_ia7, mw_ia8, mw_ia9, mw_ia10, mw_ia11, mw_ia15, mw_ia16, mF_0, mF_1, mF_2, mF_3, mF_4, mF_5, mF_6, mF_7, mF_8, mF_9, mF_10, mF_11, mF_12, mF_13, mF_14, mF_15, mF_16, mF_len, mF_s1, mF_s3, mF_s4, mF_s12, mF_s13, mF_s14, mw_uob, mw_u0, mw_u2, mw_u5, mw_u6, mw_u7, mw_u8, mw_u9, mw_u10, mw_u11, mw_u15, mw_u16, Nat.reduceLT, rup_s, rup_rup]
    refine ⟨fun z => absurd ((nI_leI (by omega) (by omega)).mp z) (by omega), fun _ => ?_⟩
    rw [lit_42, nI_add, nI_add]
    refine ⟨vp_in_nI (by omega) (by decide), vp_in_nI (by omega) (by decide), ?_⟩
    rw [nI_clamp (by omega), nI_clamp (by omega), pgf_at (k := i + 42) (by omega) (by omega), pgf_upd (k := i) rfl (by omega), shf_step h1]
    exact ih (i + 1) (by omega) (by omega)
theorem f_drops_loop {a : Nat} (hb : c 12 = nI b) (hf : b + 710 ≤ 22416) (ha2 : a < 2 ^ 30) (hl : ∀ p ∈ l, aOk p) (hK : ∀ g', MP g' (aDrop a l) → (∀ i, i ≠ 5 → (i < 38 ∨ 290 ≤ i) → g' i = g i) → K (mw w q c (rup r 0 (pgf P b 710 g'))) none) : ∀ (k : Nat) (g1 : Nat → Int32), k ≤ l.length → MP g1 (l.take k ++ (l.drop k).filter (fun p => decide (a < p.1 + p.2.length))) → g1 4 = nI a → (∀ i, i ≠ 5 → (i < 38 ∨ 290 ≤ i) → g1 i = g i) → zwp n_M_drops 1 [(0, .ref q), (1, .int (nI k - 1))] [] 0 0 (mw w q c (rup r 0 (pgf P b 710 g1))) K := by
  intro k
  induction k with
  | zero =>
    intro g1 hk hm h4 hfr
    refine b_M_drops_1 ?_
    refine ⟨fun _ => b_M_drops_5 (hK g1 (by simpa [aDrop] using hm) hfr), fun z => absurd (show nI 0 - 1 < 0 by decide) z⟩
  | succ k ih =>
    intro g1 hk hm h4 hfr
    have hkl : k < l.length := by omega
    obtain ⟨cur, hcur⟩ : ∃ cur, cur = l.take (k + 1) ++ (l.drop (k + 1)).filter (fun p => decide (a < p.1 + p.2.length)) := ⟨_, rfl⟩
    rw [← hcur] at hm
    have hcl : k < cur.length := by
      rw [hcur, List.length_append, List.length_take]; omega
    have hpk : aPc cur k = aPc l k := by
      rw [hcur]
      unfold aPc
      rw [List.getD_eq_getElem?_getD, List.getD_eq_getElem?_getD, List.getElem?_append_left (by rw [List.length_take]; omega), List.getElem?_take, if_pos (by omega)]
    have hm6 := hm.2.1
    obtain ⟨g2, g3, -⟩ := hm.2.2.2 k hcl
    rw [hpk] at g2 g3
    obtain ⟨o1, o2, o3, -⟩ := hl _ (aPc_mem hkl)
    have e1 : pgf P b 710 g1 (b + 38 + 42 * k) = nI (aPc l k).1 := (pgf_at (by omega) (by omega)).trans g2
    have e2 : pgf P b 710 g1 (b + 38 + 42 * k + 1) = nI (aPc l k).2.length := (pgf_at (k := 38 + 42 * k + 1) (by omega) (by omega)).trans g3
    have ek : nI (k + 1) - 1 = nI k := nI_pred k
    rw [ek]
    have next : ∀ g2, MP g2 (l.take k ++ (l.drop k).filter (fun p => decide (a < p.1 + p.2.length))) → g2 4 = nI a → (∀ i, i ≠ 5 → (i < 38 ∨ 290 ≤ i) → g2 i = g i) → zwp n_M_drops 4 [(0, .ref q), (1, .int (nI k))] [] 0 0 (mw w q c (rup r 0 (pgf P b 710 g2))) K := fun g2 h1 h2 h3 => by
      refine b_M_drops_4 ?_
      have := ih g2 (by omega) h1 h2 h3
      rw [show nI k + -1 = nI k - 1 by rw [Int32.sub_eq_add_neg]]
      exact this
    refine b_M_drops_1 ⟨fun z => absurd z (nI_pos (by omega)), fun _ => ?_⟩
    simp only [and_assoc, exists_and_left, exists_eq_left, exists_eq_left', Option.some.injEq, Value.int.injEq, Value.ref.injEq, Value.long.injEq, true_and, and_true, exists_eq, exists_true_left, mw_ob, mw_ia0, mw_ia2, mw_ia5, mw_ia6, mw_ia7, mw_ia8, mw_ia9, mw_ia10, mw_ia11, mw_ia15, mw_ia16, mF_0, mF_1, mF_2, mF_3, mF_4, mF_5, mF_6, mF_7, mF_8, mF_9, mF_10, mF_11, mF_12, mF_13, mF_14, mF_15, mF_16, mF_len, mF_s1, mF_s3, mF_s4, mF_s12, mF_s13, mF_s14, mw_uob, mw_u0, mw_u2, mw_u5, mw_u6, mw_u7, mw_u8, mw_u9, mw_u10, mw_u11, mw_u15, mw_u16, Nat.reduceLT, rup_s, rup_rup]
    refine s_M_pieceAt hb rfl ?_
    simp only [and_assoc, exists_and_left, exists_eq_left, exists_eq_left', Option.some.injEq, Value.int.injEq, Value.ref.injEq, Value.long.injEq, true_and, and_true, exists_eq, exists_true_left, mw_ob, mw_ia0, mw_ia2, mw_ia5, mw_ia6, mw_ia7, mw_ia8, mw_ia9, mw_ia10, mw_ia11, mw_ia15, mw_ia16, mF_0, mF_1, mF_2, mF_3, mF_4, mF_5, mF_6, mF_7, mF_8, mF_9, mF_10, mF_11, mF_12, mF_13, mF_14, mF_15, mF_16, mF_len, mF_s1, mF_s3, mF_s4, mF_s12, mF_s13, mF_s14, mw_uob, mw_u0, mw_u2, mw_u5, mw_u6, mw_u7, mw_u8, mw_u9, mw_u10, mw_u11, mw_u15, mw_u16, Nat.reduceLT, rup_s, rup_rup]
    refine ⟨vp_in_nI (by omega) (by decide), ?_⟩
    refine s_M_pieceAt hb rfl ?_
    simp only [and_assoc, exists_and_left, exists_eq_left, exists_eq_left', Option.some.injEq, Value.int.injEq, Value.ref.injEq, Value.long.injEq, true_and, and_true, exists_eq, exists_true_left, mw_ob, mw_ia0, mw_ia2, mw_ia5, mw_ia6, mw_ia7, mw_ia8, mw_ia9, mw_ia10, mw_ia11, mw_ia15, mw_ia16, mF_0, mF_1, mF_2, mF_3, mF_4, mF_5, mF_6, mF_7, mF_8, mF_9, mF_10, mF_11, mF_12, mF_13, mF_14, mF_15, mF_16, mF_len, mF_s1, mF_s3, mF_s4, mF_s12, mF_s13, mF_s14, mw_uob, mw_u0, mw_u2, mw_u5, mw_u6, mw_u7, mw_u8, mw_u9, mw_u10, mw_u11, mw_u15, mw_u16, Nat.reduceLT, rup_s, rup_rup]
    rw [nI_1]
    refine ⟨vp_in_nI (by omega) (by decide), ?_⟩
    refine f_of hb (i := 4) rfl (by decide) hf ?_
    simp only [and_assoc, exists_and_left, exists_eq_left, exists_eq_left', Option.some.injEq, Value.int.injEq, Value.ref.injEq, Value.long.injEq, true_and, and_true, exists_eq, exists_true_left, mw_ob, mw_ia0, mw_ia2, mw_ia5, mw_ia6, mw_ia7, mw_ia8, mw_ia9, mw_ia10, mw_ia11, mw_ia15, mw_ia16, mF_0, mF_1, mF_2, mF_3, mF_4, mF_5, mF_6, mF_7, mF_8, mF_9, mF_10, mF_11, mF_12, mF_13, mF_14, mF_15, mF_16, mF_len, mF_s1, mF_s3, mF_s4, mF_s12, mF_s13, mF_s14, mw_uob, mw_u0, mw_u2, mw_u5, mw_u6, mw_u7, mw_u8, mw_u9, mw_u10, mw_u11, mw_u15, mw_u16, Nat.reduceLT, rup_s, rup_rup]
    rw [nI_clamp (by omega), nI_clamp (by omega), e1, e2, nI_add, h4]
    refine ⟨fun z => ?_, fun z => ?_⟩
    · have z := (nI_ltI (by omega) (by omega)).mp z
      refine next g1 ?_ h4 hfr
      rw [drop_filter_k hkl, if_pos (decide_eq_true z), ← take_drop_k hkl, ← hcur]
      exact hm
    · have z : ¬ a < (aPc l k).1 + (aPc l k).2.length := fun y => z ((nI_ltI (by omega) (by omega)).mpr y)
      refine s_M_pieceAt hb rfl ?_
      simp only [and_assoc, exists_and_left, exists_eq_left, exists_eq_left', Option.some.injEq, Value.int.injEq, Value.ref.injEq, Value.long.injEq, true_and, and_true, exists_eq, exists_true_left, mw_ob, mw_ia0, mw_ia2, mw_ia5, mw_ia6, mw_ia7, mw_ia8, mw_ia9, mw_ia10, mw_ia11, mw_ia15, mw_ia16, mF_0, mF_1, mF_2, mF_3, mF_4, mF_5, mF_6, mF_7, mF_8, mF_9, mF_10, mF_11, mF_12, mF_13, mF_14, mF_15, mF_16, mF_len, mF_s1, mF_s3, mF_s4, mF_s12, mF_s13, mF_s14, mw_uob, mw_u0, mw_u2, mw_u5, mw_u6, mw_u7, mw_u8, mw_u9, mw_u10, mw_u11, mw_u15, mw_u16, Nat.reduceLT, rup_s, rup_rup]
      rw [show b + 38 + 42 * k = b + (38 + 42 * k) by omega]
      have e0 : pgf P b 710 g1 = pgf P b 710 (shf g1 (38 + 42 * k) (38 + 42 * k)) := by
        congr 1
        funext i
        exact (if_neg (by omega)).symm
      rw [e0]
      refine f_shift (l := cur) hb hf hm.1 hcl hm6 ?_ (42 * (cur.length - 1 - k)) (38 + 42 * k) (Nat.le_refl _) (by omega)
      refine b_M_drops_3 ?_
      simp only [and_assoc, exists_and_left, exists_eq_left, exists_eq_left', Option.some.injEq, Value.int.injEq, Value.ref.injEq, Value.long.injEq, true_and, and_true, exists_eq, exists_true_left, mw_ob, mw_ia0, mw_ia2, mw_ia5, mw_ia6, mw_ia7, mw_ia8, mw_ia9, mw_ia10, mw_ia11, mw_ia15, mw_ia16, mF_0, mF_1, mF_2, mF_3, mF_4, mF_5, mF_6, mF_7, mF_8, mF_9, mF_10, mF_11, mF_12, mF_13, mF_14, mF_15, mF_16, mF_len, mF_s1, mF_s3, mF_s4, mF_s12, mF_s13, mF_s14, mw_uob, mw_u0, mw_u2, mw_u5, mw_u6, mw_u7, mw_u8, mw_u9, mw_u10, mw_u11, mw_u15, mw_u16, Nat.reduceLT, rup_s, rup_rup]
      refine f_adds hb (i := 5) rfl (by decide) hf ?_
      simp only [and_assoc, exists_and_left, exists_eq_left, exists_eq_left', Option.some.injEq, Value.int.injEq, Value.ref.injEq, Value.long.injEq, true_and, and_true, exists_eq, exists_true_left, mw_ob, mw_ia0, mw_ia2, mw_ia5, mw_ia6, mw_ia7, mw_ia8, mw_ia9, mw_ia10, mw_ia11, mw_ia15, mw_ia16, mF_0, mF_1, mF_2, mF_3, mF_4, mF_5, mF_6, mF_7, mF_8, mF_9, mF_10, mF_11, mF_12, mF_13, mF_14, mF_15, mF_16, mF_len, mF_s1, mF_s3, mF_s4, mF_s12, mF_s13, mF_s14, mw_uob, mw_u0, mw_u2, mw_u5, mw_u6, mw_u7, mw_u8, mw_u9, mw_u10, mw_u11, mw_u15, mw_u16, Nat.reduceLT, rup_s, rup_rup]
      have h5 : shf g1 (38 + 42 * k) (38 + 42 * (cur.length - 1)) 5 + -1 = nI (cur.length - 1) := by
        rw [show shf g1 (38 + 42 * k) (38 + 42 * (cur.length - 1)) 5 = nI cur.length from (if_neg (by omega)).trans hm.1]
        exact sb_m1 (by omega)
      rw [h5]
      refine next _ ?_ ?_ (fun i hi5 hi => ?_)
      · have hme := MP_erase hm hcl
        have ee : cur.eraseIdx k = l.take k ++ (l.drop k).filter (fun p => decide (a < p.1 + p.2.length)) := by
          rw [drop_filter_k hkl, if_neg (by simpa using Nat.not_lt.mp z), hcur, take_drop_k hkl, List.eraseIdx_append_of_length_le (by rw [List.length_take]; omega), show k - (l.take k).length = 0 by rw [List.length_take]; omega]
          rfl
        rw [ee] at hme
        exact hme
      · exact (if_neg (by decide)).trans ((if_neg (by omega)).trans h4)
      · have := hm6
        exact (if_neg hi5).trans ((if_neg (by omega)).trans (hfr i hi5 hi))
theorem f_drops {a : Nat} (hb : c 12 = nI b) (hf : b + 710 ≤ 22416) (ha : g 4 = nI a) (ha2 : a < 2 ^ 30) (hp : MP g l) (hK : ∀ g', MP g' (aDrop a l) → (∀ i, i ≠ 5 → (i < 38 ∨ 290 ≤ i) → g' i = g i) → K (mw w q c (rup r 0 (pgf P b 710 g'))) none) : zcall n_M_drops [.ref q] (mw w q c (rup r 0 (pgf P b 710 g))) K := by
  refine e_M_drops (b_M_drops_0 ?_)
  simp only [and_assoc, exists_and_left, exists_eq_left, exists_eq_left', Option.some.injEq, Value.int.injEq, Value.ref.injEq, Value.long.injEq, true_and, and_true, exists_eq, exists_true_left, mw_ob, mw_ia0, mw_ia2, mw_ia5, mw_ia6, mw_ia7, mw_ia8, mw_ia9, mw_ia10, mw_ia11, mw_ia15, mw_ia16, mF_0, mF_1, mF_2, mF_3, mF_4, mF_5, mF_6, mF_7, mF_8, mF_9, mF_10, mF_11, mF_12, mF_13, mF_14, mF_15, mF_16, mF_len, mF_s1, mF_s3, mF_s4, mF_s12, mF_s13, mF_s14, mw_uob, mw_u0, mw_u2, mw_u5, mw_u6, mw_u7, mw_u8, mw_u9, mw_u10, mw_u11, mw_u15, mw_u16, Nat.reduceLT, rup_s, rup_rup]
  refine f_of hb (i := 5) rfl (by decide) hf ?_
  simp only [and_assoc, exists_and_left, exists_eq_left, exists_eq_left', Option.some.injEq, Value.int.injEq, Value.ref.injEq, Value.long.injEq, true_and, and_true, exists_eq, exists_true_left, mw_ob, mw_ia0, mw_ia2, mw_ia5, mw_ia6, mw_ia7, mw_ia8, mw_ia9, mw_ia10, mw_ia11, mw_ia15, mw_ia16, mF_0, mF_1, mF_2, mF_3, mF_4, mF_5, mF_6, mF_7, mF_8, mF_9, mF_10, mF_11, mF_12, mF_13, mF_14, mF_15, mF_16, mF_len, mF_s1, mF_s3, mF_s4, mF_s12, mF_s13, mF_s14, mw_uob, mw_u0, mw_u2, mw_u5, mw_u6, mw_u7, mw_u8, mw_u9, mw_u10, mw_u11, mw_u15, mw_u16, Nat.reduceLT, rup_s, rup_rup]
  rw [hp.1]
  exact f_drops_loop hb hf ha2 hp.2.2.1 hK l.length g (Nat.le_refl _) (by simpa using hp) ha (fun _ _ _ => rfl)
end MCov
