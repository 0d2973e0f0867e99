/-! THE MODEL: pages; copies(..), begins(), leaves(..), freeSlot() -/
def cpn (P : Nat → Int32) (i j n : Nat) : Nat → Int32 := fun k => if 3736 * j ≤ k ∧ k < 3736 * j + n then P (3736 * i + (k - 3736 * j)) else P k
def cpB (P : Nat → Int32) (i j : Nat) : Nat → Int32 := cpn P i j 3736
theorem cpn_0 {P : Nat → Int32} {i j : Nat} : cpn P i j 0 = P := by
  funext k
  exact if_neg (by omega)
theorem cpn_step {P : Nat → Int32} {i j n : Nat} : upd (cpn P i j n) (3736 * j + n) (P (3736 * i + n)) = cpn P i j (n + 1) := by
  funext k
  show (if k = 3736 * j + n then P (3736 * i + n) else if 3736 * j ≤ k ∧ k < 3736 * j + n then P (3736 * i + (k - 3736 * j)) else P k) = if 3736 * j ≤ k ∧ k < 3736 * j + (n + 1) then P (3736 * i + (k - 3736 * j)) else P k
  by_cases h1 : k = 3736 * j + n
  · rw [if_pos h1, if_pos (by omega), h1, Nat.add_sub_cancel_left]
  · rw [if_neg h1]
    by_cases h2 : 3736 * j ≤ k ∧ k < 3736 * j + n
    · rw [if_pos h2, if_pos (by omega)]
    · rw [if_neg h2, if_neg (by omega)]
theorem cpn_src {P : Nat → Int32} {i j n : Nat} (h : i ≠ j) (hn : n < 3736) : cpn P i j n (3736 * i + n) = P (3736 * i + n) := if_neg (by omega)
/-- one of the six blocks of the page -/
def blk (P : Nat → Int32) (k : Nat) : Nat → Int32 := fun i => if i < 3736 then P (3736 * k + i) else 0
theorem blk_at {P : Nat → Int32} {k i : Nat} (h : i < 3736) : blk P k i = P (3736 * k + i) := if_pos h
theorem blk_cp {P : Nat → Int32} {i j : Nat} : blk (cpB P i j) j = blk P i := by
  funext k
  unfold blk
  by_cases h : k < 3736
  · rw [if_pos h, if_pos h]
    show (if 3736 * j ≤ 3736 * j + k ∧ 3736 * j + k < 3736 * j + 3736 then P (3736 * i + (3736 * j + k - 3736 * j)) else P (3736 * j + k)) = _
    rw [if_pos (by omega), Nat.add_sub_cancel_left]
  · rw [if_neg h, if_neg h]
theorem blk_cpo {P : Nat → Int32} {i j l : Nat} (hl : l ≠ j) : blk (cpB P i j) l = blk P l := by
  funext k
  unfold blk
  by_cases h : k < 3736
  · rw [if_pos h, if_pos h]
    exact if_neg (by omega)
  · rw [if_neg h, if_neg h]
theorem blk_congr {P P' : Nat → Int32} {k : Nat} (h : ∀ i, 3736 * k ≤ i → i < 3736 * k + 3736 → P' i = P i) : blk P' k = blk P k := by
  funext i
  unfold blk
  by_cases hi : i < 3736
  · rw [if_pos hi, if_pos hi, h _ (by omega) (by omega)]
  · rw [if_neg hi, if_neg hi]
/-- what begins() makes of a page that remembers m -/
def pBeg (P : Nat → Int32) (m : Nat) : Nat → Int32 := if m = 4 then cpB (cpB (cpB (cpB P 2 1) 3 2) 4 3) 0 4 else cpB P 0 (m + 1)
def mBeg (m : Nat) : Nat := if m = 4 then 4 else m + 1
section MPage
variable {w : jx_W} {q : Nat} {c : Nat → Int32} {r : Nat → Nat → Int32} {K : jx_Q} {P : Nat → Int32}
theorem f_copies_loop {i j : Nat} (hi : i < 6) (hj : j < 6) (hne : i ≠ j) (hK : K (mw w q c (rup r 0 (cpB P i j))) none) : ∀ (m n : Nat), n + m = 3736 → zwp n_M_copies 1 [(0, .ref q), (1, .int (nI i)), (2, .int (nI j)), (3, .int (nI n))] [] 0 0 (mw w q c (rup r 0 (cpn P i j n))) K := by
  intro m
  induction m with
  | zero =>
    intro n hn
    refine b_M_copies_1 ⟨fun _ => b_M_copies_2 ?_, fun z => absurd ((nI_leI (a := 3736) (by decide) (by omega)).mpr (by omega)) z⟩
    rw [show n = 3736 by omega]
    exact hK
  | succ m ih =>
    intro n hn
    refine b_M_copies_1 ⟨fun z => absurd ((nI_leI (a := 3736) (by decide) (by omega)).mp z) (by omega), fun _ => ?_⟩
    simp only [and_assoc, exists_and_left, exists_eq_left, exists_eq_left', Option.some.injEq, Value.int.injEq, Value.ref.injEq, Value.long.injEq, true_and, and_true, exists_eq, exists_true_left, mw_ob, mw_ia0, mw_ia2, mw_ia5, mw_ia6, mw_ia7, mw_ia8, mw_ia9, mw_ia10, mw_ia11, mw_ia15, mw_ia16, mF_0, mF_1, mF_2, mF_3, mF_4, mF_5, mF_6, mF_7, mF_8, mF_9, mF_10, mF_11, mF_12, mF_13, mF_14, mF_15, mF_16, mF_len, mF_s1, mF_s3, mF_s4, mF_s12, mF_s13, mF_s14, mw_uob, mw_u0, mw_u2, mw_u5, mw_u6, mw_u7, mw_u8, mw_u9, mw_u10, mw_u11, mw_u15, mw_u16, Nat.reduceLT, rup_s, rup_rup]
    rw [lit_3736, pk_mul, pk_mul, nI_add, nI_add, nI_clamp (by omega), nI_clamp (by omega), cpn_src hne (by omega), cpn_step, nI_1]
    exact ⟨vp_in_nI (by omega) (by decide), vp_in_nI (by omega) (by decide), ih (n + 1) (by omega)⟩
theorem f_copies {x y : Int32} {i j : Nat} (hx : x = nI i) (hy : y = nI j) (hi : i < 6) (hj : j < 6) (hne : i ≠ j) (hK : K (mw w q c (rup r 0 (cpB P i j))) none) : zcall n_M_copies [.ref q, .int x, .int y] (mw w q c (rup r 0 P)) K := by
  subst hx hy
  refine e_M_copies (b_M_copies_0 ?_)
  have h := f_copies_loop (P := P) hi hj hne hK 3736 0 rfl
  rw [cpn_0] at h
  exact h
theorem f_begins {m : Nat} (hm : m ≤ 4) (hc : c 1 = nI m) (hK : K (mw w q (upd c 1 (nI (mBeg m))) (rup r 0 (pBeg P m))) none) : zcall n_M_begins [.ref q] (mw w q c (rup r 0 P)) K := by
  refine e_M_begins (b_M_begins_0 ?_)
  simp only [and_assoc, exists_and_left, exists_eq_left, exists_eq_left', Option.some.injEq, Value.int.injEq, Value.ref.injEq, Value.long.injEq, true_and, and_true, exists_eq, exists_true_left, mw_ob, mw_ia0, mw_ia2, mw_ia5, mw_ia6, mw_ia7, mw_ia8, mw_ia9, mw_ia10, mw_ia11, mw_ia15, mw_ia16, mF_0, mF_1, mF_2, mF_3, mF_4, mF_5, mF_6, mF_7, mF_8, mF_9, mF_10, mF_11, mF_12, mF_13, mF_14, mF_15, mF_16, mF_len, mF_s1, mF_s3, mF_s4, mF_s12, mF_s13, mF_s14, mw_uob, mw_u0, mw_u2, mw_u5, mw_u6, mw_u7, mw_u8, mw_u9, mw_u10, mw_u11, mw_u15, mw_u16, Nat.reduceLT, rup_s, rup_rup]
  rw [hc]
  refine ⟨fun z => ?_, fun z => ?_⟩
  · have z : ¬ m = 4 := fun y => z (by rw [y]; rfl)
    rw [mBeg, pBeg, if_neg z, if_neg z] at hK
    refine b_M_begins_3 ?_
    simp only [and_assoc, exists_and_left, exists_eq_left, exists_eq_left', Option.some.injEq, Value.int.injEq, Value.ref.injEq, Value.long.injEq, true_and, and_true, exists_eq, exists_true_left, mw_ob, mw_ia0, mw_ia2, mw_ia5, mw_ia6, mw_ia7, mw_ia8, mw_ia9, mw_ia10, mw_ia11, mw_ia15, mw_ia16, mF_0, mF_1, mF_2, mF_3, mF_4, mF_5, mF_6, mF_7, mF_8, mF_9, mF_10, mF_11, mF_12, mF_13, mF_14, mF_15, mF_16, mF_len, mF_s1, mF_s3, mF_s4, mF_s12, mF_s13, mF_s14, mw_uob, mw_u0, mw_u2, mw_u5, mw_u6, mw_u7, mw_u8, mw_u9, mw_u10, mw_u11, mw_u15, mw_u16, Nat.reduceLT, rup_s, rup_rup]
    rw [hc, nI_1]
    exact f_copies (i := 0) (j := m + 1) rfl rfl (by decide) (by omega) (by omega) (by simpa using hK)
  · have z : m = 4 := (nI_eq (by omega) (b := 4) (by decide)).mp z
    subst z
    rw [mBeg, pBeg, if_pos rfl, if_pos rfl] at hK
    refine b_M_begins_1 ⟨fun z => absurd z (by decide), fun _ => ?_⟩
    simp only [and_assoc, exists_and_left, exists_eq_left, exists_eq_left', Option.some.injEq, Value.int.injEq, Value.ref.injEq, Value.long.injEq, true_and, and_true, exists_eq, exists_true_left, mw_ob, mw_ia0, mw_ia2, mw_ia5, mw_ia6, mw_ia7, mw_ia8, mw_ia9, mw_ia10, mw_ia11, mw_ia15, mw_ia16, mF_0, mF_1, mF_2, mF_3, mF_4, mF_5, mF_6, mF_7, mF_8, mF_9, mF_10, mF_11, mF_12, mF_13, mF_14, mF_15, mF_16, mF_len, mF_s1, mF_s3, mF_s4, mF_s12, mF_s13, mF_s14, mw_uob, mw_u0, mw_u2, mw_u5, mw_u6, mw_u7, mw_u8, mw_u9, mw_u10, mw_u11, mw_u15, mw_u16, Nat.reduceLT, rup_s, rup_rup]
    refine f_copies (i := 2) (j := 1) (by decide) (by decide) (by decide) (by decide) (by decide) ?_
    simp only [and_assoc, exists_and_left, exists_eq_left, exists_eq_left', Option.some.injEq, Value.int.injEq, Value.ref.injEq, Value.long.injEq, true_and, and_true, exists_eq, exists_true_left, mw_ob, mw_ia0, mw_ia2, mw_ia5, mw_ia6, mw_ia7, mw_ia8, mw_ia9, mw_ia10, mw_ia11, mw_ia15, mw_ia16, mF_0, mF_1, mF_2, mF_3, mF_4, mF_5, mF_6, mF_7, mF_8, mF_9, mF_10, mF_11, mF_12, mF_13, mF_14, mF_15, mF_16, mF_len, mF_s1, mF_s3, mF_s4, mF_s12, mF_s13, mF_s14, mw_uob, mw_u0, mw_u2, mw_u5, mw_u6, mw_u7, mw_u8, mw_u9, mw_u10, mw_u11, mw_u15, mw_u16, Nat.reduceLT, rup_s, rup_rup]
    refine b_M_begins_1 ⟨fun z => absurd z (by decide), fun _ => ?_⟩
    simp only [and_assoc, exists_and_left, exists_eq_left, exists_eq_left', Option.some.injEq, Value.int.injEq, Value.ref.injEq, Value.long.injEq, true_and, and_true, exists_eq, exists_true_left, mw_ob, mw_ia0, mw_ia2, mw_ia5, mw_ia6, mw_ia7, mw_ia8, mw_ia9, mw_ia10, mw_ia11, mw_ia15, mw_ia16, mF_0, mF_1, mF_2, mF_3, mF_4, mF_5, mF_6, mF_7, mF_8, mF_9, mF_10, mF_11, mF_12, mF_13, mF_14, mF_15, mF_16, mF_len, mF_s1, mF_s3, mF_s4, mF_s12, mF_s13, mF_s14, mw_uob, mw_u0, mw_u2, mw_u5, mw_u6, mw_u7, mw_u8, mw_u9, mw_u10, mw_u11, mw_u15, mw_u16, Nat.reduceLT, rup_s, rup_rup]
    refine f_copies (i := 3) (j := 2) (by decide) (by decide) (by decide) (by decide) (by decide) ?_
    simp only [and_assoc, exists_and_left, exists_eq_left, exists_eq_left', Option.some.injEq, Value.int.injEq, Value.ref.injEq, Value.long.injEq, true_and, and_true, exists_eq, exists_true_left, mw_ob, mw_ia0, mw_ia2, mw_ia5, mw_ia6, mw_ia7, mw_ia8, mw_ia9, mw_ia10, mw_ia11, mw_ia15, mw_ia16, mF_0, mF_1, mF_2, mF_3, mF_4, mF_5, mF_6, mF_7, mF_8, mF_9, mF_10, mF_11, mF_12, mF_13, mF_14, mF_15, mF_16, mF_len, mF_s1, mF_s3, mF_s4, mF_s12, mF_s13, mF_s14, mw_uob, mw_u0, mw_u2, mw_u5, mw_u6, mw_u7, mw_u8, mw_u9, mw_u10, mw_u11, mw_u15, mw_u16, Nat.reduceLT, rup_s, rup_rup]
    refine b_M_begins_1 ⟨fun z => absurd z (by decide), fun _ => ?_⟩
    simp only [and_assoc, exists_and_left, exists_eq_left, exists_eq_left', Option.some.injEq, Value.int.injEq, Value.ref.injEq, Value.long.injEq, true_and, and_true, exists_eq, exists_true_left, mw_ob, mw_ia0, mw_ia2, mw_ia5, mw_ia6, mw_ia7, mw_ia8, mw_ia9, mw_ia10, mw_ia11, mw_ia15, mw_ia16, mF_0, mF_1, mF_2, mF_3, mF_4, mF_5, mF_6, mF_7, mF_8, mF_9, mF_10, mF_11, mF_12, mF_13, mF_14, mF_15, mF_16, mF_len, mF_s1, mF_s3, mF_s4, mF_s12, mF_s13, mF_s14, mw_uob, mw_u0, mw_u2, mw_u5, mw_u6, mw_u7, mw_u8, mw_u9, mw_u10, mw_u11, mw_u15, mw_u16, Nat.reduceLT, rup_s, rup_rup]
    refine f_copies (i := 4) (j := 3) (by decide) (by decide) (by decide) (by decide) (by decide) ?_
    simp only [and_assoc, exists_and_left, exists_eq_left, exists_eq_left', Option.some.injEq, Value.int.injEq, Value.ref.injEq, Value.long.injEq, true_and, and_true, exists_eq, exists_true_left, mw_ob, mw_ia0, mw_ia2, mw_ia5, mw_ia6, mw_ia7, mw_ia8, mw_ia9, mw_ia10, mw_ia11, mw_ia15, mw_ia16, mF_0, mF_1, mF_2, mF_3, mF_4, mF_5, mF_6, mF_7, mF_8, mF_9, mF_10, mF_11, mF_12, mF_13, mF_14, mF_15, mF_16, mF_len, mF_s1, mF_s3, mF_s4, mF_s12, mF_s13, mF_s14, mw_uob, mw_u0, mw_u2, mw_u5, mw_u6, mw_u7, mw_u8, mw_u9, mw_u10, mw_u11, mw_u15, mw_u16, Nat.reduceLT, rup_s, rup_rup]
    refine b_M_begins_1 ⟨fun _ => b_M_begins_2 ?_, fun z => absurd (by decide) z⟩
    simp only [and_assoc, exists_and_left, exists_eq_left, exists_eq_left', Option.some.injEq, Value.int.injEq, Value.ref.injEq, Value.long.injEq, true_and, and_true, exists_eq, exists_true_left, mw_ob, mw_ia0, mw_ia2, mw_ia5, mw_ia6, mw_ia7, mw_ia8, mw_ia9, mw_ia10, mw_ia11, mw_ia15, mw_ia16, mF_0, mF_1, mF_2, mF_3, mF_4, mF_5, mF_6, mF_7, mF_8, mF_9, mF_10, mF_11, mF_12, mF_13, mF_14, mF_15, mF_16, mF_len, mF_s1, mF_s3, mF_s4, mF_s12, mF_s13, mF_s14, mw_uob, mw_u0, mw_u2, mw_u5, mw_u6, mw_u7, mw_u8, mw_u9, mw_u10, mw_u11, mw_u15, mw_u16, Nat.reduceLT, rup_s, rup_rup]
    refine b_M_begins_3 ?_
    simp only [and_assoc, exists_and_left, exists_eq_left, exists_eq_left', Option.some.injEq, Value.int.injEq, Value.ref.injEq, Value.long.injEq, true_and, and_true, exists_eq, exists_true_left, mw_ob, mw_ia0, mw_ia2, mw_ia5, mw_ia6, mw_ia7, mw_ia8, mw_ia9, mw_ia10, mw_ia11, mw_ia15, mw_ia16, mF_0, mF_1, mF_2, mF_3, mF_4, mF_5, mF_6, mF_7, mF_8, mF_9, mF_10, mF_11, mF_12, mF_13, mF_14, mF_15, mF_16, mF_len, mF_s1, mF_s3, mF_s4, mF_s12, mF_s13, mF_s14, mw_uob, mw_u0, mw_u2, mw_u5, mw_u6, mw_u7, mw_u8, mw_u9, mw_u10, mw_u11, mw_u15, mw_u16, Nat.reduceLT, rup_s, rup_rup]
    rw [hc, upd_upd, show upd c 1 (nI 4 - 1) 1 + 1 = nI 4 from (by show (nI 4 - 1 + 1 : Int32) = nI 4; decide)]
    exact f_copies (i := 0) (j := 4) (by decide) rfl (by decide) (by decide) (by decide) (by simpa using hK)
end MPage
