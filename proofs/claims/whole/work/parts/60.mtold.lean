/-! THE MODEL: find(..), definedSet(), told(..) -/
def aFind (fh : List aFd) (x y : Int32) : Int32 := if ¬ x < 0 ∧ ((0 : Int32) ≤ y ∧ y ≤ 3) then (if nI (min 30 fh.length) ≤ x then -9 else fdc (fdAt fh x.toNatClampNeg) y.toNatClampNeg) else -1
def aDef (wd : Nat → List Nat) : Nat → Nat
  | 0 => 0
  | n + 1 => aDef wd n ||| (if (wd n).length = 0 then 0 else 2 ^ n)
def aToldN (A : aAU) (s : aSt) (past : List aSt) (bs : List Int32) : Nat → Int32
  | 0 => nI (aDef s.1 6)
  | 1 => nI A.1
  | 2 => nI s.2.1.1
  | 3 => nI s.2.1.2.1
  | 4 => nI s.2.1.2.2
  | 5 => nI s.2.2.2.1.length
  | 6 => nI (min 30 s.2.2.1.length)
  | 7 => nI (fdS s.2.2.1)
  | 8 => nI (fdD s.2.2.1)
  | 9 => nI s.2.2.2.2
  | 10 => nI past.length
  | 11 => nI bs.length
  | _ => -1
def aTold (A : aAU) (s : aSt) (past : List aSt) (bs : List Int32) (x : Int32) : Int32 := if ¬ x < 0 ∧ ¬ (12 : Int32) ≤ x then aToldN A s past bs x.toNatClampNeg else -1
section MTold
variable {w : jx_W} {q : Nat} {c : Nat → Int32} {r : Nat → Nat → Int32} {K : jx_Q} {P : Nat → Int32} {A : aAU} {s : aSt} {past : List aSt} {bs : List Int32}
theorem f_find {x y : Int32} (hP : PS P s) (hK : K (mw w q c (rup r 0 P)) (some (.int (aFind s.2.2.1 x y)))) : zcall n_M_find [.ref q, .int x, .int y] (mw w q c (rup r 0 P)) K := by
  obtain ⟨m1, m2, m3, m4⟩ := hP.2.2.1
  have h30 : min 30 s.2.2.1.length ≤ 30 := Nat.min_le_left _ _
  unfold aFind at hK
  refine e_M_find (b_M_find_0 ⟨fun z => b_M_find_1 ?_, fun z => s_M_in (fun a1 a2 => ?_) (fun a => ?_)⟩)
  · rw [if_neg (fun h => h.1 z)] at hK
    exact hK
  · rw [if_pos ⟨z, a1, a2⟩] at hK
    obtain ⟨j, hj, rfl⟩ := rng_nI (hi := 3) (by decide) ⟨a1, a2⟩
    simp only [and_assoc, exists_and_left, exists_eq_left, exists_eq_left', Option.some.injEq, Value.int.injEq, Value.ref.injEq, Value.long.injEq, true_and, and_true, exists_eq, exists_true_left, mw_ob, mw_ia0, mw_ia2, mw_ia5, mw_ia6, mw_ia7, mw_ia8, mw_ia9, mw_ia10, mw_ia11, mw_ia15, mw_ia16, mF_0, mF_1, mF_2, mF_3, mF_4, mF_5, mF_6, mF_7, mF_8, mF_9, mF_10, mF_11, mF_12, mF_13, mF_14, mF_15, mF_16, mF_len, mF_s1, mF_s3, mF_s4, mF_s12, mF_s13, mF_s14, mw_uob, mw_u0, mw_u2, mw_u5, mw_u6, mw_u7, mw_u8, mw_u9, mw_u10, mw_u11, mw_u15, mw_u16, Nat.reduceLT, rup_s, rup_rup]
    refine if3 (b_M_find_2 ?_)
    simp only [and_assoc, exists_and_left, exists_eq_left, exists_eq_left', Option.some.injEq, Value.int.injEq, Value.ref.injEq, Value.long.injEq, true_and, and_true, exists_eq, exists_true_left, mw_ob, mw_ia0, mw_ia2, mw_ia5, mw_ia6, mw_ia7, mw_ia8, mw_ia9, mw_ia10, mw_ia11, mw_ia15, mw_ia16, mF_0, mF_1, mF_2, mF_3, mF_4, mF_5, mF_6, mF_7, mF_8, mF_9, mF_10, mF_11, mF_12, mF_13, mF_14, mF_15, mF_16, mF_len, mF_s1, mF_s3, mF_s4, mF_s12, mF_s13, mF_s14, mw_uob, mw_u0, mw_u2, mw_u5, mw_u6, mw_u7, mw_u8, mw_u9, mw_u10, mw_u11, mw_u15, mw_u16, Nat.reduceLT, rup_s, rup_rup]
    rw [show P (62 : Int32).toNatClampNeg = nI (min 30 s.2.2.1.length) from m1]
    refine ⟨vp_in_nI (n := 62) (by decide) (by decide), fun y => b_M_find_3 (b_M_find_4 ?_), fun y => ?_⟩
    · rw [if_pos y] at hK
      exact hK
    · rw [if_neg y] at hK
      rcases pk_ix x (n := min 30 s.2.2.1.length) (by omega) with h1 | h1 | ⟨i, h1, rfl⟩
      · exact absurd h1 z
      · exact absurd h1 y
      · rw [nI_clamp (by omega), nI_clamp (by omega)] at hK
        rw [lit_1, pk_sub (by omega), pk_sub (by omega), lit_4, pk_mul, lit_66, nI_add, nI_add, nI_clamp (by omega), m4 i j h1 (by omega)]
        exact ⟨vp_in_nI (n := 62) (by decide) (by decide), vp_in_nI (by omega) (by decide), b_M_find_4 hK⟩
  · rw [if_neg (fun h => a h.2)] at hK
    simp only [and_assoc, exists_and_left, exists_eq_left, exists_eq_left', Option.some.injEq, Value.int.injEq, Value.ref.injEq, Value.long.injEq, true_and, and_true, exists_eq, exists_true_left, mw_ob, mw_ia0, mw_ia2, mw_ia5, mw_ia6, mw_ia7, mw_ia8, mw_ia9, mw_ia10, mw_ia11, mw_ia15, mw_ia16, mF_0, mF_1, mF_2, mF_3, mF_4, mF_5, mF_6, mF_7, mF_8, mF_9, mF_10, mF_11, mF_12, mF_13, mF_14, mF_15, mF_16, mF_len, mF_s1, mF_s3, mF_s4, mF_s12, mF_s13, mF_s14, mw_uob, mw_u0, mw_u2, mw_u5, mw_u6, mw_u7, mw_u8, mw_u9, mw_u10, mw_u11, mw_u15, mw_u16, Nat.reduceLT, rup_s, rup_rup]
    exact if2 (b_M_find_1 hK)
theorem f_def_loop (hW : PSw P s.1) (hK : K (mw w q c (rup r 0 P)) (some (.int (nI (aDef s.1 6))))) : ∀ (m i : Nat), i + m = 6 → zwp n_M_definedSet 1 [(0, .ref q), (1, .int (nI (aDef s.1 i))), (2, .int (nI i))] [] 0 0 (mw w q c (rup r 0 P)) K := by
  intro m
  induction m with
  | zero =>
    intro i hi
    obtain rfl : i = 6 := by omega
    exact b_M_definedSet_1 ⟨fun _ => b_M_definedSet_4 hK, fun z => absurd (by decide) z⟩
  | succ m ih =>
    intro i hi
    obtain ⟨w1, w2, -⟩ := hW i (by omega)
    refine b_M_definedSet_1 ⟨fun z => absurd ((nI_leI (a := 6) (by decide) (by omega)).mp z) (by omega), fun _ => ?_⟩
    simp only [and_assoc, exists_and_left, exists_eq_left, exists_eq_left', Option.some.injEq, Value.int.injEq, Value.ref.injEq, Value.long.injEq, true_and, and_true, exists_eq, exists_true_left, mw_ob, mw_ia0, mw_ia2, mw_ia5, mw_ia6, mw_ia7, mw_ia8, mw_ia9, mw_ia10, mw_ia11, mw_ia15, mw_ia16, mF_0, mF_1, mF_2, mF_3, mF_4, mF_5, mF_6, mF_7, mF_8, mF_9, mF_10, mF_11, mF_12, mF_13, mF_14, mF_15, mF_16, mF_len, mF_s1, mF_s3, mF_s4, mF_s12, mF_s13, mF_s14, mw_uob, mw_u0, mw_u2, mw_u5, mw_u6, mw_u7, mw_u8, mw_u9, mw_u10, mw_u11, mw_u15, mw_u16, Nat.reduceLT, rup_s, rup_rup]
    refine s_M_wordLength rfl (by omega) ?_
    simp only [and_assoc, exists_and_left, exists_eq_left, exists_eq_left', Option.some.injEq, Value.int.injEq, Value.ref.injEq, Value.long.injEq, true_and, and_true, exists_eq, exists_true_left, mw_ob, mw_ia0, mw_ia2, mw_ia5, mw_ia6, mw_ia7, mw_ia8, mw_ia9, mw_ia10, mw_ia11, mw_ia15, mw_ia16, mF_0, mF_1, mF_2, mF_3, mF_4, mF_5, mF_6, mF_7, mF_8, mF_9, mF_10, mF_11, mF_12, mF_13, mF_14, mF_15, mF_16, mF_len, mF_s1, mF_s3, mF_s4, mF_s12, mF_s13, mF_s14, mw_uob, mw_u0, mw_u2, mw_u5, mw_u6, mw_u7, mw_u8, mw_u9, mw_u10, mw_u11, mw_u15, mw_u16, Nat.reduceLT, rup_s, rup_rup]
    rw [w1]
    refine ⟨fun z => b_M_definedSet_2 (b_M_definedSet_3 ?_), fun z => b_M_definedSet_3 ?_⟩
    · have z := (nI_leI (b := 0) (by omega) (by decide)).mp z
      have e : aDef s.1 (i + 1) = aDef s.1 i ||| 0 := by
        show aDef s.1 i ||| (if (s.1 i).length = 0 then 0 else 2 ^ i) = _
        rw [if_pos (by omega)]
      rw [lit_0, nI_or, nI_1, ← e]
      exact ih (i + 1) (by omega)
    · have z : ¬ (s.1 i).length ≤ 0 := fun y => z ((nI_leI (b := 0) (by omega) (by decide)).mpr y)
      have e : aDef s.1 (i + 1) = aDef s.1 i ||| 2 ^ i := by
        show aDef s.1 i ||| (if (s.1 i).length = 0 then 0 else 2 ^ i) = _
        rw [if_neg (by omega)]
      rw [nI_pow i (by omega), nI_or, nI_1, ← e]
      exact ih (i + 1) (by omega)
theorem f_told {x : Int32} (hI : MI c r P A s past bs) (hK : K (mw w q c (rup r 0 P)) (some (.int (aTold A s past bs x)))) : zcall n_M_told [.ref q, .int x] (mw w q c (rup r 0 P)) K := by
  obtain ⟨⟨k1, ⟨k2, k3, k4⟩, ⟨m1, m2, m3, -⟩, ⟨sl, k6, k7⟩, k8⟩, h2, h3, h4, h5, h6⟩ := id hI
  have hl : sl.length = s.2.2.2.1.length := k7.1
  have h57 : P 57 = nI s.2.2.2.1.length := by rw [← hl]; exact k6.1
  unfold aTold at hK
  refine e_M_told (b_M_told_0 ?_)
  rcases pk_ix x (n := 12) (by decide) with h1 | h1 | ⟨j, h1, rfl⟩
  · have ht : x.toInt < 0 := Int32.lt_iff_toInt_lt.mp h1
    rw [if_neg (fun z => z.1 h1)] at hK
    exact ⟨fun z => absurd z (by omega), fun z => absurd z (by omega), fun z => absurd z (by omega), fun z => absurd z (by omega), fun z => absurd z (by omega), fun z => absurd z (by omega), fun z => absurd z (by omega), fun z => absurd z (by omega), fun z => absurd z (by omega), fun z => absurd z (by omega), fun z => absurd z (by omega), fun z => absurd z (by omega), fun _ => b_M_told_11 hK⟩
  · have ht : (12 : Int) ≤ x.toInt := Int32.le_iff_toInt_le.mp h1
    rw [if_neg (fun z => z.2 h1)] at hK
    exact ⟨fun z => absurd z (by omega), fun z => absurd z (by omega), fun z => absurd z (by omega), fun z => absurd z (by omega), fun z => absurd z (by omega), fun z => absurd z (by omega), fun z => absurd z (by omega), fun z => absurd z (by omega), fun z => absurd z (by omega), fun z => absurd z (by omega), fun z => absurd z (by omega), fun z => absurd z (by omega), fun _ => b_M_told_11 hK⟩
  · have hc : ¬ nI j < 0 ∧ ¬ (12 : Int32) ≤ nI j := ⟨fun z => absurd ((nI_ltI (b := 0) (by omega) (by decide)).mp z) (by omega), fun z => absurd ((nI_leI (a := 12) (by decide) (by omega)).mp z) (by omega)⟩
    rw [if_pos hc, nI_clamp (by omega)] at hK
    have et : (nI j).toInt = (j : Int) := nI_toInt (by omega)
    rw [et]
    have set3 : j = 2 ∨ j = 3 ∨ j = 4 → zwp n_M_told 3 [(0, .ref q), (1, .int (nI j))] [] 0 0 (mw w q c (rup r 0 P)) K := fun hj => by
      have ev : P (52 + j) = aToldN A s past bs j := by
        obtain rfl | rfl | rfl := hj
        · exact k2
        · exact k3
        · exact k4
      refine b_M_told_3 ?_
      simp only [and_assoc, exists_and_left, exists_eq_left, exists_eq_left', Option.some.injEq, Value.int.injEq, Value.ref.injEq, Value.long.injEq, true_and, and_true, exists_eq, exists_true_left, mw_ob, mw_ia0, mw_ia2, mw_ia5, mw_ia6, mw_ia7, mw_ia8, mw_ia9, mw_ia10, mw_ia11, mw_ia15, mw_ia16, mF_0, mF_1, mF_2, mF_3, mF_4, mF_5, mF_6, mF_7, mF_8, mF_9, mF_10, mF_11, mF_12, mF_13, mF_14, mF_15, mF_16, mF_len, mF_s1, mF_s3, mF_s4, mF_s12, mF_s13, mF_s14, mw_uob, mw_u0, mw_u2, mw_u5, mw_u6, mw_u7, mw_u8, mw_u9, mw_u10, mw_u11, mw_u15, mw_u16, Nat.reduceLT, rup_s, rup_rup]
      rw [lit_54, lit_2, nI_add, pk_sub (by omega), show 54 + j - 2 = 52 + j by omega, nI_clamp (by omega), ev]
      exact ⟨vp_in_nI (by omega) (by decide), hK⟩
    refine ⟨fun z => ?_, fun z => ?_, fun z => set3 (by omega), fun z => set3 (by omega), fun z => set3 (by omega), fun z => ?_, fun z => ?_, fun z => ?_, fun z => ?_, fun z => ?_, fun z => ?_, fun z => ?_, fun z => absurd z (by omega)⟩
    · obtain rfl : j = 0 := by omega
      refine b_M_told_1 ?_
      simp only [and_assoc, exists_and_left, exists_eq_left, exists_eq_left', Option.some.injEq, Value.int.injEq, Value.ref.injEq, Value.long.injEq, true_and, and_true, exists_eq, exists_true_left, mw_ob, mw_ia0, mw_ia2, mw_ia5, mw_ia6, mw_ia7, mw_ia8, mw_ia9, mw_ia10, mw_ia11, mw_ia15, mw_ia16, mF_0, mF_1, mF_2, mF_3, mF_4, mF_5, mF_6, mF_7, mF_8, mF_9, mF_10, mF_11, mF_12, mF_13, mF_14, mF_15, mF_16, mF_len, mF_s1, mF_s3, mF_s4, mF_s12, mF_s13, mF_s14, mw_uob, mw_u0, mw_u2, mw_u5, mw_u6, mw_u7, mw_u8, mw_u9, mw_u10, mw_u11, mw_u15, mw_u16, Nat.reduceLT, rup_s, rup_rup]
      exact e_M_definedSet (b_M_definedSet_0 (f_def_loop k1 (by simpa [aToldN] using hK) 6 0 rfl))
    · obtain rfl : j = 1 := by omega
      refine b_M_told_2 ?_
      simp only [and_assoc, exists_and_left, exists_eq_left, exists_eq_left', Option.some.injEq, Value.int.injEq, Value.ref.injEq, Value.long.injEq, true_and, and_true, exists_eq, exists_true_left, mw_ob, mw_ia0, mw_ia2, mw_ia5, mw_ia6, mw_ia7, mw_ia8, mw_ia9, mw_ia10, mw_ia11, mw_ia15, mw_ia16, mF_0, mF_1, mF_2, mF_3, mF_4, mF_5, mF_6, mF_7, mF_8, mF_9, mF_10, mF_11, mF_12, mF_13, mF_14, mF_15, mF_16, mF_len, mF_s1, mF_s3, mF_s4, mF_s12, mF_s13, mF_s14, mw_uob, mw_u0, mw_u2, mw_u5, mw_u6, mw_u7, mw_u8, mw_u9, mw_u10, mw_u11, mw_u15, mw_u16, Nat.reduceLT, rup_s, rup_rup]
      rw [h5.1]
      exact hK
    · obtain rfl : j = 5 := by omega
      refine b_M_told_4 ?_
      simp only [and_assoc, exists_and_left, exists_eq_left, exists_eq_left', Option.some.injEq, Value.int.injEq, Value.ref.injEq, Value.long.injEq, true_and, and_true, exists_eq, exists_true_left, mw_ob, mw_ia0, mw_ia2, mw_ia5, mw_ia6, mw_ia7, mw_ia8, mw_ia9, mw_ia10, mw_ia11, mw_ia15, mw_ia16, mF_0, mF_1, mF_2, mF_3, mF_4, mF_5, mF_6, mF_7, mF_8, mF_9, mF_10, mF_11, mF_12, mF_13, mF_14, mF_15, mF_16, mF_len, mF_s1, mF_s3, mF_s4, mF_s12, mF_s13, mF_s14, mw_uob, mw_u0, mw_u2, mw_u5, mw_u6, mw_u7, mw_u8, mw_u9, mw_u10, mw_u11, mw_u15, mw_u16, Nat.reduceLT, rup_s, rup_rup]
      rw [show P (57 : Int32).toNatClampNeg = nI s.2.2.2.1.length from h57]
      exact ⟨vp_in_nI (n := 57) (by decide) (by decide), hK⟩
    · obtain rfl : j = 6 := by omega
      refine b_M_told_5 ?_
      simp only [and_assoc, exists_and_left, exists_eq_left, exists_eq_left', Option.some.injEq, Value.int.injEq, Value.ref.injEq, Value.long.injEq, true_and, and_true, exists_eq, exists_true_left, mw_ob, mw_ia0, mw_ia2, mw_ia5, mw_ia6, mw_ia7, mw_ia8, mw_ia9, mw_ia10, mw_ia11, mw_ia15, mw_ia16, mF_0, mF_1, mF_2, mF_3, mF_4, mF_5, mF_6, mF_7, mF_8, mF_9, mF_10, mF_11, mF_12, mF_13, mF_14, mF_15, mF_16, mF_len, mF_s1, mF_s3, mF_s4, mF_s12, mF_s13, mF_s14, mw_uob, mw_u0, mw_u2, mw_u5, mw_u6, mw_u7, mw_u8, mw_u9, mw_u10, mw_u11, mw_u15, mw_u16, Nat.reduceLT, rup_s, rup_rup]
      rw [show P (62 : Int32).toNatClampNeg = _ from m1]
      exact ⟨vp_in_nI (n := 62) (by decide) (by decide), hK⟩
    · obtain rfl : j = 7 := by omega
      refine b_M_told_6 ?_
      simp only [and_assoc, exists_and_left, exists_eq_left, exists_eq_left', Option.some.injEq, Value.int.injEq, Value.ref.injEq, Value.long.injEq, true_and, and_true, exists_eq, exists_true_left, mw_ob, mw_ia0, mw_ia2, mw_ia5, mw_ia6, mw_ia7, mw_ia8, mw_ia9, mw_ia10, mw_ia11, mw_ia15, mw_ia16, mF_0, mF_1, mF_2, mF_3, mF_4, mF_5, mF_6, mF_7, mF_8, mF_9, mF_10, mF_11, mF_12, mF_13, mF_14, mF_15, mF_16, mF_len, mF_s1, mF_s3, mF_s4, mF_s12, mF_s13, mF_s14, mw_uob, mw_u0, mw_u2, mw_u5, mw_u6, mw_u7, mw_u8, mw_u9, mw_u10, mw_u11, mw_u15, mw_u16, Nat.reduceLT, rup_s, rup_rup]
      rw [show P (63 : Int32).toNatClampNeg = _ from m2]
      exact ⟨vp_in_nI (n := 63) (by decide) (by decide), hK⟩
    · obtain rfl : j = 8 := by omega
      refine b_M_told_7 ?_
      simp only [and_assoc, exists_and_left, exists_eq_left, exists_eq_left', Option.some.injEq, Value.int.injEq, Value.ref.injEq, Value.long.injEq, true_and, and_true, exists_eq, exists_true_left, mw_ob, mw_ia0, mw_ia2, mw_ia5, mw_ia6, mw_ia7, mw_ia8, mw_ia9, mw_ia10, mw_ia11, mw_ia15, mw_ia16, mF_0, mF_1, mF_2, mF_3, mF_4, mF_5, mF_6, mF_7, mF_8, mF_9, mF_10, mF_11, mF_12, mF_13, mF_14, mF_15, mF_16, mF_len, mF_s1, mF_s3, mF_s4, mF_s12, mF_s13, mF_s14, mw_uob, mw_u0, mw_u2, mw_u5, mw_u6, mw_u7, mw_u8, mw_u9, mw_u10, mw_u11, mw_u15, mw_u16, Nat.reduceLT, rup_s, rup_rup]
      rw [show P (64 : Int32).toNatClampNeg = _ from m3]
      exact ⟨vp_in_nI (n := 64) (by decide) (by decide), hK⟩
    · obtain rfl : j = 9 := by omega
      refine b_M_told_8 ?_
      simp only [and_assoc, exists_and_left, exists_eq_left, exists_eq_left', Option.some.injEq, Value.int.injEq, Value.ref.injEq, Value.long.injEq, true_and, and_true, exists_eq, exists_true_left, mw_ob, mw_ia0, mw_ia2, mw_ia5, mw_ia6, mw_ia7, mw_ia8, mw_ia9, mw_ia10, mw_ia11, mw_ia15, mw_ia16, mF_0, mF_1, mF_2, mF_3, mF_4, mF_5, mF_6, mF_7, mF_8, mF_9, mF_10, mF_11, mF_12, mF_13, mF_14, mF_15, mF_16, mF_len, mF_s1, mF_s3, mF_s4, mF_s12, mF_s13, mF_s14, mw_uob, mw_u0, mw_u2, mw_u5, mw_u6, mw_u7, mw_u8, mw_u9, mw_u10, mw_u11, mw_u15, mw_u16, Nat.reduceLT, rup_s, rup_rup]
      rw [show P (65 : Int32).toNatClampNeg = _ from k8]
      exact ⟨vp_in_nI (n := 65) (by decide) (by decide), hK⟩
    · obtain rfl : j = 10 := by omega
      refine b_M_told_9 ?_
      simp only [and_assoc, exists_and_left, exists_eq_left, exists_eq_left', Option.some.injEq, Value.int.injEq, Value.ref.injEq, Value.long.injEq, true_and, and_true, exists_eq, exists_true_left, mw_ob, mw_ia0, mw_ia2, mw_ia5, mw_ia6, mw_ia7, mw_ia8, mw_ia9, mw_ia10, mw_ia11, mw_ia15, mw_ia16, mF_0, mF_1, mF_2, mF_3, mF_4, mF_5, mF_6, mF_7, mF_8, mF_9, mF_10, mF_11, mF_12, mF_13, mF_14, mF_15, mF_16, mF_len, mF_s1, mF_s3, mF_s4, mF_s12, mF_s13, mF_s14, mw_uob, mw_u0, mw_u2, mw_u5, mw_u6, mw_u7, mw_u8, mw_u9, mw_u10, mw_u11, mw_u15, mw_u16, Nat.reduceLT, rup_s, rup_rup]
      rw [h3]
      exact hK
    · obtain rfl : j = 11 := by omega
      refine b_M_told_10 ?_
      simp only [and_assoc, exists_and_left, exists_eq_left, exists_eq_left', Option.some.injEq, Value.int.injEq, Value.ref.injEq, Value.long.injEq, true_and, and_true, exists_eq, exists_true_left, mw_ob, mw_ia0, mw_ia2, mw_ia5, mw_ia6, mw_ia7, mw_ia8, mw_ia9, mw_ia10, mw_ia11, mw_ia15, mw_ia16, mF_0, mF_1, mF_2, mF_3, mF_4, mF_5, mF_6, mF_7, mF_8, mF_9, mF_10, mF_11, mF_12, mF_13, mF_14, mF_15, mF_16, mF_len, mF_s1, mF_s3, mF_s4, mF_s12, mF_s13, mF_s14, mw_uob, mw_u0, mw_u2, mw_u5, mw_u6, mw_u7, mw_u8, mw_u9, mw_u10, mw_u11, mw_u15, mw_u16, Nat.reduceLT, rup_s, rup_rup]
      rw [h4.1]
      exact hK
end MTold
