/-! THE MODEL: isWord(..), letter(..) -/
def aLetter (wd : Nat → List Nat) (x y : Int32) : Int32 := if ((0 : Int32) ≤ x ∧ x ≤ 5) ∧ (0 : Int32) ≤ y then (if (wd x.toNatClampNeg).length = 0 then -2 else if nI (wd x.toNatClampNeg).length ≤ y then -9 else nI ((wd x.toNatClampNeg).getD y.toNatClampNeg 0)) else -1
theorem s_M_isWord {x : Int32} {w : jx_W} {K : jx_Q} (h1 : (0 : Int32) ≤ x ∧ x ≤ 5 → K w (some (.int 1))) (h0 : ¬ ((0 : Int32) ≤ x ∧ x ≤ 5) → K w (some (.int 0))) : zcall n_M_isWord [.int x] w K := by
  refine e_M_isWord (b_M_isWord_0 (s_M_in (fun a b => ?_) (fun a => ?_)))
  · exact ⟨_, rfl, b11, h1 ⟨a, b⟩⟩
  · exact ⟨_, rfl, b01, h0 a⟩
section MLett
variable {w : jx_W} {q : Nat} {c : Nat → Int32} {r : Nat → Nat → Int32} {K : jx_Q} {P : Nat → Int32} {s : aSt}
theorem f_letter {x y : Int32} (hP : PS P s) (hK : K (mw w q c (rup r 0 P)) (some (.int (aLetter s.1 x y)))) : zcall n_M_letter [.ref q, .int x, .int y] (mw w q c (rup r 0 P)) K := by
  unfold aLetter at hK
  refine e_M_letter (b_M_letter_0 (s_M_isWord (fun a => ?_) (fun a => ?_)))
  · simp only [and_assoc, exists_and_left, exists_eq_left, exists_eq_left', Option.some.injEq, Value.int.injEq, Value.ref.injEq, Value.long.injEq, true_and, and_true, exists_eq, exists_true_left, mw_ob, mw_ia0, mw_ia2, mw_ia5, mw_ia6, mw_ia7, mw_ia8, mw_ia9, mw_ia10, mw_ia11, mw_ia15, mw_ia16, mF_0, mF_1, mF_2, mF_3, mF_4, mF_5, mF_6, mF_7, mF_8, mF_9, mF_10, mF_11, mF_12, mF_13, mF_14, mF_15, mF_16, mF_len, mF_s1, mF_s3, mF_s4, mF_s12, mF_s13, mF_s14, mw_uob, mw_u0, mw_u2, mw_u5, mw_u6, mw_u7, mw_u8, mw_u9, mw_u10, mw_u11, mw_u15, mw_u16, Nat.reduceLT, rup_s, rup_rup]
    refine if0 ⟨fun z => b_M_letter_2 ?_, fun z => b_M_letter_1 ?_⟩
    · rw [if_pos ⟨a, z⟩] at hK
      obtain ⟨v, hv, rfl⟩ := rng_nI (hi := 5) (by decide) a
      rw [nI_clamp (by omega)] at hK
      obtain ⟨w1, w2, w3⟩ := hP.1 v (by omega)
      simp only [and_assoc, exists_and_left, exists_eq_left, exists_eq_left', Option.some.injEq, Value.int.injEq, Value.ref.injEq, Value.long.injEq, true_and, and_true, exists_eq, exists_true_left, mw_ob, mw_ia0, mw_ia2, mw_ia5, mw_ia6, mw_ia7, mw_ia8, mw_ia9, mw_ia10, mw_ia11, mw_ia15, mw_ia16, mF_0, mF_1, mF_2, mF_3, mF_4, mF_5, mF_6, mF_7, mF_8, mF_9, mF_10, mF_11, mF_12, mF_13, mF_14, mF_15, mF_16, mF_len, mF_s1, mF_s3, mF_s4, mF_s12, mF_s13, mF_s14, mw_uob, mw_u0, mw_u2, mw_u5, mw_u6, mw_u7, mw_u8, mw_u9, mw_u10, mw_u11, mw_u15, mw_u16, Nat.reduceLT, rup_s, rup_rup]
      refine s_M_wordLength rfl (by omega) ?_
      simp only [and_assoc, exists_and_left, exists_eq_left, exists_eq_left', Option.some.injEq, Value.int.injEq, Value.ref.injEq, Value.long.injEq, true_and, and_true, exists_eq, exists_true_left, mw_ob, mw_ia0, mw_ia2, mw_ia5, mw_ia6, mw_ia7, mw_ia8, mw_ia9, mw_ia10, mw_ia11, mw_ia15, mw_ia16, mF_0, mF_1, mF_2, mF_3, mF_4, mF_5, mF_6, mF_7, mF_8, mF_9, mF_10, mF_11, mF_12, mF_13, mF_14, mF_15, mF_16, mF_len, mF_s1, mF_s3, mF_s4, mF_s12, mF_s13, mF_s14, mw_uob, mw_u0, mw_u2, mw_u5, mw_u6, mw_u7, mw_u8, mw_u9, mw_u10, mw_u11, mw_u15, mw_u16, Nat.reduceLT, rup_s, rup_rup]
      rw [w1]
      refine ⟨fun u => b_M_letter_3 ?_, fun u => ?_⟩
      · have u : ¬ (s.1 v).length = 0 := fun t => u (by rw [t]; rfl)
        rw [if_neg u] at hK
        simp only [and_assoc, exists_and_left, exists_eq_left, exists_eq_left', Option.some.injEq, Value.int.injEq, Value.ref.injEq, Value.long.injEq, true_and, and_true, exists_eq, exists_true_left, mw_ob, mw_ia0, mw_ia2, mw_ia5, mw_ia6, mw_ia7, mw_ia8, mw_ia9, mw_ia10, mw_ia11, mw_ia15, mw_ia16, mF_0, mF_1, mF_2, mF_3, mF_4, mF_5, mF_6, mF_7, mF_8, mF_9, mF_10, mF_11, mF_12, mF_13, mF_14, mF_15, mF_16, mF_len, mF_s1, mF_s3, mF_s4, mF_s12, mF_s13, mF_s14, mw_uob, mw_u0, mw_u2, mw_u5, mw_u6, mw_u7, mw_u8, mw_u9, mw_u10, mw_u11, mw_u15, mw_u16, Nat.reduceLT, rup_s, rup_rup]
        refine s_M_wordLength rfl (by omega) ?_
        simp only [and_assoc, exists_and_left, exists_eq_left, exists_eq_left', Option.some.injEq, Value.int.injEq, Value.ref.injEq, Value.long.injEq, true_and, and_true, exists_eq, exists_true_left, mw_ob, mw_ia0, mw_ia2, mw_ia5, mw_ia6, mw_ia7, mw_ia8, mw_ia9, mw_ia10, mw_ia11, mw_ia15, mw_ia16, mF_0, mF_1, mF_2, mF_3, mF_4, mF_5, mF_6, mF_7, mF_8, mF_9, mF_10, mF_11, mF_12, mF_13, mF_14, mF_15, mF_16, mF_len, mF_s1, mF_s3, mF_s4, mF_s12, mF_s13, mF_s14, mw_uob, mw_u0, mw_u2, mw_u5, mw_u6, mw_u7, mw_u8, mw_u9, mw_u10, mw_u11, mw_u15, mw_u16, Nat.reduceLT, rup_s, rup_rup]
        rw [w1]
        refine ⟨fun t => b_M_letter_4 (b_M_letter_5 ?_), fun t => ?_⟩
        · rw [if_pos t] at hK
          exact hK
        · rw [if_neg t] at hK
          rcases pk_ix y (n := (s.1 v).length) (by omega) with g1 | g1 | ⟨j, g1, rfl⟩
          · exact absurd g1 (Int32.not_lt.mpr z)
          · exact absurd g1 t
          · rw [nI_clamp (by omega)] at hK
            refine s_M_letterOf (i := v) (j := j) rfl rfl (by omega) (by omega) ?_
            simp only [and_assoc, exists_and_left, exists_eq_left, exists_eq_left', Option.some.injEq, Value.int.injEq, Value.ref.injEq, Value.long.injEq, true_and, and_true, exists_eq, exists_true_left, mw_ob, mw_ia0, mw_ia2, mw_ia5, mw_ia6, mw_ia7, mw_ia8, mw_ia9, mw_ia10, mw_ia11, mw_ia15, mw_ia16, mF_0, mF_1, mF_2, mF_3, mF_4, mF_5, mF_6, mF_7, mF_8, mF_9, mF_10, mF_11, mF_12, mF_13, mF_14, mF_15, mF_16, mF_len, mF_s1, mF_s3, mF_s4, mF_s12, mF_s13, mF_s14, mw_uob, mw_u0, mw_u2, mw_u5, mw_u6, mw_u7, mw_u8, mw_u9, mw_u10, mw_u11, mw_u15, mw_u16, Nat.reduceLT, rup_s, rup_rup]
            rw [w3 j g1]
            exact b_M_letter_5 hK
      · rw [if_pos ((nI_eq (by omega) (b := 0) (by decide)).mp u)] at hK
        exact b_M_letter_5 hK
    · rw [if_neg (fun t => z t.2)] at hK
      exact hK
  · rw [if_neg (fun t => a t.1)] at hK
    simp only [and_assoc, exists_and_left, exists_eq_left, exists_eq_left', Option.some.injEq, Value.int.injEq, Value.ref.injEq, Value.long.injEq, true_and, and_true, exists_eq, exists_true_left, mw_ob, mw_ia0, mw_ia2, mw_ia5, mw_ia6, mw_ia7, mw_ia8, mw_ia9, mw_ia10, mw_ia11, mw_ia15, mw_ia16, mF_0, mF_1, mF_2, mF_3, mF_4, mF_5, mF_6, mF_7, mF_8, mF_9, mF_10, mF_11, mF_12, mF_13, mF_14, mF_15, mF_16, mF_len, mF_s1, mF_s3, mF_s4, mF_s12, mF_s13, mF_s14, mw_uob, mw_u0, mw_u2, mw_u5, mw_u6, mw_u7, mw_u8, mw_u9, mw_u10, mw_u11, mw_u15, mw_u16, Nat.reduceLT, rup_s, rup_rup]
    exact if1 (b_M_letter_1 hK)
end MLett
