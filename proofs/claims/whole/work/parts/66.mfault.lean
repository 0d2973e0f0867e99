/-! THE MODEL: faultOf() -/
def aFau (bs : List Int32) : Nat → Nat → Option Nat
  | 0, _ => none
  | n + 1, i => if i = 8 then some i else if (97 : Int32) ≤ bs.getD i 0 ∧ bs.getD i 0 ≤ 122 then aFau bs n (i + 1) else some i
def aFault (bs : List Int32) : Option Nat := if bs.length = 0 then some 0 else aFau bs bs.length 0
section MFault
variable {w : jx_W} {q : Nat} {c : Nat → Int32} {r : Nat → Nat → Int32} {K : jx_Q} {P : Nat → Int32} {bs : List Int32}
theorem f_fault_loop (hT : MT c r bs) : ∀ (n i : Nat), i + n = bs.length → (aFau bs n i = none → zwp n_M_faultOf 4 [(0, .ref q)] [] 0 0 (mw w q c (rup r 0 P)) K) → (∀ k, aFau bs n i = some k → K (mw w q c (rup r 0 P)) (some (.int (nI k)))) → zwp n_M_faultOf 1 [(0, .ref q), (1, .int (nI i))] [] 0 0 (mw w q c (rup r 0 P)) K := by
  intro n
  have h40 := hT.2.1
  induction n with
  | zero =>
    intro i hi h0 h1
    refine b_M_faultOf_1 ?_
    simp only [and_assoc, exists_and_left, exists_eq_left, exists_eq_left', Option.some.injEq, Value.int.injEq, Value.ref.injEq, Value.long.injEq, true_and, and_true, exists_eq, exists_true_left, mw_ob, mw_ia0, mw_ia2, mw_ia5, mw_ia6, mw_ia7, mw_ia8, mw_ia9, mw_ia10, mw_ia11, mw_ia15, mw_ia16, mF_0, mF_1, mF_2, mF_3, mF_4, mF_5, mF_6, mF_7, mF_8, mF_9, mF_10, mF_11, mF_12, mF_13, mF_14, mF_15, mF_16, mF_len, mF_s1, mF_s3, mF_s4, mF_s12, mF_s13, mF_s14, mw_uob, mw_u0, mw_u2, mw_u5, mw_u6, mw_u7, mw_u8, mw_u9, mw_u10, mw_u11, mw_u15, mw_u16, Nat.reduceLT, rup_s, rup_rup]
    rw [hT.1]
    exact ⟨fun _ => h0 rfl, fun z => absurd ((nI_leI (by omega) (by omega)).mpr (by omega)) z⟩
  | succ n ih =>
    intro i hi h0 h1
    refine b_M_faultOf_1 ?_
    simp only [and_assoc, exists_and_left, exists_eq_left, exists_eq_left', Option.some.injEq, Value.int.injEq, Value.ref.injEq, Value.long.injEq, true_and, and_true, exists_eq, exists_true_left, mw_ob, mw_ia0, mw_ia2, mw_ia5, mw_ia6, mw_ia7, mw_ia8, mw_ia9, mw_ia10, mw_ia11, mw_ia15, mw_ia16, mF_0, mF_1, mF_2, mF_3, mF_4, mF_5, mF_6, mF_7, mF_8, mF_9, mF_10, mF_11, mF_12, mF_13, mF_14, mF_15, mF_16, mF_len, mF_s1, mF_s3, mF_s4, mF_s12, mF_s13, mF_s14, mw_uob, mw_u0, mw_u2, mw_u5, mw_u6, mw_u7, mw_u8, mw_u9, mw_u10, mw_u11, mw_u15, mw_u16, Nat.reduceLT, rup_s, rup_rup]
    rw [hT.1, rup_n (j := 2) (by decide), nI_clamp (by omega), hT.2.2 i (by omega)]
    refine ⟨fun z => absurd ((nI_leI (by omega) (by omega)).mp z) (by omega), fun _ => ⟨fun z => b_M_faultOf_2 ?_, fun z => ⟨vp_in_nI (by omega) (by decide), ?_⟩⟩⟩
    · have z : i = 8 := (nI_eq (by omega) (b := 8) (by decide)).mp z
      exact h1 i (if_pos z)
    · have z : ¬ i = 8 := fun y => z (by rw [y]; rfl)
      have e : aFau bs (n + 1) i = if (97 : Int32) ≤ bs.getD i 0 ∧ bs.getD i 0 ≤ 122 then aFau bs n (i + 1) else some i := if_neg z
      rw [e] at h0 h1
      refine s_M_in (fun a1 a2 => ?_) (fun a => ?_)
      · rw [if_pos ⟨a1, a2⟩] at h0 h1
        simp only [and_assoc, exists_and_left, exists_eq_left, exists_eq_left', Option.some.injEq, Value.int.injEq, Value.ref.injEq, Value.long.injEq, true_and, and_true, exists_eq, exists_true_left, mw_ob, mw_ia0, mw_ia2, mw_ia5, mw_ia6, mw_ia7, mw_ia8, mw_ia9, mw_ia10, mw_ia11, mw_ia15, mw_ia16, mF_0, mF_1, mF_2, mF_3, mF_4, mF_5, mF_6, mF_7, mF_8, mF_9, mF_10, mF_11, mF_12, mF_13, mF_14, mF_15, mF_16, mF_len, mF_s1, mF_s3, mF_s4, mF_s12, mF_s13, mF_s14, mw_uob, mw_u0, mw_u2, mw_u5, mw_u6, mw_u7, mw_u8, mw_u9, mw_u10, mw_u11, mw_u15, mw_u16, Nat.reduceLT, rup_s, rup_rup]
        refine if3 (b_M_faultOf_3 ?_)
        rw [nI_1]
        exact ih (i + 1) (by omega) h0 h1
      · rw [if_neg a] at h0 h1
        simp only [and_assoc, exists_and_left, exists_eq_left, exists_eq_left', Option.some.injEq, Value.int.injEq, Value.ref.injEq, Value.long.injEq, true_and, and_true, exists_eq, exists_true_left, mw_ob, mw_ia0, mw_ia2, mw_ia5, mw_ia6, mw_ia7, mw_ia8, mw_ia9, mw_ia10, mw_ia11, mw_ia15, mw_ia16, mF_0, mF_1, mF_2, mF_3, mF_4, mF_5, mF_6, mF_7, mF_8, mF_9, mF_10, mF_11, mF_12, mF_13, mF_14, mF_15, mF_16, mF_len, mF_s1, mF_s3, mF_s4, mF_s12, mF_s13, mF_s14, mw_uob, mw_u0, mw_u2, mw_u5, mw_u6, mw_u7, mw_u8, mw_u9, mw_u10, mw_u11, mw_u15, mw_u16, Nat.reduceLT, rup_s, rup_rup]
        exact if2 (b_M_faultOf_2 (h1 i rfl))
theorem f_faultOf (hT : MT c r bs) (hK : K (mw w q c (rup r 0 P)) (some (.int (oM (aFault bs))))) : zcall n_M_faultOf [.ref q] (mw w q c (rup r 0 P)) K := by
  have h40 := hT.2.1
  refine e_M_faultOf (b_M_faultOf_0 (f_fault_loop hT bs.length 0 (Nat.zero_add _) (fun h => b_M_faultOf_4 ?_) (fun k h => ?_)))
  · simp only [and_assoc, exists_and_left, exists_eq_left, exists_eq_left', Option.some.injEq, Value.int.injEq, Value.ref.injEq, Value.long.injEq, true_and, and_true, exists_eq, exists_true_left, mw_ob, mw_ia0, mw_ia2, mw_ia5, mw_ia6, mw_ia7, mw_ia8, mw_ia9, mw_ia10, mw_ia11, mw_ia15, mw_ia16, mF_0, mF_1, mF_2, mF_3, mF_4, mF_5, mF_6, mF_7, mF_8, mF_9, mF_10, mF_11, mF_12, mF_13, mF_14, mF_15, mF_16, mF_len, mF_s1, mF_s3, mF_s4, mF_s12, mF_s13, mF_s14, mw_uob, mw_u0, mw_u2, mw_u5, mw_u6, mw_u7, mw_u8, mw_u9, mw_u10, mw_u11, mw_u15, mw_u16, Nat.reduceLT, rup_s, rup_rup]
    rw [hT.1]
    refine ⟨fun z => b_M_faultOf_5 (b_M_faultOf_6 ?_), fun z => b_M_faultOf_6 ?_⟩
    · rw [aFault, if_neg (fun y => z (by rw [y]; rfl)), h] at hK
      exact hK
    · rw [aFault, if_pos ((nI_eq (by omega) (b := 0) (by decide)).mp z)] at hK
      exact hK
  · have hne : ¬ bs.length = 0 := fun y => by rw [y] at h; cases h
    rw [aFault, if_neg hne, h] at hK
    exact hK
end MFault
