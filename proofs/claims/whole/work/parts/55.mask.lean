/-! THE MODEL: what is remembered; wrong(..), segment(..), asked(..), finish(..) -/
def pGet (l : List aSt) (i : Nat) : aSt := l.getD i ((fun _ => []), (0, 0, 0), [], [], 0)
def PST (P : Nat → Int32) (past : List aSt) : Prop := past.length ≤ 4 ∧ ∀ k, k < past.length → PS (blk P (k + 1)) (pGet past k)
def aPast (past : List aSt) (s : aSt) : List aSt := (if past.length = 4 then past.drop 1 else past) ++ [s]
theorem PST_fr {P P' : Nat → Int32} {past : List aSt} (h : PST P past) (e : ∀ i, 3736 ≤ i → P' i = P i) : PST P' past := ⟨h.1, fun k hk => by
  rw [blk_congr (P := P) (P' := P') (k := k + 1) (fun i h1 _ => e i (by omega))]
  exact h.2 k hk⟩
theorem PS_blk0 {P : Nat → Int32} {s : aSt} (h : PS P s) : PS (blk P 0) s := PS_congr h (fun i hi => (blk_at (by omega)).trans (by rw [Nat.mul_zero, Nat.zero_add]))
theorem PS_of0 {P : Nat → Int32} {s : aSt} (h : PS (blk P 0) s) : PS P s := PS_congr h (fun i hi => ((blk_at (by omega)).trans (by rw [Nat.mul_zero, Nat.zero_add])).symm)
theorem aPast_len {past : List aSt} {s : aSt} (h : past.length ≤ 4) : (aPast past s).length = mBeg past.length := by
  unfold aPast mBeg
  rw [List.length_append]
  split
  · rename_i e
    rw [List.length_drop, e]; rfl
  · rfl
theorem pBeg_0 {P : Nat → Int32} {m : Nat} : blk (pBeg P m) 0 = blk P 0 := by
  unfold pBeg
  split
  · rw [blk_cpo (by decide), blk_cpo (by decide), blk_cpo (by decide), blk_cpo (by decide)]
  · rw [blk_cpo (by omega)]
theorem PST_beg {P : Nat → Int32} {past : List aSt} {s : aSt} (h : PST P past) (hs : PS P s) : PST (pBeg P past.length) (aPast past s) := by
  obtain ⟨h1, h2⟩ := h
  have hl := aPast_len (s := s) h1
  by_cases h4 : past.length = 4
  · match past, h4 with
    | [a, b, c, d], _ =>
      refine ⟨by rw [hl]; exact (show 4 ≤ 4 by decide), fun k hk => ?_⟩
      rw [hl] at hk
      have hk : k < 4 := hk
      show PS (blk (cpB (cpB (cpB (cpB P 2 1) 3 2) 4 3) 0 4) (k + 1)) (pGet [b, c, d, s] k)
      obtain rfl | rfl | rfl | rfl : k = 0 ∨ k = 1 ∨ k = 2 ∨ k = 3 := by omega
      · rw [blk_cpo (by decide), blk_cpo (by decide), blk_cpo (by decide), blk_cp]
        exact h2 1 (show 1 < 4 by decide)
      · rw [blk_cpo (by decide), blk_cpo (by decide), blk_cp, blk_cpo (by decide)]
        exact h2 2 (show 2 < 4 by decide)
      · rw [blk_cpo (by decide), blk_cp, blk_cpo (by decide), blk_cpo (by decide)]
        exact h2 3 (show 3 < 4 by decide)
      · rw [blk_cp, blk_cpo (by decide), blk_cpo (by decide), blk_cpo (by decide)]
        exact PS_blk0 hs
  · have e1 : aPast past s = past ++ [s] := by unfold aPast; rw [if_neg h4]
    have e2 : pBeg P past.length = cpB P 0 (past.length + 1) := if_neg h4
    rw [e1, e2]
    have hl : (past ++ [s]).length = past.length + 1 := by rw [List.length_append]; rfl
    refine ⟨by omega, fun k hk => ?_⟩
    by_cases hkl : k < past.length
    · have : pGet (past ++ [s]) k = pGet past k := by
        unfold pGet
        rw [List.getD_eq_getElem?_getD, List.getD_eq_getElem?_getD, List.getElem?_append_left hkl]
      rw [this, blk_cpo (by omega)]
      exact h2 k hkl
    · obtain rfl : k = past.length := by omega
      have : pGet (past ++ [s]) past.length = s := by
        unfold pGet
        rw [List.getD_eq_getElem?_getD, List.getElem?_append_right (Nat.le_refl _), Nat.sub_self]
        rfl
      rw [this, blk_cp]
      exact PS_blk0 hs
def bsOk (bs : List Int32) : Prop := ∀ b ∈ bs, ∃ n : Nat, b = nI n ∧ 32 ≤ n ∧ n ≤ 126
/-- the model as a whole: the page P, the state s, what is remembered, what is typed -/
def MI (c : Nat → Int32) (r : Nat → Nat → Int32) (P : Nat → Int32) (A : aAU) (s : aSt) (past : List aSt) (bs : List Int32) : Prop := PS P s ∧ PST P past ∧ c 1 = nI past.length ∧ MT c r bs ∧ MA c r A ∧ ∃ f0, c 14 = nI f0
def aWrong (s : aSt) (bs : List Int32) (key off : Int32) : Int32 := if ((0 : Int32) ≤ key ∧ key ≤ 99) ∧ ((0 : Int32) ≤ off ∧ off ≤ 999) then (if bs.length = 0 then -2 else match aPlace s.2.2.2.1 key with
  | some i => if (fGet s.2.2.2.1 i).2.1.2.2.1.length = 6 then -3 else 0
  | none => 0) else -1
def aAsked (l : List aFlow) (key : Int32) : Int32 := if (0 : Int32) ≤ key ∧ key ≤ 99 then (match aPlace l key with
  | some i => nI i
  | none => -2) else -1
theorem aAsked_cs {l : List aFlow} {key : Int32} (h4 : l.length ≤ 4) : (∃ i, i < l.length ∧ aPlace l key = some i ∧ aAsked l key = nI i) ∨ ¬ (0 : Int32) ≤ aAsked l key := by
  unfold aAsked
  split
  · cases e : aPlace l key with
    | some i => exact Or.inl ⟨i, (aPlace_lt e).1, rfl, rfl⟩
    | none => exact Or.inr (by decide)
  · exact Or.inr (by decide)
section MAsk
variable {w : jx_W} {q : Nat} {c : Nat → Int32} {r : Nat → Nat → Int32} {K : jx_Q} {P : Nat → Int32} {A : aAU} {s : aSt} {past : List aSt} {bs : List Int32}
theorem f_beginsI (hI : MI c r P A s past bs) (hK : ∀ c' P', MI c' r P' A s (aPast past s) bs → c' 14 = c 14 → K (mw w q c' (rup r 0 P')) none) : zcall n_M_begins [.ref q] (mw w q c (rup r 0 P)) K := by
  obtain ⟨h1, h2, h3, h4, h5, f0, h6⟩ := hI
  refine f_begins h2.1 h3 (hK _ _ ⟨?_, PST_beg h2 h1, ?_, h4, h5, f0, h6⟩ rfl)
  · refine PS_of0 ?_
    rw [pBeg_0]
    exact PS_blk0 h1
  · rw [aPast_len h2.1]; rfl
theorem f_wrong {key off : Int32} (hI : MI c r P A s past bs) (hK : K (mw w q c (rup r 0 P)) (some (.int (aWrong s bs key off)))) : zcall n_M_wrong [.ref q, .int key, .int off] (mw w q c (rup r 0 P)) K := by
  obtain ⟨⟨k1, k2, k5, ⟨sl, k6, k7⟩, k8⟩, h2, h3, h4, h5, h6⟩ := hI
  have hl : sl.length = s.2.2.2.1.length := k7.1
  have hl4 := k6.2.1
  unfold aWrong at hK
  refine e_M_wrong (b_M_wrong_0 (s_M_in (fun a1 a2 => ?_) (fun a => ?_)))
  · simp only [and_assoc, exists_and_left, exists_eq_left, exists_eq_left', Option.some.injEq, Value.int.injEq, Value.ref.injEq, Value.long.injEq, true_and, and_true, exists_eq, exists_true_left, mw_ob, mw_ia0, mw_ia2, mw_ia5, mw_ia6, mw_ia7, mw_ia8, mw_ia9, mw_ia10, mw_ia11, mw_ia15, mw_ia16, mF_0, mF_1, mF_2, mF_3, mF_4, mF_5, mF_6, mF_7, mF_8, mF_9, mF_10, mF_11, mF_12, mF_13, mF_14, mF_15, mF_16, mF_len, mF_s1, mF_s3, mF_s4, mF_s12, mF_s13, mF_s14, mw_uob, mw_u0, mw_u2, mw_u5, mw_u6, mw_u7, mw_u8, mw_u9, mw_u10, mw_u11, mw_u15, mw_u16, Nat.reduceLT, rup_s, rup_rup]
    refine if0 (s_M_in (fun a3 a4 => ?_) (fun a => ?_))
    · rw [if_pos ⟨⟨a1, a2⟩, a3, a4⟩] at hK
      simp only [and_assoc, exists_and_left, exists_eq_left, exists_eq_left', Option.some.injEq, Value.int.injEq, Value.ref.injEq, Value.long.injEq, true_and, and_true, exists_eq, exists_true_left, mw_ob, mw_ia0, mw_ia2, mw_ia5, mw_ia6, mw_ia7, mw_ia8, mw_ia9, mw_ia10, mw_ia11, mw_ia15, mw_ia16, mF_0, mF_1, mF_2, mF_3, mF_4, mF_5, mF_6, mF_7, mF_8, mF_9, mF_10, mF_11, mF_12, mF_13, mF_14, mF_15, mF_16, mF_len, mF_s1, mF_s3, mF_s4, mF_s12, mF_s13, mF_s14, mw_uob, mw_u0, mw_u2, mw_u5, mw_u6, mw_u7, mw_u8, mw_u9, mw_u10, mw_u11, mw_u15, mw_u16, Nat.reduceLT, rup_s, rup_rup]
      refine if3 (b_M_wrong_2 ?_)
      simp only [and_assoc, exists_and_left, exists_eq_left, exists_eq_left', Option.some.injEq, Value.int.injEq, Value.ref.injEq, Value.long.injEq, true_and, and_true, exists_eq, exists_true_left, mw_ob, mw_ia0, mw_ia2, mw_ia5, mw_ia6, mw_ia7, mw_ia8, mw_ia9, mw_ia10, mw_ia11, mw_ia15, mw_ia16, mF_0, mF_1, mF_2, mF_3, mF_4, mF_5, mF_6, mF_7, mF_8, mF_9, mF_10, mF_11, mF_12, mF_13, mF_14, mF_15, mF_16, mF_len, mF_s1, mF_s3, mF_s4, mF_s12, mF_s13, mF_s14, mw_uob, mw_u0, mw_u2, mw_u5, mw_u6, mw_u7, mw_u8, mw_u9, mw_u10, mw_u11, mw_u15, mw_u16, Nat.reduceLT, rup_s, rup_rup]
      rw [h4.1]
      have h40 := h4.2.1
      refine ⟨fun z => b_M_wrong_3 ?_, fun z => ?_⟩
      · have z : ¬ bs.length = 0 := fun y => z (by rw [y]; rfl)
        rw [if_neg z] at hK
        simp only [and_assoc, exists_and_left, exists_eq_left, exists_eq_left', Option.some.injEq, Value.int.injEq, Value.ref.injEq, Value.long.injEq, true_and, and_true, exists_eq, exists_true_left, mw_ob, mw_ia0, mw_ia2, mw_ia5, mw_ia6, mw_ia7, mw_ia8, mw_ia9, mw_ia10, mw_ia11, mw_ia15, mw_ia16, mF_0, mF_1, mF_2, mF_3, mF_4, mF_5, mF_6, mF_7, mF_8, mF_9, mF_10, mF_11, mF_12, mF_13, mF_14, mF_15, mF_16, mF_len, mF_s1, mF_s3, mF_s4, mF_s12, mF_s13, mF_s14, mw_uob, mw_u0, mw_u2, mw_u5, mw_u6, mw_u7, mw_u8, mw_u9, mw_u10, mw_u11, mw_u15, mw_u16, Nat.reduceLT, rup_s, rup_rup]
        refine f_placeOf k6 k7 ?_
        simp only [and_assoc, exists_and_left, exists_eq_left, exists_eq_left', Option.some.injEq, Value.int.injEq, Value.ref.injEq, Value.long.injEq, true_and, and_true, exists_eq, exists_true_left, mw_ob, mw_ia0, mw_ia2, mw_ia5, mw_ia6, mw_ia7, mw_ia8, mw_ia9, mw_ia10, mw_ia11, mw_ia15, mw_ia16, mF_0, mF_1, mF_2, mF_3, mF_4, mF_5, mF_6, mF_7, mF_8, mF_9, mF_10, mF_11, mF_12, mF_13, mF_14, mF_15, mF_16, mF_len, mF_s1, mF_s3, mF_s4, mF_s12, mF_s13, mF_s14, mw_uob, mw_u0, mw_u2, mw_u5, mw_u6, mw_u7, mw_u8, mw_u9, mw_u10, mw_u11, mw_u15, mw_u16, Nat.reduceLT, rup_s, rup_rup]
        cases hpl : aPlace s.2.2.2.1 key with
        | none =>
          rw [hpl] at hK
          exact ⟨fun _ => b_M_wrong_4 (b_M_wrong_5 hK), fun z => absurd rfl z⟩
        | some i =>
          rw [hpl] at hK
          have hK : K (mw w q c (rup r 0 P)) (some (.int (if (fGet s.2.2.2.1 i).2.1.2.2.1.length = 6 then -3 else 0))) := hK
          obtain ⟨hi, -⟩ := aPlace_lt hpl
          have hs4 := slG_lt k6 (i := i) (by omega)
          obtain ⟨g1, g2, -⟩ := (k7.2 i hi).1.2.2.2.2.2.2.2.2.1
          have g1 : P (186 + 710 * slG sl i + 5) = nI (fGet s.2.2.2.1 i).2.1.2.2.1.length := g1
          refine ⟨fun z => absurd z (nI_ne9 (by omega)), fun _ => ?_⟩
          refine f_slot k6 (i := i) rfl (by omega) ?_
          simp only [and_assoc, exists_and_left, exists_eq_left, exists_eq_left', Option.some.injEq, Value.int.injEq, Value.ref.injEq, Value.long.injEq, true_and, and_true, exists_eq, exists_true_left, mw_ob, mw_ia0, mw_ia2, mw_ia5, mw_ia6, mw_ia7, mw_ia8, mw_ia9, mw_ia10, mw_ia11, mw_ia15, mw_ia16, mF_0, mF_1, mF_2, mF_3, mF_4, mF_5, mF_6, mF_7, mF_8, mF_9, mF_10, mF_11, mF_12, mF_13, mF_14, mF_15, mF_16, mF_len, mF_s1, mF_s3, mF_s4, mF_s12, mF_s13, mF_s14, mw_uob, mw_u0, mw_u2, mw_u5, mw_u6, mw_u7, mw_u8, mw_u9, mw_u10, mw_u11, mw_u15, mw_u16, Nat.reduceLT, rup_s, rup_rup]
          rw [lit_5, nI_add, nI_clamp (by omega), g1]
          refine ⟨vp_in_nI (by omega) (by decide), fun z => ?_, fun z => ?_⟩
          · rw [if_neg (fun y => z (by rw [y]; rfl))] at hK
            exact b_M_wrong_4 (b_M_wrong_5 hK)
          · rw [if_pos ((nI_eq (by omega) (b := 6) (by decide)).mp z)] at hK
            exact b_M_wrong_5 hK
      · have z : bs.length = 0 := (nI_eq (by omega) (b := 0) (by decide)).mp z
        rw [if_pos z] at hK
        exact hK
    · rw [if_neg (fun z => a z.2)] at hK
      simp only [and_assoc, exists_and_left, exists_eq_left, exists_eq_left', Option.some.injEq, Value.int.injEq, Value.ref.injEq, Value.long.injEq, true_and, and_true, exists_eq, exists_true_left, mw_ob, mw_ia0, mw_ia2, mw_ia5, mw_ia6, mw_ia7, mw_ia8, mw_ia9, mw_ia10, mw_ia11, mw_ia15, mw_ia16, mF_0, mF_1, mF_2, mF_3, mF_4, mF_5, mF_6, mF_7, mF_8, mF_9, mF_10, mF_11, mF_12, mF_13, mF_14, mF_15, mF_16, mF_len, mF_s1, mF_s3, mF_s4, mF_s12, mF_s13, mF_s14, mw_uob, mw_u0, mw_u2, mw_u5, mw_u6, mw_u7, mw_u8, mw_u9, mw_u10, mw_u11, mw_u15, mw_u16, Nat.reduceLT, rup_s, rup_rup]
      exact if2 (b_M_wrong_1 hK)
  · rw [if_neg (fun z => a z.1)] at hK
    simp only [and_assoc, exists_and_left, exists_eq_left, exists_eq_left', Option.some.injEq, Value.int.injEq, Value.ref.injEq, Value.long.injEq, true_and, and_true, exists_eq, exists_true_left, mw_ob, mw_ia0, mw_ia2, mw_ia5, mw_ia6, mw_ia7, mw_ia8, mw_ia9, mw_ia10, mw_ia11, mw_ia15, mw_ia16, mF_0, mF_1, mF_2, mF_3, mF_4, mF_5, mF_6, mF_7, mF_8, mF_9, mF_10, mF_11, mF_12, mF_13, mF_14, mF_15, mF_16, mF_len, mF_s1, mF_s3, mF_s4, mF_s12, mF_s13, mF_s14, mw_uob, mw_u0, mw_u2, mw_u5, mw_u6, mw_u7, mw_u8, mw_u9, mw_u10, mw_u11, mw_u15, mw_u16, Nat.reduceLT, rup_s, rup_rup]
    exact if1 (b_M_wrong_1 hK)
theorem f_asked {key : Int32} (hP : PS P s) (hK : K (mw w q c (rup r 0 P)) (some (.int (aAsked s.2.2.2.1 key)))) : zcall n_M_asked [.ref q, .int key] (mw w q c (rup r 0 P)) K := by
  obtain ⟨k1, k2, k5, ⟨sl, k6, k7⟩, k8⟩ := hP
  have hl : sl.length = s.2.2.2.1.length := k7.1
  have hl4 := k6.2.1
  unfold aAsked at hK
  refine e_M_asked (b_M_asked_0 ?_)
  simp only [and_assoc, exists_and_left, exists_eq_left, exists_eq_left', Option.some.injEq, Value.int.injEq, Value.ref.injEq, Value.long.injEq, true_and, and_true, exists_eq, exists_true_left, mw_ob, mw_ia0, mw_ia2, mw_ia5, mw_ia6, mw_ia7, mw_ia8, mw_ia9, mw_ia10, mw_ia11, mw_ia15, mw_ia16, mF_0, mF_1, mF_2, mF_3, mF_4, mF_5, mF_6, mF_7, mF_8, mF_9, mF_10, mF_11, mF_12, mF_13, mF_14, mF_15, mF_16, mF_len, mF_s1, mF_s3, mF_s4, mF_s12, mF_s13, mF_s14, mw_uob, mw_u0, mw_u2, mw_u5, mw_u6, mw_u7, mw_u8, mw_u9, mw_u10, mw_u11, mw_u15, mw_u16, Nat.reduceLT, rup_s, rup_rup]
  refine f_placeOf k6 k7 ?_
  simp only [and_assoc, exists_and_left, exists_eq_left, exists_eq_left', Option.some.injEq, Value.int.injEq, Value.ref.injEq, Value.long.injEq, true_and, and_true, exists_eq, exists_true_left, mw_ob, mw_ia0, mw_ia2, mw_ia5, mw_ia6, mw_ia7, mw_ia8, mw_ia9, mw_ia10, mw_ia11, mw_ia15, mw_ia16, mF_0, mF_1, mF_2, mF_3, mF_4, mF_5, mF_6, mF_7, mF_8, mF_9, mF_10, mF_11, mF_12, mF_13, mF_14, mF_15, mF_16, mF_len, mF_s1, mF_s3, mF_s4, mF_s12, mF_s13, mF_s14, mw_uob, mw_u0, mw_u2, mw_u5, mw_u6, mw_u7, mw_u8, mw_u9, mw_u10, mw_u11, mw_u15, mw_u16, Nat.reduceLT, rup_s, rup_rup]
  refine s_M_in (fun a1 a2 => ?_) (fun a => ?_)
  · rw [if_pos ⟨a1, a2⟩] at hK
    simp only [and_assoc, exists_and_left, exists_eq_left, exists_eq_left', Option.some.injEq, Value.int.injEq, Value.ref.injEq, Value.long.injEq, true_and, and_true, exists_eq, exists_true_left, mw_ob, mw_ia0, mw_ia2, mw_ia5, mw_ia6, mw_ia7, mw_ia8, mw_ia9, mw_ia10, mw_ia11, mw_ia15, mw_ia16, mF_0, mF_1, mF_2, mF_3, mF_4, mF_5, mF_6, mF_7, mF_8, mF_9, mF_10, mF_11, mF_12, mF_13, mF_14, mF_15, mF_16, mF_len, mF_s1, mF_s3, mF_s4, mF_s12, mF_s13, mF_s14, mw_uob, mw_u0, mw_u2, mw_u5, mw_u6, mw_u7, mw_u8, mw_u9, mw_u10, mw_u11, mw_u15, mw_u16, Nat.reduceLT, rup_s, rup_rup]
    refine if3 (b_M_asked_1 ?_)
    cases hpl : aPlace s.2.2.2.1 key with
    | none =>
      rw [hpl] at hK
      exact ⟨fun z => absurd rfl z, fun _ => b_M_asked_3 hK⟩
    | some i =>
      rw [hpl] at hK
      obtain ⟨hi, -⟩ := aPlace_lt hpl
      exact ⟨fun _ => b_M_asked_2 (b_M_asked_3 hK), fun z => absurd z (nI_ne9 (by omega))⟩
  · rw [if_neg a] at hK
    simp only [and_assoc, exists_and_left, exists_eq_left, exists_eq_left', Option.some.injEq, Value.int.injEq, Value.ref.injEq, Value.long.injEq, true_and, and_true, exists_eq, exists_true_left, mw_ob, mw_ia0, mw_ia2, mw_ia5, mw_ia6, mw_ia7, mw_ia8, mw_ia9, mw_ia10, mw_ia11, mw_ia15, mw_ia16, mF_0, mF_1, mF_2, mF_3, mF_4, mF_5, mF_6, mF_7, mF_8, mF_9, mF_10, mF_11, mF_12, mF_13, mF_14, mF_15, mF_16, mF_len, mF_s1, mF_s3, mF_s4, mF_s12, mF_s13, mF_s14, mw_uob, mw_u0, mw_u2, mw_u5, mw_u6, mw_u7, mw_u8, mw_u9, mw_u10, mw_u11, mw_u15, mw_u16, Nat.reduceLT, rup_s, rup_rup]
    exact if2 (b_M_asked_3 hK)
end MAsk
