/-! THE MODEL: set(..) -/
def aSetS (se : Nat × Nat × Nat) (k v : Nat) : Nat × Nat × Nat := if k = 0 then (v, se.2) else if k = 1 then (se.1, v, se.2.2) else (se.1, se.2.1, v)
def aSet (s : aSt) (k v : Nat) : aSt := (s.1, aSetS s.2.1 k v, s.2.2)
def setLo (k : Nat) : Nat := if k = 2 then 1 else 0
def setHi (k : Nat) : Nat := if k = 0 then 3 else if k = 1 then 15 else 40
def setOf (se : Nat × Nat × Nat) (k : Nat) : Nat := if k = 0 then se.1 else if k = 1 then se.2.1 else se.2.2
theorem PS_setOf {P : Nat → Int32} {s : aSt} {k : Nat} (h : PS P s) (hk : k ≤ 2) : P (54 + k) = nI (setOf s.2.1 k) := by
  obtain ⟨h1, ⟨h2, h3, h4⟩, -⟩ := h
  obtain rfl | rfl | rfl : k = 0 ∨ k = 1 ∨ k = 2 := by omega
  · exact h2
  · exact h3
  · exact h4
theorem aSet_ok {A : aAU} {s : aSt} {k v : Nat} (h : stOk A s) (hk : k ≤ 2) (h1 : setLo k ≤ v) (h2 : v ≤ setHi k) : stOk A (aSet s k v) := by
  obtain ⟨⟨a1, a2, a3, a4⟩, h3⟩ := h
  refine ⟨?_, h3⟩
  obtain rfl | rfl | rfl : k = 0 ∨ k = 1 ∨ k = 2 := by omega
  · exact ⟨h2, a2, a3, a4⟩
  · exact ⟨a1, Nat.lt_succ_of_le h2, a3, a4⟩
  · exact ⟨a1, a2, h1, h2⟩
theorem PS_set {P : Nat → Int32} {s : aSt} {k v : Nat} (h : PS P s) (hk : k ≤ 2) : PS (upd P (54 + k) (nI v)) (aSet s k v) := by
  obtain ⟨h1, ⟨h2, h3, h4⟩, h5, ⟨sl, ⟨a1, a2, a3, a4, a5⟩, b1, b2⟩, h7⟩ := h
  have e : ∀ i, (i < 54 ∨ 57 ≤ i) → upd P (54 + k) (nI v) i = P i := fun i hi => if_neg (by omega)
  refine ⟨PSw_congr h1 (fun i hi => e i (by omega)), ?_, HF_congr h5 (fun i hi _ _ => e i (by omega)), ⟨sl, ⟨(e _ (by decide)).trans a1, a2, a3, a4, fun i hi => (e _ (by omega)).trans (a5 i hi)⟩, b1, fun i hi => MFl_congr (b2 i hi) (fun k hk => e _ (by omega))⟩, (e _ (by decide)).trans h7⟩
  obtain rfl | rfl | rfl : k = 0 ∨ k = 1 ∨ k = 2 := by omega
  · exact ⟨rfl, h3, h4⟩
  · exact ⟨h2, rfl, h4⟩
  · exact ⟨h2, h3, rfl⟩
section MSet
variable {w : jx_W} {q : Nat} {c : Nat → Int32} {r : Nat → Nat → Int32} {K : jx_Q} {P : Nat → Int32} {A : aAU} {s : aSt} {past : List aSt} {bs : List Int32}
theorem f_set5 {k : Nat} {x lo hi : Int32} (hk : k ≤ 2) (hlo : lo = nI (setLo k)) (hhi : hi = nI (setHi k)) (hI : MI c r P A s past bs) (hK0 : ¬ (nI (setLo k) ≤ x ∧ x ≤ nI (setHi k)) → K (mw w q c (rup r 0 P)) (some (.int (-1)))) (hK1 : ∀ v, x = nI v → setLo k ≤ v → v ≤ setHi k → ∀ c' P', MI c' r P' A (aSet s k v) (aPast past s) bs → K (mw w q c' (rup r 0 P')) (some (.int (nI (setOf s.2.1 k))))) : zwp n_M_set 5 [(0, .ref q), (1, .int (nI k)), (2, .int x)] [.int hi, .int lo, .int x] 0 0 (mw w q c (rup r 0 P)) K := by
  subst hlo hhi
  have hh : setHi k ≤ 40 := by unfold setHi; split <;> (try split) <;> omega
  have hl : setLo k ≤ 1 := by unfold setLo; split <;> omega
  refine b_M_set_5 (s_M_in (fun a1 a2 => ?_) (fun a => ?_))
  · obtain ⟨v, hv, rfl⟩ := rng_nI (x := x) (hi := setHi k) (by omega) ⟨Int32.le_trans ((nI_leI (a := 0) (by decide) (by omega)).mpr (Nat.zero_le _)) a1, a2⟩
    have hv1 := (nI_leI (by omega) (by omega)).mp a1
    simp only [and_assoc, exists_and_left, exists_eq_left, exists_eq_left', Option.some.injEq, Value.int.injEq, Value.ref.injEq, Value.long.injEq, true_and, and_true, exists_eq, exists_true_left, mw_ob, mw_ia0, mw_ia2, mw_ia5, mw_ia6, mw_ia7, mw_ia8, mw_ia9, mw_ia10, mw_ia11, mw_ia15, mw_ia16, mF_0, mF_1, mF_2, mF_3, mF_4, mF_5, mF_6, mF_7, mF_8, mF_9, mF_10, mF_11, mF_12, mF_13, mF_14, mF_15, mF_16, mF_len, mF_s1, mF_s3, mF_s4, mF_s12, mF_s13, mF_s14, mw_uob, mw_u0, mw_u2, mw_u5, mw_u6, mw_u7, mw_u8, mw_u9, mw_u10, mw_u11, mw_u15, mw_u16, Nat.reduceLT, rup_s, rup_rup]
    refine if3 (b_M_set_7 ?_)
    simp only [and_assoc, exists_and_left, exists_eq_left, exists_eq_left', Option.some.injEq, Value.int.injEq, Value.ref.injEq, Value.long.injEq, true_and, and_true, exists_eq, exists_true_left, mw_ob, mw_ia0, mw_ia2, mw_ia5, mw_ia6, mw_ia7, mw_ia8, mw_ia9, mw_ia10, mw_ia11, mw_ia15, mw_ia16, mF_0, mF_1, mF_2, mF_3, mF_4, mF_5, mF_6, mF_7, mF_8, mF_9, mF_10, mF_11, mF_12, mF_13, mF_14, mF_15, mF_16, mF_len, mF_s1, mF_s3, mF_s4, mF_s12, mF_s13, mF_s14, mw_uob, mw_u0, mw_u2, mw_u5, mw_u6, mw_u7, mw_u8, mw_u9, mw_u10, mw_u11, mw_u15, mw_u16, Nat.reduceLT, rup_s, rup_rup]
    refine f_beginsI hI (fun c1 P1 i1 i2 => ?_)
    simp only [and_assoc, exists_and_left, exists_eq_left, exists_eq_left', Option.some.injEq, Value.int.injEq, Value.ref.injEq, Value.long.injEq, true_and, and_true, exists_eq, exists_true_left, mw_ob, mw_ia0, mw_ia2, mw_ia5, mw_ia6, mw_ia7, mw_ia8, mw_ia9, mw_ia10, mw_ia11, mw_ia15, mw_ia16, mF_0, mF_1, mF_2, mF_3, mF_4, mF_5, mF_6, mF_7, mF_8, mF_9, mF_10, mF_11, mF_12, mF_13, mF_14, mF_15, mF_16, mF_len, mF_s1, mF_s3, mF_s4, mF_s12, mF_s13, mF_s14, mw_uob, mw_u0, mw_u2, mw_u5, mw_u6, mw_u7, mw_u8, mw_u9, mw_u10, mw_u11, mw_u15, mw_u16, Nat.reduceLT, rup_s, rup_rup]
    rw [lit_54, nI_add, nI_clamp (by omega)]
    obtain ⟨j1, j2, j3, j4, j5, j6⟩ := i1
    rw [PS_setOf j1 hk]
    exact ⟨vp_in_nI (by omega) (by decide), vp_in_nI (by omega) (by decide), hK1 v rfl hv1 hv c1 _ ⟨PS_set j1 hk, PST_fr j2 (fun i hi => if_neg (by omega)), j3, j4, j5, j6⟩⟩
  · simp only [and_assoc, exists_and_left, exists_eq_left, exists_eq_left', Option.some.injEq, Value.int.injEq, Value.ref.injEq, Value.long.injEq, true_and, and_true, exists_eq, exists_true_left, mw_ob, mw_ia0, mw_ia2, mw_ia5, mw_ia6, mw_ia7, mw_ia8, mw_ia9, mw_ia10, mw_ia11, mw_ia15, mw_ia16, mF_0, mF_1, mF_2, mF_3, mF_4, mF_5, mF_6, mF_7, mF_8, mF_9, mF_10, mF_11, mF_12, mF_13, mF_14, mF_15, mF_16, mF_len, mF_s1, mF_s3, mF_s4, mF_s12, mF_s13, mF_s14, mw_uob, mw_u0, mw_u2, mw_u5, mw_u6, mw_u7, mw_u8, mw_u9, mw_u10, mw_u11, mw_u15, mw_u16, Nat.reduceLT, rup_s, rup_rup]
    exact if2 (b_M_set_6 (hK0 a))
theorem f_set {y x : Int32} (hI : MI c r P A s past bs) (hK0 : (¬ ∃ k : Nat, k ≤ 2 ∧ y = nI k ∧ nI (setLo k) ≤ x ∧ x ≤ nI (setHi k)) → K (mw w q c (rup r 0 P)) (some (.int (-1)))) (hK1 : ∀ k v : Nat, k ≤ 2 → y = nI k → x = nI v → setLo k ≤ v → v ≤ setHi k → ∀ c' P', MI c' r P' A (aSet s k v) (aPast past s) bs → K (mw w q c' (rup r 0 P')) (some (.int (nI (setOf s.2.1 k))))) : zcall n_M_set [.ref q, .int y, .int x] (mw w q c (rup r 0 P)) K := by
  refine e_M_set (b_M_set_0 (s_M_in (fun a1 a2 => ?_) (fun a => ?_)))
  · obtain ⟨k, hk, rfl⟩ := rng_nI (hi := 2) (by decide) ⟨a1, a2⟩
    have h5 : ∀ lo hi : Int32, lo = nI (setLo k) → hi = nI (setHi k) → zwp n_M_set 5 [(0, .ref q), (1, .int (nI k)), (2, .int x)] [.int hi, .int lo, .int x] 0 0 (mw w q c (rup r 0 P)) K := fun lo hi e1 e2 => f_set5 hk e1 e2 hI (fun z => hK0 (fun ⟨k', b1, b2, b3⟩ => by
      have : k = k' := (nI_eq (by omega) (by omega)).mp b2
      subst this
      exact z b3)) (fun v b1 b2 b3 => hK1 k v hk rfl b1 b2 b3)
    simp only [and_assoc, exists_and_left, exists_eq_left, exists_eq_left', Option.some.injEq, Value.int.injEq, Value.ref.injEq, Value.long.injEq, true_and, and_true, exists_eq, exists_true_left, mw_ob, mw_ia0, mw_ia2, mw_ia5, mw_ia6, mw_ia7, mw_ia8, mw_ia9, mw_ia10, mw_ia11, mw_ia15, mw_ia16, mF_0, mF_1, mF_2, mF_3, mF_4, mF_5, mF_6, mF_7, mF_8, mF_9, mF_10, mF_11, mF_12, mF_13, mF_14, mF_15, mF_16, mF_len, mF_s1, mF_s3, mF_s4, mF_s12, mF_s13, mF_s14, mw_uob, mw_u0, mw_u2, mw_u5, mw_u6, mw_u7, mw_u8, mw_u9, mw_u10, mw_u11, mw_u15, mw_u16, Nat.reduceLT, rup_s, rup_rup]
    refine if0 ?_
    obtain rfl | rfl | rfl : k = 0 ∨ k = 1 ∨ k = 2 := by omega
    · exact ⟨fun _ => b_M_set_1 (b_M_set_2 ⟨fun z => absurd rfl z, fun _ => h5 0 3 rfl rfl⟩), fun z => absurd z (by decide)⟩
    · exact ⟨fun _ => b_M_set_1 (b_M_set_2 ⟨fun _ => b_M_set_3 ⟨fun z => absurd rfl z, fun _ => h5 0 15 rfl rfl⟩, fun z => absurd z (by decide)⟩), fun z => absurd z (by decide)⟩
    · exact ⟨fun z => absurd rfl z, fun _ => b_M_set_2 ⟨fun _ => b_M_set_3 ⟨fun _ => b_M_set_4 (h5 1 40 rfl rfl), fun z => absurd z (by decide)⟩, fun z => absurd z (by decide)⟩⟩
  · simp only [and_assoc, exists_and_left, exists_eq_left, exists_eq_left', Option.some.injEq, Value.int.injEq, Value.ref.injEq, Value.long.injEq, true_and, and_true, exists_eq, exists_true_left, mw_ob, mw_ia0, mw_ia2, mw_ia5, mw_ia6, mw_ia7, mw_ia8, mw_ia9, mw_ia10, mw_ia11, mw_ia15, mw_ia16, mF_0, mF_1, mF_2, mF_3, mF_4, mF_5, mF_6, mF_7, mF_8, mF_9, mF_10, mF_11, mF_12, mF_13, mF_14, mF_15, mF_16, mF_len, mF_s1, mF_s3, mF_s4, mF_s12, mF_s13, mF_s14, mw_uob, mw_u0, mw_u2, mw_u5, mw_u6, mw_u7, mw_u8, mw_u9, mw_u10, mw_u11, mw_u15, mw_u16, Nat.reduceLT, rup_s, rup_rup]
    refine if1 (b_M_set_6 (hK0 (fun ⟨k, b1, b2, b3⟩ => a ?_)))
    subst b2
    exact ⟨(nI_leI (a := 0) (by decide) (by omega)).mpr (Nat.zero_le _), (nI_leI (b := 2) (by omega) (by decide)).mpr b1⟩
end MSet
