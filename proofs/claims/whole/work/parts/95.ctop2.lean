/-! THE CLASS's METHODS that remember, and those that only tell -/
theorem THd_ob {W : jx_W} {t : Nat} {tl pc : Int32} {nw : Nat} {tx : Nat → Int32} {pf : Nat → Option Nat} (h : THd W t tl pc nw tx pf) (fs : List Value) : jx_ob W t 7 fs ↔ fs = TF t tl pc nw := ob_iff (h.1 0 (by decide))
theorem pGet_drop {past : List aSt} {i : Nat} : pGet (past.drop 1) i = pGet past (i + 1) := by
  unfold pGet
  rw [List.getD_eq_getElem?_getD, List.getD_eq_getElem?_getD, List.getElem?_drop, Nat.add_comm 1 i]
theorem pGet_snoc {past : List aSt} {s : aSt} {i : Nat} : pGet (past ++ [s]) i = if i < past.length then pGet past i else if i = past.length then s else pGet [] 0 := by
  unfold pGet
  rw [List.getD_eq_getElem?_getD]
  by_cases h : i < past.length
  · rw [if_pos h, List.getElem?_append_left h, List.getD_eq_getElem?_getD]
  · rw [if_neg h, List.getElem?_append_right (by omega)]
    by_cases h2 : i = past.length
    · rw [if_pos h2, h2, Nat.sub_self]; rfl
    · rw [if_neg h2]
      obtain ⟨k, hk⟩ : ∃ k, i - past.length = k + 1 := ⟨i - past.length - 1, by omega⟩
      rw [hk]; rfl
theorem vin4 {k : Nat} (h : k < 4) : vp_in (nI k) 4 := vp_in_nI h (by decide)
section CTop2
variable {W : jx_W} {t : Nat} {s : aSt} {past : List aSt} {bs : List Int32} {n : Nat} {K : jx_Q}
theorem c_dropOldest (hI : TI W t s past bs n) (h4 : past.length = 4) (hK : ∀ W', TI W' t s (past.drop 1) bs n → Fr W W' t 383 → K W' none) : zcall n_T_dropOldest [.ref t] W K := by
  obtain ⟨nw, pa, pf, tx, ac, ar, Y, Xr, fc, fr, hP, m1, m2, ⟨m3, m3b, m3c⟩, m4, ⟨m5, m5b⟩, m6, m7⟩ := hI
  have q0 := (m3b 0 (by decide)).2.2
  have q1 := (m3b 1 (by decide)).2.2
  have q2 := (m3b 2 (by decide)).2.2
  have q3 := (m3b 3 (by decide)).2.2
  have so : ∀ tl' pc' nw' tx' pf' k, k < 4 → ∃ vs, jx_ob (Thw W t tl' pc' (sa t nw') tx' pf') (sa t (pa k)) 5 vs := fun tl' pc' nw' tx' pf' k hk => ⟨_, ((hP.hd (tl' := tl') (pc' := pc') (nw' := nw') (tx' := tx') (pf' := pf')).2.2.1 _ (by have := (m3b k hk).1; omega)).1.1⟩
  have hd : (past.drop 1).length = 3 := by rw [List.length_drop, h4]
  have fin : ∀ pf', pf' 0 = some (sa t (pa 1)) → pf' 1 = some (sa t (pa 2)) → pf' 2 = some (sa t (pa 3)) → pf' 3 = some (sa t (pa 0)) → K (Thw W t (nI bs.length) 3 (sa t nw) tx pf') none := by
    intro pf' g0 g1 g2 g3
    have hP2 := hP.hd (tl' := nI bs.length) (pc' := 3) (nw' := nw) (tx' := tx) (pf' := pf')
    refine hK _ ⟨nw, (fun i => if i < 3 then pa (i + 1) else pa 0), pf', tx, ac, ar, Y, Xr, fc, fr, by rw [hd]; exact hP2, m1, m2, ⟨m3, fun i hi => ?_, fun i j hi hj e => ?_⟩, m4, ⟨by omega, fun i hi => ?_⟩, m6, m7⟩ Fr_th
    · obtain rfl | rfl | rfl | rfl : i = 0 ∨ i = 1 ∨ i = 2 ∨ i = 3 := by omega
      · exact ⟨(m3b 1 (by decide)).1, (m3b 1 (by decide)).2.1, g0⟩
      · exact ⟨(m3b 2 (by decide)).1, (m3b 2 (by decide)).2.1, g1⟩
      · exact ⟨(m3b 3 (by decide)).1, (m3b 3 (by decide)).2.1, g2⟩
      · exact ⟨(m3b 0 (by decide)).1, (m3b 0 (by decide)).2.1, g3⟩
    · have e : (if i < 3 then pa (i + 1) else pa 0) = if j < 3 then pa (j + 1) else pa 0 := e
      by_cases h1 : i < 3
      · by_cases h2 : j < 3
        · rw [if_pos h1, if_pos h2] at e
          have := m3c _ _ (by omega) (by omega) e
          omega
        · rw [if_pos h1, if_neg h2] at e
          have := m3c _ _ (by omega) (by omega) e
          omega
      · by_cases h2 : j < 3
        · rw [if_neg h1, if_pos h2] at e
          have := m3c _ _ (by omega) (by omega) e
          omega
        · omega
    · rw [hd] at hi
      show ∃ od, STr (sa t (if i < 3 then pa (i + 1) else pa 0)) od (Y (if i < 3 then pa (i + 1) else pa 0)) _
      rw [if_pos hi, pGet_drop]
      exact m5b (i + 1) (by omega)
  have so0 := fun pf' => so (nI bs.length) (nI past.length) nw tx pf' 0 (by decide)
  have so1 := fun pf' => so (nI bs.length) (nI past.length) nw tx pf' 1 (by decide)
  have so2 := fun pf' => so (nI bs.length) (nI past.length) nw tx pf' 2 (by decide)
  have so3 := fun pf' => so (nI bs.length) (nI past.length) nw tx pf' 3 (by decide)
  rw [← Thw_eq hP.1]
  refine e_T_dropOldest (b_T_dropOldest_0 ?_)
  simp only [Thw_ob, TF_6, Thw_pa, and_assoc, exists_and_left, exists_eq_left, exists_eq_left', Option.some.injEq, Value.int.injEq, Value.ref.injEq, Value.long.injEq, true_and, and_true, exists_eq, exists_true_left]
  refine ⟨vin4 (k := 0) (by decide), sa t (pa 0), q0, ?_⟩
  have d1 : (1 : Int32) - 1 = nI 0 := by decide
  have d2 : (1 : Int32) + 1 = nI 2 := by decide
  have d3 : nI 2 - 1 = nI 1 := by decide
  have d4 : nI 2 + 1 = nI 3 := by decide
  have d5 : nI 3 - 1 = nI 2 := by decide
  have d6 : nI 3 + 1 = nI 4 := by decide
  have e0 : (nI 0).toNatClampNeg = 0 := by decide
  have e1 : (nI 1).toNatClampNeg = 1 := by decide
  have e2 : (nI 2).toNatClampNeg = 2 := by decide
  have e3 : (nI 3).toNatClampNeg = 3 := by decide
  refine b_T_dropOldest_1 ⟨fun z => absurd z (by decide), fun _ => ?_⟩
  simp only [Thw_ob, TF_6, Thw_pa, Thw_upa, and_assoc, exists_and_left, exists_eq_left, exists_eq_left', Option.some.injEq, Value.int.injEq, Value.ref.injEq, Value.long.injEq, true_and, and_true, exists_eq, exists_true_left, d1, d2, e0]
  obtain ⟨v1, hv1⟩ := so1 pf
  refine ⟨vin4 (k := 1) (by decide), sa t (pa 1), q1, v1, hv1, vin4 (by decide), ?_⟩
  refine b_T_dropOldest_1 ⟨fun z => absurd z (by decide), fun _ => ?_⟩
  simp only [Thw_ob, TF_6, Thw_pa, Thw_upa, and_assoc, exists_and_left, exists_eq_left, exists_eq_left', Option.some.injEq, Value.int.injEq, Value.ref.injEq, Value.long.injEq, true_and, and_true, exists_eq, exists_true_left, d3, d4, e1, e2]
  obtain ⟨v2, hv2⟩ := so2 (va_up pf 0 (some (sa t (pa 1))))
  refine ⟨vin4 (by decide), sa t (pa 2), q2, v2, hv2, vin4 (by decide), ?_⟩
  refine b_T_dropOldest_1 ⟨fun z => absurd z (by decide), fun _ => ?_⟩
  simp only [Thw_ob, TF_6, Thw_pa, Thw_upa, and_assoc, exists_and_left, exists_eq_left, exists_eq_left', Option.some.injEq, Value.int.injEq, Value.ref.injEq, Value.long.injEq, true_and, and_true, exists_eq, exists_true_left, d5, d6, e2, e3]
  obtain ⟨v3, hv3⟩ := so3 (va_up (va_up pf 0 (some (sa t (pa 1)))) 1 (some (sa t (pa 2))))
  refine ⟨vin4 (by decide), sa t (pa 3), q3, v3, hv3, vin4 (by decide), ?_⟩
  refine b_T_dropOldest_1 ⟨fun _ => b_T_dropOldest_2 ?_, fun z => absurd (by decide) z⟩
  simp only [Thw_ob, TF_6, Thw_pa, Thw_upa, TF_len, TF_s7, Thw_uob, and_assoc, exists_and_left, exists_eq_left, exists_eq_left', Option.some.injEq, Value.int.injEq, Value.ref.injEq, Value.long.injEq, true_and, and_true, exists_eq, exists_true_left]
  obtain ⟨v0, hv0⟩ := so0 (va_up (va_up (va_up pf 0 (some (sa t (pa 1)))) 1 (some (sa t (pa 2)))) 2 (some (sa t (pa 3))))
  exact ⟨v0, hv0, vin4 (k := 3) (by decide), by decide, fin _ rfl rfl rfl rfl⟩
theorem c_record (hI : TI W t s past bs n) (hK : ∀ W', TI W' t s (aPast past s) bs n → Fr W W' t 383 → K W' none) : zcall n_T_record [.ref t] W K := by
  have tail : ∀ W1 past', TI W1 t s past' bs n → past'.length < 4 → past' ++ [s] = aPast past s → Fr W W1 t 383 → zwp n_T_record 2 [(0, .ref t)] [] 0 0 W1 K := by
    intro W1 past' hI hl he hf
    obtain ⟨nw, pa, pf, tx, ac, ar, Y, Xr, fc, fr, hP, m1, m2, ⟨m3, m3b, m3c⟩, ⟨od, m4⟩, ⟨m5, m5b⟩, m6, m7⟩ := hI
    obtain ⟨g1, g2, g3⟩ := m3b _ hl
    obtain ⟨od2, ho⟩ := m6 (pa past'.length) (by omega)
    have hne := g2
    refine b_T_record_2 ?_
    simp only [THd_ob hP.1, TF_6, TF_7, TF_3, and_assoc, exists_and_left, exists_eq_left, exists_eq_left', Option.some.injEq, Value.int.injEq, Value.ref.injEq, Value.long.injEq, true_and, and_true, exists_eq, exists_true_left]
    have hpl : pa past'.length < 6 := by omega
    refine ⟨4, pf, hP.1.2 0 (by decide), vin4 hl, sa t (pa past'.length), by rw [nI_clamp (by omega)]; exact g3, ⟨_, (hP.2.2.1 _ hpl).1.1⟩, ?_⟩
    refine c_stCopy (by have := sa_dis t (j := pa past'.length) (k := nw) (by omega) (by omega) g2; omega) (hP.2.2.1 _ (by omega)) (hP.2.2.1 nw (by omega)) ho m4 (fun W2 Y2 a1 a2 a3 => ⟨rfl, ?_⟩)
    have hP2 := hP.st (show pa past'.length < 6 by omega) a3 a1
    have hP3 := hP2.hd (tl' := nI bs.length) (pc' := nI (past'.length + 1)) (nw' := nw) (tx' := tx) (pf' := pf)
    have hlen : (past' ++ [s]).length = past'.length + 1 := by rw [List.length_append]; rfl
    have hK2 := hK _ ⟨nw, pa, pf, tx, ac, ar, _, Xr, fc, fr, by rw [← he, hlen]; exact hP3, m1, m2, ⟨m3, m3b, m3c⟩, ⟨od, ?_⟩, ⟨by rw [← he, hlen]; omega, fun i hi => ?_⟩, fun k hk => ?_, m7⟩ ((hf.tr (Fr_st (show pa past'.length < 6 by omega) a3)).tr Fr_th)
    · rw [← Thw_eq hP2.1]
      simp only [Thw_ob, TF_7, TF_len, TF_s7, Thw_uob, nI_1, and_assoc, exists_and_left, exists_eq_left, exists_eq_left', Option.some.injEq, Value.int.injEq, Value.ref.injEq, Value.long.injEq, true_and, and_true, exists_eq, exists_true_left]
      exact ⟨by decide, hK2⟩
    · show STr _ _ (if nw = pa past'.length then Y2 else Y nw) s
      rw [if_neg (fun e => g2 e.symm)]; exact m4
    · rw [← he, hlen] at hi
      rw [← he, pGet_snoc]
      show ∃ od, STr _ od (if pa i = pa past'.length then Y2 else Y (pa i)) _
      by_cases e : i < past'.length
      · rw [if_pos e, if_neg (fun h => by have := m3c _ _ (by omega) (by omega) h; omega)]
        exact m5b i e
      · have e2 : i = past'.length := by omega
        rw [if_neg e, if_pos e2, e2, if_pos rfl]
        exact ⟨od2, a2⟩
    · show ∃ od, OD _ (if k = pa past'.length then Y2 else Y k).2.2.1 od
      by_cases e : k = pa past'.length
      · rw [if_pos e, e]; exact ⟨od2, a2.2.2.2.2.2.1⟩
      · rw [if_neg e]; exact m6 k hk
  have h4 : past.length ≤ 4 := by
    obtain ⟨nw, pa, pf, tx, ac, ar, Y, Xr, fc, fr, hP, m1, m2, m3, m4, ⟨m5, m5b⟩, m6⟩ := id hI
    exact m5
  have hob : ∃ fs, jx_ob W t 7 fs := by
    obtain ⟨nw, pa, pf, tx, ac, ar, Y, Xr, fc, fr, hP, -⟩ := id hI
    exact ⟨_, (THd_ob hP.1 _).mpr rfl⟩
  refine e_T_record (b_T_record_0 ?_)
  obtain ⟨nw, pa, pf, tx, ac, ar, Y, Xr, fc, fr, hP, -⟩ := id hI
  simp only [THd_ob hP.1, TF_7, and_assoc, exists_and_left, exists_eq_left, exists_eq_left', Option.some.injEq, Value.int.injEq, Value.ref.injEq, Value.long.injEq, true_and, and_true, exists_eq, exists_true_left]
  refine ⟨fun z => absurd z (nI_pos (by omega)), fun _ => ⟨fun z => ?_, fun z => b_T_record_1 ?_⟩⟩
  · have hl := (nI_ltI (b := 4) (by omega) (by decide)).mp z
    exact tail W past hI hl (by unfold aPast; rw [if_neg (by omega)]) Fr.rf
  · have hl : past.length = 4 := by
      have : ¬ past.length < 4 := fun y => z ((nI_ltI (b := 4) (by omega) (by decide)).mpr y)
      omega
    exact ⟨hob, c_dropOldest hI hl (fun W' k1 k2 => ⟨rfl, tail W' _ k1 (by rw [List.length_drop]; omega) (by unfold aPast; rw [if_pos hl]) k2⟩)⟩
theorem nat_n {x : Int32} {hi : Nat} (h : hi < 2 ^ 31) (h1 : ¬ x < 0) (h2 : x < nI hi) : ∃ k, k < hi ∧ x = nI k := by
  rcases pk_ix x (n := hi) h with h3 | h3 | ⟨i, h3, h4⟩
  · exact absurd h3 h1
  · exact absurd (Int32.not_le.mpr h2) (fun t => t h3)
  · exact ⟨i, h3, h4⟩
theorem nar_127 : ∀ n, n < 127 → vp_nar .byte ((nI n).toInt8.toInt32) = nI n := by decide +kernel
theorem nar_id {x : Int32} (h : (32 : Int32) ≤ x ∧ x ≤ 126) : vp_nar .byte x.toInt8.toInt32 = x := by
  obtain ⟨k, hk, rfl⟩ := rng_nI (hi := 126) (by decide) ⟨Int32.le_trans (by decide) h.1, h.2⟩
  exact nar_127 k (by omega)
theorem c_type {x : Int32} (hI : TI W t s past bs n) (hK0 : ¬ ((32 : Int32) ≤ x ∧ x ≤ 126) → K W (some (.int (-1)))) (hK1 : (32 : Int32) ≤ x ∧ x ≤ 126 → bs.length = 40 → K W (some (.int (-3)))) (hK2 : (32 : Int32) ≤ x ∧ x ≤ 126 → bs.length < 40 → ∀ W', TI W' t s past (bs ++ [x]) n → Fr W W' t 383 → K W' (some (.int (nI (bs.length + 1))))) : zcall n_T_type [.ref t, .int x] W K := by
  obtain ⟨nw, pa, pf, tx, ac, ar, Y, Xr, fc, fr, hP, ⟨m1, m1b⟩, m2⟩ := hI
  have hlen : (bs ++ [x]).length = bs.length + 1 := by rw [List.length_append]; rfl
  refine e_T_type (b_T_type_0 ⟨fun z => b_T_type_1 (hK0 (fun y => absurd z (Int32.not_lt.mpr y.1))), fun z => ⟨fun z2 => b_T_type_2 ?_, fun z2 => b_T_type_1 (hK0 (fun y => z2 y.2))⟩⟩)
  have hx : (32 : Int32) ≤ x ∧ x ≤ 126 := ⟨Int32.not_lt.mp z, z2⟩
  simp only [THd_ob hP.1, TF_1, and_assoc, exists_and_left, exists_eq_left, exists_eq_left', Option.some.injEq, Value.int.injEq, Value.ref.injEq, Value.long.injEq, true_and, and_true, exists_eq, exists_true_left]
  refine ⟨fun z3 => absurd z3 (nI_pos (by omega)), fun _ => ⟨fun z3 => b_T_type_4 ?_, fun z3 => b_T_type_3 (hK1 hx ?_)⟩⟩
  · have hl := (nI_ltI (b := 40) (by omega) (by decide)).mp z3
    have hP2 := hP.hd (tl' := nI (bs.length + 1)) (pc' := nI past.length) (nw' := nw) (tx' := upd tx bs.length x) (pf' := pf)
    have hK3 := hK2 hx hl _ ⟨nw, pa, pf, _, ac, ar, Y, Xr, fc, fr, by rw [hlen]; exact hP2, ⟨by omega, fun i hi => ?_⟩, m2⟩ Fr_th
    · rw [← Thw_eq hP.1]
      have en : vp_nar .byte x.toInt8.toInt32 = x := nar_id hx
      simp only [Thw_ob, TF_0, TF_1, TF_len, TF_s1, Thw_uob, Thw_tx, Thw_utx, nI_1, en, and_assoc, exists_and_left, exists_eq_left, exists_eq_left', Option.some.injEq, Value.int.injEq, Value.ref.injEq, Value.long.injEq, true_and, and_true, exists_eq, exists_true_left]
      rw [nI_clamp (by omega)]
      exact ⟨vp_in_nI hl (by decide), by decide, hK3⟩
    · rw [hlen] at hi
      rw [List.getD_eq_getElem?_getD]
      by_cases e : i = bs.length
      · rw [e, upd_s, List.getElem?_append_right (Nat.le_refl _), Nat.sub_self]; rfl
      · rw [upd_n e, List.getElem?_append_left (by omega), m1b i (by omega), List.getD_eq_getElem?_getD]
  · have : ¬ bs.length < 40 := fun y => z3 ((nI_ltI (b := 40) (by omega) (by decide)).mpr y)
    omega
theorem c_flow {x : Int32} (hI : TI W t s past bs n) (hK : K W (some (.int (aFlowAt s.2.2.2.1 x)))) : zcall n_T_flow [.ref t, .int x] W K := by
  obtain ⟨nw, pa, pf, tx, ac, ar, Y, Xr, fc, fr, hP, -, -, ⟨m3, -⟩, ⟨od, m4⟩, -⟩ := hI
  have hS := hP.2.2.1 nw (by omega)
  obtain ⟨t1, t2, t3, ⟨t4, t4b⟩, t5, ⟨o1, o2, o3⟩, t7⟩ := m4
  unfold aFlowAt at hK
  refine e_T_flow (b_T_flow_0 ⟨fun z => b_T_flow_1 ?_, fun z => ?_⟩)
  · rw [if_pos z] at hK
    simp only [THd_ob hP.1, TF_3, HAt_ob hS.1, StF_4, StF_3, HAt_10 hS.1, and_assoc, exists_and_left, exists_eq_left, exists_eq_left', Option.some.injEq, Value.int.injEq, Value.ref.injEq, Value.long.injEq, true_and, and_true, exists_eq, exists_true_left]
    rw [t4]
    refine ⟨fun z2 => b_T_flow_2 (b_T_flow_3 ?_), fun z2 => ?_⟩
    · rw [if_pos z2] at hK; exact hK
    · rw [if_neg z2] at hK
      obtain ⟨k, hk, rfl⟩ := nat_n (x := x) (hi := s.2.2.2.1.length) (by omega) (Int32.not_lt.mpr z) (Int32.not_le.mp z2)
      rw [nI_clamp (by omega)] at hK
      obtain ⟨f0, g⟩ := t7 k hk
      refine ⟨fun z3 => absurd ((nI_leI (a := 4) (by decide) (by omega)).mp z3) (by omega), fun _ => ⟨vin4 (by omega), sa t nw + 11 + 12 * od k, by rw [nI_clamp (by omega)]; exact o3 k (by omega), ?_⟩⟩
      simp only [SAt_fl hS (o1 k (by omega)), FlF_0, and_assoc, exists_and_left, exists_eq_left, exists_eq_left', Option.some.injEq, Value.int.injEq, Value.ref.injEq, Value.long.injEq, true_and, and_true, exists_eq, exists_true_left]
      refine b_T_flow_3 ?_
      rw [show ((Y nw).2.2.2.2.2 (od k)).1 0 = _ from g.1]; exact hK
  · rw [if_neg z] at hK; exact hK
theorem rng_lt {x : Int32} {hi : Nat} (h : hi + 1 < 2 ^ 31) (h2 : x < nI (hi + 1)) : x ≤ nI hi := by
  have a := Int32.lt_iff_toInt_lt.mp h2
  rw [Int32.le_iff_toInt_le, nI_toInt (by omega)]
  rw [nI_toInt (by omega)] at a
  omega
theorem rng_ge {x : Int32} {hi : Nat} (h : hi + 1 < 2 ^ 31) (h2 : x ≤ nI hi) : x < nI (hi + 1) := by
  have a := Int32.le_iff_toInt_le.mp h2
  rw [Int32.lt_iff_toInt_lt, nI_toInt (by omega)]
  rw [nI_toInt (by omega)] at a
  omega
theorem c_letter {x y : Int32} (hI : TI W t s past bs n) (hK : K W (some (.int (aLetter s.1 x y)))) : zcall n_T_letter [.ref t, .int x, .int y] W K := by
  obtain ⟨nw, pa, pf, tx, ac, ar, Y, Xr, fc, fr, hP, -, -, ⟨m3, -⟩, ⟨od, m4⟩, -⟩ := hI
  have hS := hP.2.2.1 nw (by omega)
  unfold aLetter at hK
  have hwb : ∃ fs, jx_ob W (sa t nw + 6) 6 fs := ⟨_, hS.2.2.1 0 (by decide)⟩
  refine e_T_letter (b_T_letter_0 (s_T_isWord (fun a => ⟨_, rfl, fun z => absurd z (by decide), fun _ => ⟨fun z => b_T_letter_2 ?_, fun z => b_T_letter_1 ?_⟩⟩) (fun a => ⟨_, rfl, fun _ => b_T_letter_1 ?_, fun z => absurd rfl z⟩)))
  · rw [if_pos ⟨a, z⟩] at hK
    obtain ⟨v, hv, rfl⟩ := rng_nI (hi := 5) (by decide) a
    rw [nI_clamp (by omega)] at hK
    simp only [THd_ob hP.1, TF_3, HAt_ob hS.1, StF_0, and_assoc, exists_and_left, exists_eq_left, exists_eq_left', Option.some.injEq, Value.int.injEq, Value.ref.injEq, Value.long.injEq, true_and, and_true, exists_eq, exists_true_left]
    refine ⟨hwb, c_isDefined hS.2.2.1 m4.1 rfl (by omega) (fun h => ⟨_, rfl, fun z => absurd z (by decide), fun _ => ?_⟩) (fun h => ⟨_, rfl, fun _ => b_T_letter_3 (b_T_letter_4 ?_), fun z => absurd rfl z⟩)⟩
    · rw [if_neg h] at hK
      simp only [THd_ob hP.1, TF_3, HAt_ob hS.1, StF_0, and_assoc, exists_and_left, exists_eq_left, exists_eq_left', Option.some.injEq, Value.int.injEq, Value.ref.injEq, Value.long.injEq, true_and, and_true, exists_eq, exists_true_left]
      exact ⟨hwb, c_letterAt (v := v) hS.2.2.1 m4.1 rfl (by omega) (Int32.not_lt.mpr z) ⟨_, rfl, b_T_letter_4 hK⟩⟩
    · rw [if_pos h] at hK; exact hK
  · rw [if_neg (fun t => z t.2)] at hK; exact hK
  · rw [if_neg (fun t => a t.1)] at hK; exact hK
theorem s_A_has {au : Nat} {ac : Nat → Int32} {ar : Nat → Nat → Int32} {x : Int32} {N : Nat} (hA : At W au 9 (AuC au ac ar)) (hc : ac 0 = nI N) (hN : N < 2 ^ 30) (h1 : ∀ k, k < N → x = nI k → K W (some (.int 1))) (h0 : ¬ ((0 : Int32) ≤ x ∧ x < nI N) → K W (some (.int 0))) : zcall n_A_has [.ref au, .int x] W K := by
  refine e_A_has (b_A_has_0 ⟨fun z => b_A_has_1 (b_A_has_2 ⟨b01, h0 (fun t => absurd z (Int32.not_lt.mpr t.1))⟩), fun z => ?_⟩)
  simp only [AuAt_ob hA, AuF_0, and_assoc, exists_and_left, exists_eq_left, exists_eq_left', Option.some.injEq, Value.int.injEq, Value.ref.injEq, Value.long.injEq, true_and, and_true, exists_eq, exists_true_left]
  rw [hc]
  refine ⟨fun z2 => b_A_has_1 (b_A_has_2 ⟨b01, h0 (fun t => absurd t.2 (Int32.not_lt.mpr z2))⟩), fun z2 => b_A_has_2 ⟨b11, ?_⟩⟩
  obtain ⟨k, hk, e⟩ := nat_n (by omega) z (Int32.not_le.mp z2)
  exact h1 k hk e
theorem c_next {x y : Int32} (hI : TI W t s past bs n) (hw : wdOk s.1) (hK : K W (some (.int (aNext (auOf s.1) x y)))) : zcall n_T_next [.ref t, .int x, .int y] W K := by
  obtain ⟨nw, pa, pf, tx, ac, ar, Y, Xr, fc, fr, hP, -, m2, -⟩ := hI
  have hA := au_ok hw
  have hU := AUx_AUr m2
  have h49 := hA.2.1
  have h1 := hA.1
  unfold aNext at hK
  have hab : ∃ fs, jx_ob W (t + 2) 0 fs := ⟨_, hP.2.1 0 (by decide)⟩
  refine e_T_next (b_T_next_0 ?_)
  simp only [THd_ob hP.1, TF_2, and_assoc, exists_and_left, exists_eq_left, exists_eq_left', Option.some.injEq, Value.int.injEq, Value.ref.injEq, Value.long.injEq, true_and, and_true, exists_eq, exists_true_left]
  refine ⟨hab, s_A_has hP.2.1 hU.1 (by omega) (fun k hk e => ⟨_, rfl, fun z => absurd z (by decide), fun _ => ⟨fun z => b_T_next_1 ?_, fun z => ⟨fun z2 => b_T_next_2 ?_, fun z2 => b_T_next_1 ?_⟩⟩⟩) (fun a => ⟨_, rfl, fun _ => b_T_next_1 ?_, fun z => absurd rfl z⟩)⟩
  · rw [if_neg (fun t => absurd z (Int32.not_lt.mpr t.2.1))] at hK; exact hK
  · subst e
    obtain ⟨l, hl, rfl⟩ := nat_n (hi := 26) (by decide) z z2
    rw [if_pos ⟨⟨(nI_leI (a := 0) (by decide) (by omega)).mpr (Nat.zero_le _), (nI_leI (by omega) (by omega)).mpr (by omega)⟩, (nI_leI (a := 0) (by decide) (by omega)).mpr (Nat.zero_le _), (nI_leI (b := 25) (by omega) (by decide)).mpr (by omega)⟩, nI_clamp (by omega), nI_clamp (by omega)] at hK
    simp only [THd_ob hP.1, TF_2, and_assoc, exists_and_left, exists_eq_left, exists_eq_left', Option.some.injEq, Value.int.injEq, Value.ref.injEq, Value.long.injEq, true_and, and_true, exists_eq, exists_true_left]
    exact ⟨hab, c_nextOf hP.2.1 hU hA rfl rfl hk hl ⟨_, rfl, hK⟩⟩
  · rw [if_neg (fun t => z2 (rng_ge (hi := 25) (by decide) t.2.2))] at hK; exact hK
  · rw [if_neg (fun t => a ⟨t.1.1, by have := rng_ge (by omega) t.1.2; rw [show (auOf s.1).1 - 1 + 1 = (auOf s.1).1 by omega] at this; exact this⟩)] at hK; exact hK
theorem c_node {x y : Int32} (hI : TI W t s past bs n) (hw : wdOk s.1) (hK : K W (some (.int (aNode s.1 x y)))) : zcall n_T_node [.ref t, .int x, .int y] W K := by
  obtain ⟨nw, pa, pf, tx, ac, ar, Y, Xr, fc, fr, hP, -, m2, -⟩ := hI
  obtain ⟨hN, h49⟩ := nodes_ok hw
  have h1 := nl_pos hN
  unfold aNode at hK
  have hab : ∃ fs, jx_ob W (t + 2) 0 fs := ⟨_, hP.2.1 0 (by decide)⟩
  refine e_T_node (b_T_node_0 ?_)
  simp only [THd_ob hP.1, TF_2, and_assoc, exists_and_left, exists_eq_left, exists_eq_left', Option.some.injEq, Value.int.injEq, Value.ref.injEq, Value.long.injEq, true_and, and_true, exists_eq, exists_true_left]
  refine ⟨hab, s_A_has hP.2.1 m2.1 (by omega) (fun k hk e => ⟨_, rfl, fun z => absurd z (by decide), fun _ => ⟨fun z => b_T_node_1 ?_, fun z => ⟨fun z2 => b_T_node_2 ?_, fun z2 => b_T_node_1 ?_⟩⟩⟩) (fun a => ⟨_, rfl, fun _ => b_T_node_1 ?_, fun z => absurd rfl z⟩)⟩
  · rw [if_neg (fun t => absurd z (Int32.not_lt.mpr t.2.1))] at hK; exact hK
  · subst e
    obtain ⟨l, hl, rfl⟩ := nat_n (hi := 5) (by decide) z z2
    rw [if_pos ⟨⟨(nI_leI (a := 0) (by decide) (by omega)).mpr (Nat.zero_le _), (nI_leI (by omega) (by omega)).mpr (by omega)⟩, (nI_leI (a := 0) (by decide) (by omega)).mpr (Nat.zero_le _), (nI_leI (b := 4) (by omega) (by decide)).mpr (by omega)⟩, nI_clamp (by omega), nI_clamp (by omega)] at hK
    obtain ⟨g1, g5, g2⟩ := m2.2.1 k hk
    rw [if_pos hk] at g5
    have hv : vp_in (nI k) 49 := vp_in_nI (by omega) (by decide)
    have i1 : ∀ m f, jx_ia W (t + 2 + 1) m f ↔ m = 49 ∧ f = ar 1 := fun m f => ia_iff (hP.2.1 1 (by decide))
    have i2 : ∀ m f, jx_ia W (t + 2 + 2) m f ↔ m = 49 ∧ f = ar 2 := fun m f => ia_iff (hP.2.1 2 (by decide))
    have i3 : ∀ m f, jx_ia W (t + 2 + 3) m f ↔ m = 49 ∧ f = ar 3 := fun m f => ia_iff (hP.2.1 3 (by decide))
    have i4 : ∀ m f, jx_ia W (t + 2 + 4) m f ↔ m = 49 ∧ f = ar 4 := fun m f => ia_iff (hP.2.1 4 (by decide))
    have i5 : ∀ m f, jx_ia W (t + 2 + 5) m f ↔ m = 49 ∧ f = ar 5 := fun m f => ia_iff (hP.2.1 5 (by decide))
    have et : (nI l).toInt = (l : Int) := nI_toInt (by omega)
    have cl : (nI k).toNatClampNeg = k := nI_clamp (by omega)
    have b4 : l = 0 → zwp n_T_node 4 [(0, .ref t), (1, .int (nI k))] [] 0 0 W K := fun e => by
      rw [e] at hK
      refine b_T_node_4 ?_
      simp only [THd_ob hP.1, TF_2, AuAt_ob hP.2.1, AuF_1, i1, and_assoc, exists_and_left, exists_eq_left, exists_eq_left', Option.some.injEq, Value.int.injEq, Value.ref.injEq, Value.long.injEq, true_and, and_true, exists_eq, exists_true_left, cl]
      rw [g1]; exact ⟨hv, hK⟩
    have b8 : l = 4 → zwp n_T_node 8 [(0, .ref t), (1, .int (nI k))] [] 0 0 W K := fun e => by
      rw [e] at hK
      refine b_T_node_8 ?_
      simp only [THd_ob hP.1, TF_2, AuAt_ob hP.2.1, AuF_5, i5, and_assoc, exists_and_left, exists_eq_left, exists_eq_left', Option.some.injEq, Value.int.injEq, Value.ref.injEq, Value.long.injEq, true_and, and_true, exists_eq, exists_true_left, cl]
      rw [g5]; exact ⟨hv, hK⟩
    refine ⟨fun z => b_T_node_3 ?_, fun z => ?_⟩
    · have hk0 : k ≠ 0 := fun e => z (by rw [e]; rfl)
      obtain ⟨g2, g3, g4⟩ := g2 hk0
      refine ⟨fun e => b4 (by omega), fun e => ?_, fun e => ?_, fun e => ?_, fun e => b8 (by omega)⟩
      · obtain rfl : l = 1 := by omega
        refine b_T_node_5 ?_
        simp only [THd_ob hP.1, TF_2, AuAt_ob hP.2.1, AuF_2, i2, and_assoc, exists_and_left, exists_eq_left, exists_eq_left', Option.some.injEq, Value.int.injEq, Value.ref.injEq, Value.long.injEq, true_and, and_true, exists_eq, exists_true_left, cl]
        have hK : K W (some (.int (paI (nodesOf s.1) k))) := hK
        unfold paI at hK
        rw [if_neg hk0] at hK
        rw [g2]; exact ⟨hv, hK⟩
      · obtain rfl : l = 2 := by omega
        refine b_T_node_6 ?_
        simp only [THd_ob hP.1, TF_2, AuAt_ob hP.2.1, AuF_3, i3, and_assoc, exists_and_left, exists_eq_left, exists_eq_left', Option.some.injEq, Value.int.injEq, Value.ref.injEq, Value.long.injEq, true_and, and_true, exists_eq, exists_true_left, cl]
        have hK : K W (some (.int (if k = 0 then -9 else nI (lastL (nGet (nodesOf s.1) k))))) := hK
        rw [if_neg hk0] at hK
        rw [g3]; exact ⟨hv, hK⟩
      · obtain rfl : l = 3 := by omega
        refine b_T_node_7 ?_
        simp only [THd_ob hP.1, TF_2, AuAt_ob hP.2.1, AuF_4, i4, and_assoc, exists_and_left, exists_eq_left, exists_eq_left', Option.some.injEq, Value.int.injEq, Value.ref.injEq, Value.long.injEq, true_and, and_true, exists_eq, exists_true_left, cl]
        have hK : K W (some (.int (faI (nodesOf s.1) k))) := hK
        unfold faI at hK
        rw [if_neg hk0] at hK
        rw [g4 hk]; exact ⟨hv, hK⟩
    · have hk0 : k = 0 := (nI_eq (b := 0) (by omega) (by decide)).mp z
      refine ⟨fun z2 => b_T_node_3 ?_, fun z2 => ⟨fun z3 => b_T_node_3 ?_, fun z3 => ?_⟩⟩
      · have : l = 0 := by have := (nI_ltI (b := 1) (by omega) (by decide)).mp z2; omega
        exact ⟨fun e => b4 this, fun e => absurd e (by omega), fun e => absurd e (by omega), fun e => absurd e (by omega), fun e => absurd e (by omega)⟩
      · have : l = 4 := by have := (nI_ltI (a := 3) (by decide) (by omega)).mp z3; omega
        exact ⟨fun e => absurd e (by omega), fun e => absurd e (by omega), fun e => absurd e (by omega), fun e => absurd e (by omega), fun e => b8 this⟩
      · have h2 : ¬ l < 1 := fun y => z2 ((nI_ltI (b := 1) (by omega) (by decide)).mpr y)
        have h3 : ¬ 3 < l := fun y => z3 ((nI_ltI (a := 3) (by decide) (by omega)).mpr y)
        have : aNodeP s.1 k l = -9 := by
          rw [hk0]
          obtain rfl | rfl | rfl : l = 1 ∨ l = 2 ∨ l = 3 := by omega
          · rfl
          · rfl
          · rfl
        rw [this] at hK; exact hK
  · rw [if_neg (fun t => z2 (rng_ge (hi := 4) (by decide) t.2.2))] at hK; exact hK
  · rw [if_neg (fun t => a ⟨t.1.1, by have := rng_ge (by omega) t.1.2; rw [show (nodesOf s.1).length - 1 + 1 = (nodesOf s.1).length by omega] at this; exact this⟩)] at hK; exact hK
end CTop2
