/-! THE CLASS's METHODS: undo, segments, the end of a flow -/
theorem pGet_dl {past : List aSt} {i : Nat} (h : i < past.length - 1) : pGet past.dropLast i = pGet past i := by
  unfold pGet
  rw [List.getD_eq_getElem?_getD, List.getD_eq_getElem?_getD, List.getElem?_dropLast, if_pos h]
theorem FWr_mask {f0 : Nat} {X : cFl} {ky : aKy} {F : aF} {lg : List aP} {fh : List aFd} (h : FWr f0 X ky F lg) : FWr (f0 ||| afm F) X ky (plug F fh 0) lg := by
  obtain ⟨x0, x1, x2, x3, xp, xl, ⟨r2, r3, r4, r5, r6, r7, r8, r11, rr, r12, r13, r14⟩, x7⟩ := h
  exact ⟨x0, x1, x2, x3, xp, xl, ⟨r2, r3, r4, r5, r6, r7, r8, r11, rr, r12, r13, by show X.2.2.2.1 14 = nI ((f0 ||| afm F) ||| 0); rw [Nat.or_zero]; exact r14⟩, x7⟩
theorem FCx_st {W : jx_W} {b t k : Nat} {ac : Nat → Int32} {ar : Nat → Nat → Int32} {A : aAU} (h : At W (t + 2) 9 (AuC (t + 2) ac ar)) (hU : AUr ac ar A) (hA : auOk A) (hb : t + 11 ≤ b) (hk : k < 4) : FCx W (b + 11 + 12 * k) 0 (t + 2) (b + 1) ac ar A := ⟨h, hU, hA, Or.inl (by omega), Or.inr (by omega), Or.inr (by omega)⟩
theorem aLog_add {l : List aP} {p : aP} : addL 10 l p = aLog l p := rfl
section CTop5
variable {W : jx_W} {t : Nat} {s : aSt} {past : List aSt} {bs : List Int32} {n : Nat} {K : jx_Q}
theorem c_undo (hI : TI W t s past bs n) (hw0 : wdOk s.1) (hw : ∀ p ∈ past, wdOk p.1) (hK0 : past.length = 0 → K W (some (.int (-2)))) (hK1 : past.length ≠ 0 → ∀ W', TI W' t (pGet past (past.length - 1)) past.dropLast bs n → Fr W W' t 383 → K W' (some (.int (nI (past.length - 1))))) : zcall n_T_undo [.ref t] W K := by
  obtain ⟨nw, pa, pf, tx, ac, ar, Y, Xr, fc, fr, hP, m1, m2, ⟨m3, m3b, m3c⟩, ⟨od, m4⟩, ⟨m5, m5b⟩, m6, m7⟩ := hI
  refine e_T_undo (b_T_undo_0 ?_)
  simp only [THd_ob hP.1, TF_7, and_assoc, exists_and_left, exists_eq_left, exists_eq_left', Option.some.injEq, Value.int.injEq, Value.ref.injEq, Value.long.injEq, true_and, and_true, exists_eq, exists_true_left]
  refine ⟨fun z => b_T_undo_1 (hK0 ?_), fun z => ⟨fun z2 => b_T_undo_2 ?_, fun z2 => absurd ((nI_leI (b := 4) (by omega) (by decide)).mpr m5) z2⟩⟩
  · have := (nI_leI (b := 0) (by omega) (by decide)).mp z
    omega
  · have hne : past.length ≠ 0 := fun e => z (by rw [e]; decide)
    obtain ⟨m, hm⟩ : ∃ m, past.length = m + 1 := ⟨past.length - 1, by omega⟩
    have hdl : past.dropLast.length = m := by rw [List.length_dropLast]; omega
    obtain ⟨g1, g2, g3⟩ := m3b m (by omega)
    obtain ⟨od2, g4⟩ := m5b m (by omega)
    have hin : pGet past m ∈ past := by
      unfold pGet
      rw [List.getD_eq_getElem?_getD, List.getElem?_eq_getElem (by omega)]
      exact List.getElem_mem _
    have hP2 := hP.hd (tl' := nI bs.length) (pc' := nI m) (nw' := pa m) (tx' := tx) (pf' := va_up pf m (some (sa t nw)))
    have hZ : TZ (Thw W t (nI bs.length) (nI m) (sa t (pa m)) tx (va_up pf m (some (sa t nw)))) t (pGet past m) past.dropLast bs n := by
      refine ⟨pa m, (fun i => if i = m then nw else pa i), _, tx, ac, ar, Y, Xr, fc, fr, by rw [hdl]; exact hP2, m1, AUx_z hw0 m2, ⟨g1, fun i hi => ?_, fun i j hi hj e => ?_⟩, ⟨od2, g4⟩, ⟨by omega, fun i hi => ?_⟩, m6, m7⟩
      · by_cases e : i = m
        · dsimp only
          rw [if_pos e, e]
          exact ⟨m3, fun h => g2 h.symm, va_up_self _ _ _⟩
        · dsimp only
          rw [if_neg e]
          refine ⟨(m3b i hi).1, fun h => e (m3c i m hi (by omega) h), ?_⟩
          rw [va_up_ne _ _ e]; exact (m3b i hi).2.2
      · have e : (if i = m then nw else pa i) = if j = m then nw else pa j := e
        by_cases h1 : i = m
        · by_cases h2 : j = m
          · omega
          · rw [if_pos h1, if_neg h2] at e
            exact absurd e.symm (m3b j hj).2.1
        · by_cases h2 : j = m
          · rw [if_neg h1, if_pos h2] at e
            exact absurd e (m3b i hi).2.1
          · rw [if_neg h1, if_neg h2] at e
            exact m3c i j hi hj e
      · rw [hdl] at hi
        show ∃ od, STr (sa t (if i = m then nw else pa i)) od (Y (if i = m then nw else pa i)) _
        rw [if_neg (by omega), pGet_dl (by omega)]
        exact m5b i (by omega)
    have hso : ∃ vs, jx_ob (Thw W t (nI bs.length) (nI m) (sa t nw) tx pf) (sa t nw) 5 vs := ⟨_, ((hP.hd (tl' := nI bs.length) (pc' := nI m) (nw' := nw) (tx' := tx) (pf' := pf)).2.2.1 nw (by omega)).1.1⟩
    obtain ⟨vs, hvs⟩ := hso
    obtain ⟨b, c, se, f, tx', pf', h1, h2, h3, h4⟩ := TZ_build (K := fun w127 r128 => r128 = none ∧ ∃ (fs129 : List Value), jx_ob w127 t 7 fs129 ∧ ∃ (x130 : Int32), fs129[7]? = some (.int x130) ∧ K w127 (some (.int x130))) hZ (hw _ hin)
    have eb : b = sa t (pa m) := by
      have e1 := (THd_ob h1 _).mp ((THd_ob hP2.1 _).mpr rfl)
      have e2 := congrArg (fun l : List Value => l[3]?) e1
      have e2 : some (Value.ref (sa t (pa m))) = some (Value.ref b) := e2
      cases e2; rfl
    subst eb
    rw [← Thw_eq hP.1]
    have d1 : nI past.length - 1 = nI m := by rw [hm, lit_1, pk_sub (by omega), Nat.add_sub_cancel]
    have cl : (nI m).toNatClampNeg = m := nI_clamp (by omega)
    simp only [Thw_ob, TF_7, TF_6, TF_3, TF_len, TF_s7, Thw_uob, Thw_pa, d1, cl, and_assoc, exists_and_left, exists_eq_left, exists_eq_left', Option.some.injEq, Value.int.injEq, Value.ref.injEq, Value.long.injEq, true_and, and_true, exists_eq, exists_true_left]
    refine ⟨by decide, vin4 (by omega), sa t (pa m), g3, vs, hvs, vin4 (by omega), ?_⟩
    simp only [Thw_upa, Thw_ob, TF_len, TF_s3, Thw_uob, TF_2, TF_3, HAt_ob h2, StF_0, and_assoc, exists_and_left, exists_eq_left, exists_eq_left', Option.some.injEq, Value.int.injEq, Value.ref.injEq, Value.long.injEq, true_and, and_true, exists_eq, exists_true_left]
    refine ⟨by decide, h3, h4 (fun W' k1 k2 => ⟨rfl, ?_⟩)⟩
    obtain ⟨b', od', Y', tx2, pf2, ac2, ar2, h1', -⟩ := TI_st k1
    simp only [THd_ob h1', TF_7, and_assoc, exists_and_left, exists_eq_left, exists_eq_left', Option.some.injEq, Value.int.injEq, Value.ref.injEq, Value.long.injEq, true_and, and_true, exists_eq, exists_true_left]
    rw [hdl]
    have := hK1 hne W' (by rw [hm, Nat.add_sub_cancel]; exact k1) (Fr_th.tr k2)
    rw [hm, Nat.add_sub_cancel] at this
    exact this
theorem c_segmentError {key off : Int32} (hI : TI W t s past bs n) (hK : K W (some (.int (aWrong s bs key off)))) : zcall n_T_segmentError [.ref t, .int key, .int off] W K := by
  obtain ⟨b, od, Y, tx, pf, ac, ar, h1, hS, hT, -, -, -, ⟨h40, -⟩, -⟩ := TI_st hI
  unfold aWrong at hK
  refine e_T_segmentError (b_T_segmentError_0 (s_T_isKey (fun a => ⟨_, rfl, fun z => absurd z (by decide), fun _ => ⟨fun z => b_T_segmentError_1 ?_, fun z => ⟨fun z2 => b_T_segmentError_2 ?_, fun z2 => b_T_segmentError_1 ?_⟩⟩⟩) (fun a => ⟨_, rfl, fun _ => b_T_segmentError_1 ?_, fun z => absurd rfl z⟩)))
  · rw [if_neg (fun t => absurd z (Int32.not_lt.mpr t.2.1))] at hK; exact hK
  · rw [if_pos ⟨a, Int32.not_lt.mp z, rng_lt (hi := 999) (by decide) z2⟩] at hK
    simp only [THd_ob h1, TF_1, and_assoc, exists_and_left, exists_eq_left, exists_eq_left', Option.some.injEq, Value.int.injEq, Value.ref.injEq, Value.long.injEq, true_and, and_true, exists_eq, exists_true_left]
    refine ⟨fun z3 => b_T_segmentError_3 ?_, fun z3 => ?_⟩
    · have hne : bs.length ≠ 0 := fun e => z3 (by rw [e]; rfl)
      rw [if_neg hne] at hK
      simp only [THd_ob h1, TF_3, and_assoc, exists_and_left, exists_eq_left, exists_eq_left', Option.some.injEq, Value.int.injEq, Value.ref.injEq, Value.long.injEq, true_and, and_true, exists_eq, exists_true_left]
      refine ⟨⟨_, hS.1.1⟩, c_placeOf hS hT ⟨_, rfl, fun y => b_T_segmentError_4 (b_T_segmentError_5 ?_), fun y => ?_⟩⟩
      · cases e : aPlace s.2.2.2.1 key with
        | none => rw [e] at hK; exact hK
        | some i =>
          have := (aPlace_lt e).1
          have := hT.2.2.2.1.2
          rw [e] at y; exact absurd y (nI_ne1 (by omega))
      · obtain ⟨t1, t2, t3, ⟨t4, t4b⟩, t5, ⟨o1, o2, o3⟩, t7⟩ := hT
        cases e : aPlace s.2.2.2.1 key with
        | none => rw [e] at y; exact absurd rfl y
        | some i =>
          have hi := (aPlace_lt e).1
          rw [e] at hK
          have hK : K W (some (.int (if (fGet s.2.2.2.1 i).2.1.2.2.1.length = 6 then -3 else 0))) := hK
          obtain ⟨f0, g⟩ := t7 i hi
          have hod := o1 i (by omega)
          have hfp := FlP (gp := 0) (hS.2.2.2 _ hod)
          simp only [THd_ob h1, TF_3, HAt_ob hS.1, StF_3, HAt_10 hS.1, and_assoc, exists_and_left, exists_eq_left, exists_eq_left', Option.some.injEq, Value.int.injEq, Value.ref.injEq, Value.long.injEq, true_and, and_true, exists_eq, exists_true_left]
          refine ⟨vin4 (by omega), b + 11 + 12 * od i, by show Y.2.2.1 (nI i).toNatClampNeg = _; rw [nI_clamp (by omega)]; exact o3 i (by omega), ?_⟩
          simp only [SAt_fl hS hod, FlF_4, and_assoc, exists_and_left, exists_eq_left, exists_eq_left', Option.some.injEq, Value.int.injEq, Value.ref.injEq, Value.long.injEq, true_and, and_true, exists_eq, exists_true_left]
          refine ⟨⟨_, hfp 0 (by decide)⟩, c_isFull hfp g.2.2.2.2.1 (by decide) (fun h => ⟨_, rfl, fun z => absurd z (by decide), fun _ => b_T_segmentError_5 ?_⟩) (fun h => ⟨_, rfl, fun _ => b_T_segmentError_4 (b_T_segmentError_5 ?_), fun z => absurd rfl z⟩)⟩
          · rw [if_pos h] at hK; exact hK
          · rw [if_neg (by omega)] at hK; exact hK
    · rw [if_pos ((nI_eq (b := 0) (by omega) (by decide)).mp z3)] at hK; exact hK
  · rw [if_neg (fun t => z2 (rng_ge (hi := 999) (by decide) t.2.2))] at hK; exact hK
  · rw [if_neg (fun t => a t.1)] at hK; exact hK
end CTop5
