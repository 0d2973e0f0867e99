/-! THE CLASS's METHODS that change what is now -/
/-- as TI, but the automaton may be another's -/
def TZ (W : jx_W) (t : Nat) (s : aSt) (past : List aSt) (bs : List Int32) (n : Nat) : Prop := ∃ (nw : Nat) (pa : Nat → Nat) (pf : Nat → Option Nat) (tx ac : Nat → Int32) (ar : Nat → Nat → Int32) (Y : Nat → cSt) (Xr : cFl) (fc : Nat → Int32) (fr : Nat → Nat → Int32), TP W t (nI bs.length) (nI past.length) nw pf tx ac ar Y Xr fc fr ∧ (bs.length ≤ 40 ∧ ∀ i, i < bs.length → tx i = bs.getD i 0) ∧ (ar 1 0 = 0 ∧ ar 5 0 = 0) ∧ (nw < 5 ∧ (∀ i, i < 4 → pa i < 5 ∧ pa i ≠ nw ∧ pf i = some (sa t (pa i))) ∧ ∀ i j, i < 4 → j < 4 → pa i = pa j → i = j) ∧ (∃ od, STr (sa t nw) od (Y nw) s) ∧ (past.length ≤ 4 ∧ ∀ i, i < past.length → ∃ od, STr (sa t (pa i)) od (Y (pa i)) (pGet past i)) ∧ (∀ k, k < 6 → ∃ od, OD (sa t k) (Y k).2.2.1 od) ∧ ∃ fh, FDr fc fr fh ∧ fh.length ≤ n
section CTop4
variable {W : jx_W} {t : Nat} {s : aSt} {past : List aSt} {bs : List Int32} {n : Nat} {K : jx_Q}
theorem TI_ob (hI : TI W t s past bs n) : ∃ fs, jx_ob W t 7 fs := by
  obtain ⟨nw, pa, pf, tx, ac, ar, Y, Xr, fc, fr, hP, -⟩ := hI
  exact ⟨_, (THd_ob hP.1 _).mpr rfl⟩
theorem TZ_ob (hI : TZ W t s past bs n) : ∃ fs, jx_ob W t 7 fs := by
  obtain ⟨nw, pa, pf, tx, ac, ar, Y, Xr, fc, fr, hP, -⟩ := hI
  exact ⟨_, (THd_ob hP.1 _).mpr rfl⟩
/-- what is now, and how it may change -/
theorem TI_st (hI : TI W t s past bs n) : ∃ b od Y tx pf ac ar, THd W t (nI bs.length) (nI past.length) b tx pf ∧ SAt W b (t + 2) Y ∧ STr b od Y s ∧ At W (t + 2) 9 (AuC (t + 2) ac ar) ∧ AUx ac ar s.1 ∧ (t + 11 ≤ b ∧ b + 59 ≤ t + 383 ∧ (b + 59 ≤ t + 129 ∨ t + 147 ≤ b)) ∧ (bs.length ≤ 40 ∧ ∀ i, i < bs.length → tx i = bs.getD i 0) ∧ (∀ W' Y' od' s', Fr W W' b 59 → SAt W' b (t + 2) Y' → STr b od' Y' s' → s'.1 = s.1 → TI W' t s' past bs n ∧ Fr W W' t 383) ∧ (∀ W' Y' od' s', wdOk s.1 → Fr W W' b 59 → SAt W' b (t + 2) Y' → STr b od' Y' s' → TZ W' t s' past bs n ∧ Fr W W' t 383) := by
  obtain ⟨nw, pa, pf, tx, ac, ar, Y, Xr, fc, fr, hP, m1, m2, ⟨m3, m3b, m3c⟩, ⟨od, m4⟩, ⟨m5, m5b⟩, m6, m7⟩ := hI
  have hn : nw < 6 := by omega
  have key : ∀ (Y' : cSt) (od' : Nat → Nat) (s' : aSt), STr (sa t nw) od' Y' s' → (∃ od, STr (sa t nw) od ((fun j => if j = nw then Y' else Y j) nw) s') ∧ (past.length ≤ 4 ∧ ∀ i, i < past.length → ∃ od, STr (sa t (pa i)) od ((fun j => if j = nw then Y' else Y j) (pa i)) (pGet past i)) ∧ (∀ k, k < 6 → ∃ od, OD (sa t k) ((fun j => if j = nw then Y' else Y j) k).2.2.1 od) := by
    intro Y' od' s' h
    refine ⟨⟨od', ?_⟩, ⟨m5, fun i hi => ?_⟩, fun k hk => ?_⟩
    · show STr _ _ (if nw = nw then Y' else Y nw) _
      rw [if_pos rfl]; exact h
    · show ∃ od, STr _ od (if pa i = nw then Y' else Y (pa i)) _
      rw [if_neg (m3b i (by omega)).2.1]; exact m5b i hi
    · show ∃ od, OD _ (if k = nw then Y' else Y k).2.2.1 od
      by_cases e : k = nw
      · rw [if_pos e, e]; exact ⟨od', h.2.2.2.2.2.1⟩
      · rw [if_neg e]; exact m6 k hk
  refine ⟨sa t nw, od, Y nw, tx, pf, ac, ar, hP.1, hP.2.2.1 nw hn, m4, hP.2.1, m2, sa_in t hn, m1, fun W' Y' od' s' a1 a2 a3 a4 => ⟨⟨nw, pa, pf, tx, ac, ar, _, Xr, fc, fr, hP.st hn a1 a2, m1, by rw [a4]; exact m2, ⟨m3, m3b, m3c⟩, (key Y' od' s' a3).1, (key Y' od' s' a3).2.1, (key Y' od' s' a3).2.2, m7⟩, Fr_st hn a1⟩, fun W' Y' od' s' a4 a1 a2 a3 => ⟨⟨nw, pa, pf, tx, ac, ar, _, Xr, fc, fr, hP.st hn a1 a2, m1, AUx_z a4 m2, ⟨m3, m3b, m3c⟩, (key Y' od' s' a3).1, (key Y' od' s' a3).2.1, (key Y' od' s' a3).2.2, m7⟩, Fr_st hn a1⟩⟩
theorem TZ_build (hZ : TZ W t s past bs n) (hw : wdOk s.1) : ∃ b c se f tx pf, THd W t (nI bs.length) (nI past.length) b tx pf ∧ HAt W b c se f ∧ (∃ fs, jx_ob W (t + 2) 0 fs) ∧ ((∀ W', TI W' t s past bs n → Fr W W' t 383 → K W' none) → zcall n_A_build [.ref (t + 2), .ref (b + 6)] W K) := by
  obtain ⟨nw, pa, pf, tx, ac, ar, Y, Xr, fc, fr, hP, m1, m2, ⟨m3, m3b, m3c⟩, ⟨od, m4⟩, ⟨m5, m5b⟩, m6, m7⟩ := hZ
  have hS := hP.2.2.1 nw (by omega)
  have hi := sa_in t (k := nw) (by omega)
  refine ⟨sa t nw, _, _, _, tx, pf, hP.1, hS.1, ⟨_, hP.2.1 0 (by decide)⟩, fun hK => ?_⟩
  exact c_build hP.2.1 hS.2.2.1 (by omega) m4.1 hw m2 (fun c' r' h => hK _ ⟨nw, pa, pf, tx, c', r', Y, Xr, fc, fr, hP.au, m1, h, ⟨m3, m3b, m3c⟩, ⟨od, m4⟩, ⟨m5, m5b⟩, m6, m7⟩ (Fr.rf.bw (by omega) (by omega)))
theorem STr_setf {b i : Nat} {od : Nat → Nat} {Y : cSt} {X : cFl} {f : aFlow} {f0 : Nat} (hS : STr b od Y s) (hi : i < s.2.2.2.1.length) (hX : FWr f0 X f.1 f.2.1 f.2.2) : STr b od (Y.1, Y.2.1, Y.2.2.1, Y.2.2.2.1, Y.2.2.2.2.1, fun j => if j = od i then X else Y.2.2.2.2.2 j) (s.1, s.2.1, s.2.2.1, s.2.2.2.1.set i f, s.2.2.2.2) := by
  obtain ⟨t1, t2, t3, ⟨t4, t4b⟩, t5, hO, t7⟩ := hS
  have hl : (s.2.2.2.1.set i f).length = s.2.2.2.1.length := List.length_set
  refine ⟨t1, t2, t3, ⟨by show Y.1 4 = nI (s.2.2.2.1.set i f).length; rw [hl]; exact t4, by show (s.2.2.2.1.set i f).length ≤ 4; omega⟩, t5, hO, fun j hj => ?_⟩
  have hj : j < (s.2.2.2.1.set i f).length := hj
  rw [hl] at hj
  show ∃ f0, FWr f0 (if od j = od i then X else Y.2.2.2.2.2 (od j)) (fGet (s.2.2.2.1.set i f) j).1 (fGet (s.2.2.2.1.set i f) j).2.1 (fGet (s.2.2.2.1.set i f) j).2.2
  have eg : fGet (s.2.2.2.1.set i f) j = if j = i then f else fGet s.2.2.2.1 j := by
    unfold fGet
    rw [List.getD_eq_getElem?_getD, List.getElem?_set]
    by_cases e : j = i
    · rw [if_pos e.symm, if_pos e, if_pos hi]; rfl
    · rw [if_neg (fun h => e h.symm), if_neg e, List.getD_eq_getElem?_getD]
  rw [eg]
  by_cases e : j = i
  · rw [if_pos e, e, if_pos rfl]; exact ⟨f0, hX⟩
  · rw [if_neg e, if_neg (fun z => e (hO.2.1 _ _ (by omega) (by omega) z))]
    exact t7 j hj
theorem set_rst {l : List aFlow} {i : Nat} (hi : i < l.length) : ((l.take i).map aRst ++ l.drop i).set i (aRst (fGet l i)) = (l.take (i + 1)).map aRst ++ l.drop (i + 1) := by
  have hl : ((l.take i).map aRst).length = i := by rw [List.length_map, List.length_take]; omega
  have ef : fGet l i = l[i] := by
    unfold fGet
    rw [List.getD_eq_getElem?_getD, List.getElem?_eq_getElem hi]; rfl
  rw [List.set_append_right _ _ (by omega), hl, Nat.sub_self, List.drop_eq_getElem_cons hi, List.take_succ_eq_append_getElem hi, List.map_append, List.append_assoc, ef]
  rfl
theorem fGet_rst {l : List aFlow} {i : Nat} (hi : i < l.length) : fGet ((l.take i).map aRst ++ l.drop i) i = fGet l i := by
  have hl : ((l.take i).map aRst).length = i := by rw [List.length_map, List.length_take]; omega
  unfold fGet
  rw [List.getD_eq_getElem?_getD, List.getElem?_append_right (by omega), hl, Nat.sub_self, List.getElem?_drop, Nat.add_zero, List.getD_eq_getElem?_getD]
theorem len_rst {l : List aFlow} {i : Nat} (hi : i ≤ l.length) : ((l.take i).map aRst ++ l.drop i).length = l.length := by
  rw [List.length_append, List.length_map, List.length_take, List.length_drop]; omega
theorem c_wordsChanged (hZ : TZ W t s past bs n) (hw : wdOk s.1) (hK : ∀ W', TI W' t (aOthers s) past bs n → Fr W W' t 383 → K W' none) : zcall n_T_wordsChanged [.ref t] W K := by
  have loop : ∀ (m i : Nat), i + m = s.2.2.2.1.length → ∀ W1, TI W1 t (s.1, s.2.1, s.2.2.1, (s.2.2.2.1.take i).map aRst ++ s.2.2.2.1.drop i, s.2.2.2.2) past bs n → Fr W W1 t 383 → zwp n_T_wordsChanged 1 [(0, .ref t), (1, .int (nI i))] [] 0 0 W1 K := by
    intro m
    induction m with
    | zero =>
      intro i hi W1 hI hf
      obtain ⟨b, od, Y, tx, pf, ac, ar, h1, hS, hT, -⟩ := TI_st hI
      have h4 := hT.2.2.2.1
      have h4 : Y.1 4 = nI ((s.2.2.2.1.take i).map aRst ++ s.2.2.2.1.drop i).length ∧ ((s.2.2.2.1.take i).map aRst ++ s.2.2.2.1.drop i).length ≤ 4 := h4
      rw [len_rst (by omega)] at h4
      refine b_T_wordsChanged_1 ?_
      simp only [THd_ob h1, TF_3, HAt_ob hS.1, StF_4, and_assoc, exists_and_left, exists_eq_left, exists_eq_left', Option.some.injEq, Value.int.injEq, Value.ref.injEq, Value.long.injEq, true_and, and_true, exists_eq, exists_true_left]
      rw [h4.1]
      refine ⟨fun _ => b_T_wordsChanged_2 (hK W1 ?_ hf), fun z => absurd ((nI_leI (by omega) (by omega)).mpr (by omega)) z⟩
      have : (s.2.2.2.1.take i).map aRst ++ s.2.2.2.1.drop i = s.2.2.2.1.map aRst := by
        rw [show i = s.2.2.2.1.length by omega, List.take_length, List.drop_length, List.append_nil]
      rw [this] at hI
      exact hI
    | succ m ih =>
      intro i hi W1 hI hf
      have hil : i < s.2.2.2.1.length := by omega
      obtain ⟨b, od, Y, tx, pf, ac, ar, h1, hS, hT, -, -, -, -, hC, -⟩ := TI_st hI
      obtain ⟨t1, t2, t3, ⟨t4, t4b⟩, t5, ⟨o1, o2, o3⟩, t7⟩ := id hT
      have t4 : Y.1 4 = nI ((s.2.2.2.1.take i).map aRst ++ s.2.2.2.1.drop i).length := t4
      have t4b : ((s.2.2.2.1.take i).map aRst ++ s.2.2.2.1.drop i).length ≤ 4 := t4b
      rw [len_rst (by omega)] at t4 t4b
      obtain ⟨f0, g⟩ := t7 i (by show i < ((s.2.2.2.1.take i).map aRst ++ s.2.2.2.1.drop i).length; rw [len_rst (by omega)]; exact hil)
      have g : FWr f0 (Y.2.2.2.2.2 (od i)) (fGet ((s.2.2.2.1.take i).map aRst ++ s.2.2.2.1.drop i) i).1 (fGet ((s.2.2.2.1.take i).map aRst ++ s.2.2.2.1.drop i) i).2.1 (fGet ((s.2.2.2.1.take i).map aRst ++ s.2.2.2.1.drop i) i).2.2 := g
      rw [fGet_rst hil] at g
      have hod := o1 i (by omega)
      refine b_T_wordsChanged_1 ?_
      simp only [THd_ob h1, TF_3, HAt_ob hS.1, StF_4, StF_3, HAt_10 hS.1, and_assoc, exists_and_left, exists_eq_left, exists_eq_left', Option.some.injEq, Value.int.injEq, Value.ref.injEq, Value.long.injEq, true_and, and_true, exists_eq, exists_true_left]
      rw [t4]
      refine ⟨fun z => absurd ((nI_leI (by omega) (by omega)).mp z) (by omega), fun _ => ⟨fun z => absurd ((nI_leI (a := 4) (by decide) (by omega)).mp z) (by omega), fun _ => ⟨vin4 (by omega), b + 11 + 12 * od i, by rw [nI_clamp (by omega)]; exact o3 i (by omega), ?_⟩⟩⟩
      simp only [SAt_fl hS hod, FlF_6, Nat.add_zero, and_assoc, exists_and_left, exists_eq_left, exists_eq_left', Option.some.injEq, Value.int.injEq, Value.ref.injEq, Value.long.injEq, true_and, and_true, exists_eq, exists_true_left]
      refine ⟨⟨_, SAt_rd hS hod 0 (by decide)⟩, c_Rrestart (X := (Y.2.2.2.2.2 (od i)).2.2.2) (SAt_rd hS hod) g.2.2.2.2.2.2.1 (fun X' hX' => ⟨rfl, ?_⟩)⟩
      rw [nI_1]
      have ew : Rdw W1 (b + 11 + 12 * od i + 9) (t + 2) (b + 1) X'.1 X'.2.1 X'.2.2 = Flw W1 (b + 11 + 12 * od i) 0 (t + 2) (b + 1) ((Y.2.2.2.2.2 (od i)).1, (Y.2.2.2.2.2 (od i)).2.1, (Y.2.2.2.2.2 (od i)).2.2.1, X'.1, X'.2.1, X'.2.2) := by
        have := Flw_bR W1 (b + 11 + 12 * od i) 0 (t + 2) (b + 1) (Y.2.2.2.2.2 (od i)) X'.1 X'.2.1 X'.2.2
        rw [Flw_eq (hS.2.2.2 _ hod)] at this
        exact this
      rw [ew]
      obtain ⟨x0, x1, x2, x3, xp, xl, xr, x7, x8, x9, x10, x11⟩ := g
      have hn := hC _ _ _ _ (Fr_flow1 hod) (hS.flow1 (X := ((Y.2.2.2.2.2 (od i)).1, (Y.2.2.2.2.2 (od i)).2.1, (Y.2.2.2.2.2 (od i)).2.2.1, X'.1, X'.2.1, X'.2.2)) hod) (STr_setf (f := aRst (fGet s.2.2.2.1 i)) (f0 := f0) hT (by show i < ((s.2.2.2.1.take i).map aRst ++ s.2.2.2.1.drop i).length; rw [len_rst (by omega)]; exact hil) ⟨x0, x1, x2, x3, xp, xl, hX', x7, x8, x9, x10, x11⟩) rfl
      refine ih (i + 1) (by omega) _ ?_ (hf.tr hn.2)
      have h2 := hn.1
      have h2 : TI _ t (s.1, s.2.1, s.2.2.1, ((s.2.2.2.1.take i).map aRst ++ s.2.2.2.1.drop i).set i (aRst (fGet s.2.2.2.1 i)), s.2.2.2.2) past bs n := h2
      rw [set_rst hil] at h2
      exact h2
  obtain ⟨b, c, se, f, tx, pf, h1, h2, h3, h4⟩ := TZ_build (K := fun w107 r108 => r108 = none ∧ zwp n_T_wordsChanged 1 [(0, .ref t), (1, .int (0 : Int32))] [] 0 0 w107 K) hZ hw
  refine e_T_wordsChanged (b_T_wordsChanged_0 ?_)
  simp only [THd_ob h1, TF_2, TF_3, HAt_ob h2, StF_0, and_assoc, exists_and_left, exists_eq_left, exists_eq_left', Option.some.injEq, Value.int.injEq, Value.ref.injEq, Value.long.injEq, true_and, and_true, exists_eq, exists_true_left]
  exact ⟨h3, h4 (fun W' k1 k2 => ⟨rfl, loop s.2.2.2.1.length 0 (Nat.zero_add _) W' k1 k2⟩)⟩
theorem STr_settings {b : Nat} {od : Nat → Nat} {Y : cSt} {k v : Nat} (hS : STr b od Y s) (hk : k ≤ 2) : STr b od (Y.1, upd Y.2.1 k (nI v), Y.2.2) (aSet s k v) := by
  obtain ⟨t1, ⟨t2a, t2b, t2c⟩, t3⟩ := hS
  obtain rfl | rfl | rfl : k = 0 ∨ k = 1 ∨ k = 2 := by omega
  · exact ⟨t1, ⟨rfl, t2b, t2c⟩, t3⟩
  · exact ⟨t1, ⟨t2a, rfl, t2c⟩, t3⟩
  · exact ⟨t1, ⟨t2a, t2b, rfl⟩, t3⟩
theorem STr_setOf {b : Nat} {od : Nat → Nat} {Y : cSt} {k : Nat} (hS : STr b od Y s) (hk : k ≤ 2) : Y.2.1 k = nI (setOf s.2.1 k) := by
  obtain ⟨t1, ⟨t2a, t2b, t2c⟩, t3⟩ := hS
  obtain rfl | rfl | rfl : k = 0 ∨ k = 1 ∨ k = 2 := by omega
  · exact t2a
  · exact t2b
  · exact t2c
theorem c_set {y x : Int32} {lo hi : Nat → Int32} (hI : TI W t s past bs n) (z0 : jx_ro W (W.2.1 0) 3 lo) (z1 : jx_ro W (W.2.1 1) 3 hi) (e0 : ∀ k, k ≤ 2 → lo k = nI (setLo k)) (e1 : ∀ k, k ≤ 2 → hi k = nI (setHi k)) (hK0 : (¬ ∃ k : Nat, k ≤ 2 ∧ y = nI k ∧ nI (setLo k) ≤ x ∧ x ≤ nI (setHi k)) → K W (some (.int (-1)))) (hK1 : ∀ k v : Nat, k ≤ 2 → y = nI k → x = nI v → setLo k ≤ v → v ≤ setHi k → ∀ W', TI W' t (aSet s k v) (aPast past s) bs n → Fr W W' t 383 → K W' (some (.int (nI (setOf s.2.1 k))))) : zcall n_T_set [.ref t, .int y, .int x] W K := by
  refine e_T_set (b_T_set_0 ⟨fun z => b_T_set_1 (hK0 ?_), fun z => ⟨fun z2 => b_T_set_1 (hK0 ?_), fun z2 => ?_⟩⟩)
  · rintro ⟨k, hk, rfl, -⟩
    exact absurd ((nI_ltI (b := 0) (by omega) (by decide)).mp z) (by omega)
  · rintro ⟨k, hk, rfl, -⟩
    exact absurd ((nI_ltI (a := 2) (by decide) (by omega)).mp z2) (by omega)
  · obtain ⟨k, hk, rfl⟩ := rng_nI (hi := 2) (by decide) ⟨Int32.not_lt.mp z, Int32.not_lt.mp z2⟩
    have cl : (nI k).toNatClampNeg = k := nI_clamp (by omega)
    have uq : ∀ j : Nat, j ≤ 2 → nI k = nI j → j = k := fun j hj e => ((nI_eq (by omega) (by omega)).mp e).symm
    refine ⟨3, lo, z0, vp_in_nI (by omega) (by decide), fun z3 => b_T_set_1 (hK0 ?_), fun z3 => ⟨3, hi, z1, vp_in_nI (by omega) (by decide), fun z4 => b_T_set_2 ?_, fun z4 => b_T_set_1 (hK0 ?_)⟩⟩
    · rintro ⟨j, hj, ej, h1, h2⟩
      rw [uq j hj ej] at h1
      rw [cl, e0 k hk] at z3
      exact absurd z3 (Int32.not_lt.mpr h1)
    · rw [cl, e0 k hk] at z3
      rw [cl, e1 k hk] at z4
      have hh : setHi k ≤ 40 := by unfold setHi; split <;> (try split) <;> omega
      have hl : setLo k ≤ 1 := by unfold setLo; split <;> omega
      have h0 : (0 : Int32) ≤ x := Int32.le_trans ((nI_leI (a := 0) (b := setLo k) (by decide) (by omega)).mpr (Nat.zero_le _)) (Int32.not_lt.mp z3)
      obtain ⟨v, hv, rfl⟩ := rng_nI (hi := setHi k) (by omega) ⟨h0, z4⟩
      have hlo : setLo k ≤ v := (nI_leI (by omega) (by omega)).mp (Int32.not_lt.mp z3)
      refine ⟨TI_ob hI, c_record hI (fun W1 k1 k2 => ⟨rfl, ?_⟩)⟩
      obtain ⟨b, od, Y, tx, pf, ac, ar, h1, hS, hT, -, -, -, -, hC, -⟩ := TI_st k1
      simp only [THd_ob h1, TF_3, HAt_ob hS.1, StF_1, HAt_9 hS.1, and_assoc, exists_and_left, exists_eq_left, exists_eq_left', Option.some.injEq, Value.int.injEq, Value.ref.injEq, Value.long.injEq, true_and, and_true, exists_eq, exists_true_left, cl]
      have hn := hC _ _ _ _ (Fr_head (W := W1) (s := b) (c := Y.1) (se := upd Y.2.1 k (nI v)) (f := Y.2.2.1)) hS.head (STr_settings (v := v) hT hk) rfl
      have ew : jx_uia W1 (b + 9) 3 (upd Y.2.1 k (nI v)) = Shw W1 b Y.1 (upd Y.2.1 k (nI v)) Y.2.2.1 := by
        have := Shw_u9 W1 b Y.1 Y.2.1 Y.2.2.1 (upd Y.2.1 k (nI v))
        rw [Shw_eq hS.1] at this
        exact this
      rw [ew, STr_setOf hT hk]
      exact ⟨vp_in_nI (by omega) (by decide), vp_in_nI (by omega) (by decide), hK1 k v hk rfl rfl hlo hv _ hn.1 (k2.tr hn.2)⟩
    · rintro ⟨j, hj, ej, h1, h2⟩
      rw [uq j hj ej] at h2
      rw [cl, e1 k hk] at z4
      exact z4 h2
theorem s_T_isLetter {x : Int32} {w : jx_W} (h1 : (97 : Int32) ≤ x ∧ x ≤ 122 → K w (some (.int 1))) (h0 : ¬ ((97 : Int32) ≤ x ∧ x ≤ 122) → K w (some (.int 0))) : zcall n_T_isLetter [.int x] w K :=
  e_T_isLetter (b_T_isLetter_0 ⟨fun z => b_T_isLetter_1 (b_T_isLetter_2 ⟨b01, h0 (fun y => absurd z (Int32.not_lt.mpr y.1))⟩), fun z => ⟨fun z2 => b_T_isLetter_1 (b_T_isLetter_2 ⟨b01, h0 (fun y => absurd z2 (Int32.not_lt.mpr y.2))⟩), fun z2 => b_T_isLetter_2 ⟨b11, h1 ⟨Int32.not_lt.mp z, Int32.not_lt.mp z2⟩⟩⟩⟩)
theorem aFau_le : ∀ {m i k : Nat}, aFau bs m i = some k → k ≤ i + m
  | 0, i, k, h => by cases h
  | m + 1, i, k, h => by
    unfold aFau at h
    split at h
    · cases h; omega
    · split at h
      · have := aFau_le h; omega
      · cases h; omega
theorem aFault_lt {k : Nat} (h : aFault bs = some k) : k ≤ bs.length := by
  unfold aFault at h
  split at h
  · cases h; exact Nat.zero_le _
  · have := aFau_le h; omega
theorem c_firstWrong (hI : TI W t s past bs n) (h0 : aFault bs = none → K W (some (.int (-1)))) (h1 : ∀ k, aFault bs = some k → K W (some (.int (nI k)))) : zcall n_T_firstWrongByte [.ref t] W K := by
  obtain ⟨b, od, Y, tx, pf, ac, ar, hd, hS, hT, -, -, -, ⟨hl, htx⟩, -⟩ := TI_st hI
  have hba : ∀ m f, jx_ba W (t + 1) m f ↔ m = 40 ∧ f = tx := fun m f => ba_iff (hd.1 1 (by decide))
  have loop : ∀ (m i : Nat), i ≤ 8 → i + m = bs.length → (aFau bs m i = none → K W (some (.int (-1)))) → (∀ k, aFau bs m i = some k → K W (some (.int (nI k)))) → zwp n_T_firstWrongByte 2 [(0, .ref t), (1, .int (nI i))] [] 0 0 W K := by
    intro m
    induction m with
    | zero =>
      intro i hi8 hi k0 k1
      refine b_T_firstWrongByte_2 ?_
      simp only [THd_ob hd, TF_1, and_assoc, exists_and_left, exists_eq_left, exists_eq_left', Option.some.injEq, Value.int.injEq, Value.ref.injEq, Value.long.injEq, true_and, and_true, exists_eq, exists_true_left]
      exact ⟨fun _ => b_T_firstWrongByte_5 (k0 rfl), fun z => absurd ((nI_leI (by omega) (by omega)).mpr (by omega)) z⟩
    | succ m ih =>
      intro i hi8 hi k0 k1
      unfold aFau at k0 k1
      refine b_T_firstWrongByte_2 ?_
      simp only [THd_ob hd, TF_0, TF_1, hba, and_assoc, exists_and_left, exists_eq_left, exists_eq_left', Option.some.injEq, Value.int.injEq, Value.ref.injEq, Value.long.injEq, true_and, and_true, exists_eq, exists_true_left]
      rw [nI_clamp (by omega), htx i (by omega)]
      refine ⟨fun z => absurd ((nI_leI (by omega) (by omega)).mp z) (by omega), fun _ => ⟨fun z => absurd ((nI_leI (a := 40) (by decide) (by omega)).mp z) (by omega), fun _ => ⟨fun z => b_T_firstWrongByte_3 ?_, fun z => ⟨vp_in_nI (by omega) (by decide), s_T_isLetter (fun a => ⟨_, rfl, fun _ => b_T_firstWrongByte_4 ?_, fun z => absurd z (by decide)⟩) (fun a => ⟨_, rfl, fun z => absurd rfl z, fun _ => b_T_firstWrongByte_3 ?_⟩)⟩⟩⟩⟩
      · have h8 := (nI_leI (a := 8) (by decide) (by omega)).mp z
        have e8 : i = 8 := by omega
        rw [if_pos e8] at k1
        exact k1 i rfl
      · have h8 : i ≠ 8 := fun e => z (by rw [e]; decide)
        rw [if_neg h8, if_pos a] at k0 k1
        rw [nI_1]
        exact ih (i + 1) (by omega) (by omega) k0 k1
      · have h8 : i ≠ 8 := fun e => z (by rw [e]; decide)
        rw [if_neg h8, if_neg a] at k1
        exact k1 i rfl
  unfold aFault at h0 h1
  refine e_T_firstWrongByte (b_T_firstWrongByte_0 ?_)
  simp only [THd_ob hd, TF_1, and_assoc, exists_and_left, exists_eq_left, exists_eq_left', Option.some.injEq, Value.int.injEq, Value.ref.injEq, Value.long.injEq, true_and, and_true, exists_eq, exists_true_left]
  refine ⟨fun z => b_T_firstWrongByte_1 ?_, fun z => ?_⟩
  · have hne : bs.length ≠ 0 := fun e => z (by rw [e]; rfl)
    rw [if_neg hne] at h0 h1
    exact loop bs.length 0 (by decide) (Nat.zero_add _) h0 h1
  · have he : bs.length = 0 := (nI_eq (b := 0) (by omega) (by decide)).mp z
    rw [if_pos he] at h1
    exact h1 0 rfl
theorem wdOk_def {wd : Nat → List Nat} {v : Nat} (hw : wdOk wd) (hn : aFault bs = none) : wdOk (aDefW wd v (bsL bs)) := fun u hu => by
  obtain ⟨b1, b8, -⟩ := aFault_none hn
  unfold aDefW
  by_cases e : u = v
  · rw [if_pos e]
    refine ⟨by rw [bsL_len]; exact b8, fun x hx => ?_⟩
    obtain ⟨i, hi, ei⟩ := List.getElem_of_mem hx
    rw [bsL_len] at hi
    have := (bsL_get hn hi).2
    rw [List.getD_eq_getElem?_getD, List.getElem?_eq_getElem (by rw [bsL_len]; exact hi)] at this
    rw [← ei]; exact this
  · rw [if_neg e]; exact hw u hu
theorem wdOk_for {wd : Nat → List Nat} {v : Nat} (hw : wdOk wd) : wdOk (aDefW wd v []) := fun u hu => by
  unfold aDefW
  by_cases e : u = v
  · rw [if_pos e]; exact ⟨Nat.zero_le _, fun x hx => (by cases hx)⟩
  · rw [if_neg e]; exact hw u hu
theorem STr_words {b : Nat} {od : Nat → Nat} {Y : cSt} {r' : Nat → Nat → Int32} {wd' : Nat → List Nat} (hS : STr b od Y s) (h : WDr r' wd') : STr b od (Y.1, Y.2.1, Y.2.2.1, Y.2.2.2.1, r', Y.2.2.2.2.2) (wd', s.2) := ⟨h, hS.2⟩
theorem Fr_words {b : Nat} {r' : Nat → Nat → Int32} : Fr W (Wdw W (b + 6) r') b 59 := Fr.rf.bw (by omega) (by omega)
theorem c_define {x : Int32} (hI : TI W t s past bs n) (hw : wdOk s.1) (hK0 : ¬ ((0 : Int32) ≤ x ∧ x ≤ 5) → K W (some (.int (-1)))) (hK1 : ∀ k, (0 : Int32) ≤ x ∧ x ≤ 5 → aFault bs = some k → K W (some (.int (-10 - nI k)))) (hK2 : ∀ v, v < 6 → x = nI v → aFault bs = none → ∀ W', TI W' t (aDefine s v bs) (aPast past s) bs n → Fr W W' t 383 → K W' (some (.int (nI (nodesOf (aDefW s.1 v (bsL bs))).length)))) : zcall n_T_define [.ref t, .int x] W K := by
  have h40 : bs.length ≤ 40 := by
    obtain ⟨b, od, Y, tx, pf, ac, ar, hd, hS, hT, -, -, -, ⟨hl, htx⟩, -⟩ := TI_st hI
    exact hl
  refine e_T_define (b_T_define_0 (s_T_isWord (fun a => ⟨_, rfl, fun _ => b_T_define_1 ⟨TI_ob hI, c_firstWrong hI (fun hn => ⟨_, rfl, fun _ => b_T_define_2 ?_, fun z => absurd rfl z⟩) (fun k hk => ⟨_, rfl, fun z => ?_, fun _ => hK1 k a hk⟩)⟩, fun z => absurd z (by decide)⟩) (fun a => ⟨_, rfl, fun z => absurd rfl z, fun _ => hK0 a⟩)))
  · obtain ⟨v, hv, rfl⟩ := rng_nI (hi := 5) (by decide) a
    refine ⟨TI_ob hI, c_record hI (fun W1 k1 k2 => ⟨rfl, ?_⟩)⟩
    obtain ⟨b, od, Y, tx, pf, ac, ar, h1, hS, hT, -, -, hb, ⟨hl, htx⟩, -, hC⟩ := TI_st k1
    simp only [THd_ob h1, TF_0, TF_1, TF_3, HAt_ob hS.1, StF_0, and_assoc, exists_and_left, exists_eq_left, exists_eq_left', Option.some.injEq, Value.int.injEq, Value.ref.injEq, Value.long.injEq, true_and, and_true, exists_eq, exists_true_left]
    refine ⟨⟨_, hS.2.2.1 0 (by decide)⟩, c_wput (v := v) (bs := bs) (f := tx) hS.2.2.1 hT.1 rfl (by omega) (h1.1 1 (by decide)) (by omega) htx hn rfl (fun r' hr' => ⟨rfl, ?_⟩)⟩
    have hn2 := hC _ _ _ _ hw Fr_words (hS.words (r := r')) (STr_words hT hr')
    refine ⟨TZ_ob hn2.1, c_wordsChanged hn2.1 (wdOk_def hw hn) (fun W2 k3 k4 => ⟨rfl, ?_⟩)⟩
    obtain ⟨b', od', Y', tx', pf', ac', ar', h1', hS', hT', hA', hX', -⟩ := TI_st k3
    simp only [THd_ob h1', TF_2, AuAt_ob hA', AuF_0, and_assoc, exists_and_left, exists_eq_left, exists_eq_left', Option.some.injEq, Value.int.injEq, Value.ref.injEq, Value.long.injEq, true_and, and_true, exists_eq, exists_true_left]
    rw [hX'.1]
    exact hK2 v (by omega) rfl hn W2 k3 ((k2.tr hn2.2).tr k4)
  · exfalso
    have hk2 : k < 2 ^ 31 := by
      have := aFault_lt hk
      omega
    exact absurd z (nI_ne1 hk2)
theorem c_forget {x : Int32} (hI : TI W t s past bs n) (hw : wdOk s.1) (hK0 : ¬ ((0 : Int32) ≤ x ∧ x ≤ 5) → K W (some (.int (-1)))) (hK1 : ∀ v, v < 6 → x = nI v → (s.1 v).length = 0 → K W (some (.int (-2)))) (hK2 : ∀ v, v < 6 → x = nI v → (s.1 v).length ≠ 0 → ∀ W', TI W' t (aForget s v) (aPast past s) bs n → Fr W W' t 383 → K W' (some (.int (nI (nodesOf (aDefW s.1 v [])).length)))) : zcall n_T_forget [.ref t, .int x] W K := by
  refine e_T_forget (b_T_forget_0 (s_T_isWord (fun a => ⟨_, rfl, fun _ => b_T_forget_1 ?_, fun z => absurd z (by decide)⟩) (fun a => ⟨_, rfl, fun z => absurd rfl z, fun _ => hK0 a⟩)))
  obtain ⟨v, hv, rfl⟩ := rng_nI (hi := 5) (by decide) a
  obtain ⟨b0, od0, Y0, tx0, pf0, ac0, ar0, g1, gS, gT, -⟩ := TI_st hI
  simp only [THd_ob g1, TF_3, HAt_ob gS.1, StF_0, and_assoc, exists_and_left, exists_eq_left, exists_eq_left', Option.some.injEq, Value.int.injEq, Value.ref.injEq, Value.long.injEq, true_and, and_true, exists_eq, exists_true_left]
  refine ⟨⟨_, gS.2.2.1 0 (by decide)⟩, c_isDefined (v := v) gS.2.2.1 gT.1 rfl (by omega) (fun h => ⟨_, rfl, fun _ => b_T_forget_2 ?_, fun z => absurd z (by decide)⟩) (fun h => ⟨_, rfl, fun z => absurd rfl z, fun _ => hK1 v (by omega) rfl h⟩)⟩
  refine ⟨TI_ob hI, c_record hI (fun W1 k1 k2 => ⟨rfl, ?_⟩)⟩
  obtain ⟨b, od, Y, tx, pf, ac, ar, h1, hS, hT, -, -, hb, ⟨hl, htx⟩, -, hC⟩ := TI_st k1
  simp only [THd_ob h1, TF_3, HAt_ob hS.1, StF_0, and_assoc, exists_and_left, exists_eq_left, exists_eq_left', Option.some.injEq, Value.int.injEq, Value.ref.injEq, Value.long.injEq, true_and, and_true, exists_eq, exists_true_left]
  refine ⟨⟨_, hS.2.2.1 0 (by decide)⟩, c_wremove (v := v) hS.2.2.1 hT.1 rfl (by omega) (fun r' hr' => ⟨rfl, ?_⟩)⟩
  have hn2 := hC _ _ _ _ hw Fr_words (hS.words (r := r')) (STr_words hT hr')
  refine ⟨TZ_ob hn2.1, c_wordsChanged hn2.1 (wdOk_for hw) (fun W2 k3 k4 => ⟨rfl, ?_⟩)⟩
  obtain ⟨b', od', Y', tx', pf', ac', ar', h1', hS', hT', hA', hX', -⟩ := TI_st k3
  simp only [THd_ob h1', TF_2, AuAt_ob hA', AuF_0, and_assoc, exists_and_left, exists_eq_left, exists_eq_left', Option.some.injEq, Value.int.injEq, Value.ref.injEq, Value.long.injEq, true_and, and_true, exists_eq, exists_true_left]
  rw [hX'.1]
  exact hK2 v (by omega) rfl h W2 k3 ((k2.tr hn2.2).tr k4)
end CTop4
