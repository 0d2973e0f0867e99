/-! THE CLASS's METHODS that tell of finds, of flows, of all -/
theorem TI_now {W : jx_W} {t : Nat} {s : aSt} {past : List aSt} {bs : List Int32} {n : Nat} (hI : TI W t s past bs n) : ∃ b od Y tx pf ac ar, THd W t (nI bs.length) (nI past.length) b tx pf ∧ SAt W b (t + 2) Y ∧ STr b od Y s ∧ At W (t + 2) 9 (AuC (t + 2) ac ar) ∧ AUx ac ar s.1 := by
  obtain ⟨nw, pa, pf, tx, ac, ar, Y, Xr, fc, fr, hP, -, m2, ⟨m3, -⟩, ⟨od, m4⟩, -⟩ := hI
  exact ⟨sa t nw, od, Y nw, tx, pf, ac, ar, hP.1, hP.2.2.1 nw (by omega), m4, hP.2.1, m2⟩
theorem SAt_rd {W : jx_W} {s au : Nat} {Y : cSt} (h : SAt W s au Y) {k : Nat} (hk : k < 4) : At W (s + 11 + 12 * k + 9) 3 (RdC (s + 11 + 12 * k + 9) au (s + 1) (Y.2.2.2.2.2 k).2.2.2.1 (Y.2.2.2.2.2 k).2.2.2.2.1 (Y.2.2.2.2.2 k).2.2.2.2.2) := FlR (gp := 0) (h.2.2.2 k hk)
theorem SAt_ro {W : jx_W} {s au : Nat} {Y : cSt} (h : SAt W s au Y) {k : Nat} (hk : k < 4) (fs : List Value) : jx_ob W (s + 11 + 12 * k + 9) 3 fs ↔ fs = RdF (s + 11 + 12 * k + 9) au (s + 1) (Y.2.2.2.2.2 k).2.2.2.1 (Y.2.2.2.2.2 k).2.2.2.2.1 := ob_iff (SAt_rd h hk 0 (by decide))
theorem ask_key {s : aSt} {hi : Nat} {key x : Int32} {v : aFlow → Nat → Int32} (h : ¬ ((0 : Int32) ≤ key ∧ key ≤ 99)) : aAsk s 0 hi key x v = -1 := by
  unfold aAsk aAsked
  rw [if_neg h]
  by_cases h2 : (0 : Int32) ≤ x ∧ x ≤ nI hi
  · rw [if_pos h2, if_neg (by decide)]
  · rw [if_neg h2]
theorem ask_x {s : aSt} {hi : Nat} {key x : Int32} {v : aFlow → Nat → Int32} (h : ¬ ((0 : Int32) ≤ x ∧ x ≤ nI hi)) : aAsk s 0 hi key x v = -1 := if_neg h
theorem ask_none {s : aSt} {hi : Nat} {key x : Int32} {v : aFlow → Nat → Int32} (h : (0 : Int32) ≤ key ∧ key ≤ 99) (hx : (0 : Int32) ≤ x ∧ x ≤ nI hi) (e : aPlace s.2.2.2.1 key = none) : aAsk s 0 hi key x v = -2 := by
  unfold aAsk aAsked
  rw [if_pos h, if_pos hx, e]
  rfl
theorem ask_some {s : aSt} {hi i k : Nat} {key x : Int32} {v : aFlow → Nat → Int32} (h : (0 : Int32) ≤ key ∧ key ≤ 99) (hx : (0 : Int32) ≤ x ∧ x ≤ nI hi) (e : aPlace s.2.2.2.1 key = some i) (hi4 : i < 4) (ek : x = nI k) (hk : k < 2 ^ 31) : aAsk s 0 hi key x v = v (fGet s.2.2.2.1 i) k := by
  unfold aAsk aAsked
  rw [if_pos h, if_pos hx, e]
  show (if (0 : Int32) ≤ nI i then v (fGet s.2.2.2.1 (nI i).toNatClampNeg) x.toNatClampNeg else _) = _
  rw [if_pos (show (0 : Int32) ≤ nI i from (nI_leI (a := 0) (by decide) (by omega)).mpr (Nat.zero_le _)), nI_clamp (by omega), ek, nI_clamp hk]
section CTop3
variable {W : jx_W} {t : Nat} {s : aSt} {past : List aSt} {bs : List Int32} {n : Nat} {K : jx_Q}
theorem c_find {x y : Int32} (hI : TI W t s past bs n) (hb : s.2.2.1.length < 2 ^ 31) (hK : K W (some (.int (aFind s.2.2.1 x y)))) : zcall n_T_find [.ref t, .int x, .int y] W K := by
  obtain ⟨b, od, Y, tx, pf, ac, ar, h1, hS, hT, h2, h3⟩ := TI_now hI
  unfold aFind at hK
  refine e_T_find (b_T_find_0 ⟨fun z => b_T_find_1 ?_, fun z => ⟨fun z2 => b_T_find_1 ?_, fun z2 => ⟨fun z3 => b_T_find_2 ?_, fun z3 => b_T_find_1 ?_⟩⟩⟩)
  · rw [if_neg (fun t => t.1 z)] at hK; exact hK
  · rw [if_neg (fun t => absurd z2 (Int32.not_lt.mpr t.2.1))] at hK; exact hK
  · obtain ⟨j, hj, rfl⟩ := nat_n (hi := 4) (by decide) z2 z3
    rw [if_pos ⟨z, Int32.not_lt.mp z2, rng_lt (hi := 3) (by decide) z3⟩, nI_clamp (n := j) (by omega)] at hK
    simp only [THd_ob h1, TF_3, HAt_ob hS.1, StF_2, and_assoc, exists_and_left, exists_eq_left, exists_eq_left', Option.some.injEq, Value.int.injEq, Value.ref.injEq, Value.long.injEq, true_and, and_true, exists_eq, exists_true_left]
    exact ⟨⟨_, hS.2.1 0 (by decide)⟩, c_tell hS.2.1 hT.2.2.1 hb z rfl hj ⟨_, rfl, hK⟩⟩
  · rw [if_neg (fun t => z3 (rng_ge (hi := 3) (by decide) t.2.2))] at hK; exact hK
theorem c_told {x : Int32} (hI : TI W t s past bs n) (hb : s.2.2.1.length < 2 ^ 31) (hK : K W (some (.int (aTold (auOf s.1) s past bs x)))) : zcall n_T_told [.ref t, .int x] W K := by
  obtain ⟨b, od, Y, tx, pf, ac, ar, h1, hS, hT, h2, h3⟩ := TI_now hI
  obtain ⟨t1, ⟨t2a, t2b, t2c⟩, t3, ⟨t4, t4b⟩, t5, t6, t7⟩ := hT
  unfold aTold at hK
  have fo : ∀ fs, jx_ob W (b + 1) 1 fs ↔ fs = FdF (b + 1) Y.2.2.2.1.1 := fun fs => ob_iff (hS.2.1 0 (by decide))
  have e0 : (0 : Int32).toNatClampNeg = 0 := by decide
  have e1 : (1 : Int32).toNatClampNeg = 1 := by decide
  have e2 : (2 : Int32).toNatClampNeg = 2 := by decide
  have go : ∀ k, x = nI k → k < 12 → K W (some (.int (aToldN (auOf s.1) s past bs k))) := fun k e hk => by
    subst e
    rw [if_pos ⟨fun z => absurd ((nI_ltI (b := 0) (by omega) (by decide)).mp z) (by omega), fun z => absurd ((nI_leI (a := 12) (by decide) (by omega)).mp z) (by omega)⟩, nI_clamp (by omega)] at hK
    exact hK
  have big : x.toInt < 0 ∨ 12 ≤ x.toInt → K W (some (.int (-1))) := fun h => by
    rw [if_neg (fun t => ?_)] at hK
    · exact hK
    · rcases h with h | h
      · exact t.1 (Int32.lt_iff_toInt_lt.mpr (by rw [show (0 : Int32).toInt = 0 by decide]; exact h))
      · exact t.2 (Int32.le_iff_toInt_le.mpr (by rw [show (12 : Int32).toInt = 12 by decide]; exact h))
  have xe : ∀ k : Nat, k < 12 → x.toInt = (k : Int) → x = nI k := fun k hk e => Int32.toInt_inj.mp (by rw [e, nI_toInt (by omega)])
  have g : ∀ k : Nat, k < 12 → x.toInt = (k : Int) → K W (some (.int (aToldN (auOf s.1) s past bs k))) := fun k hk e => go k (xe k hk e) hk
  refine e_T_told (b_T_told_0 ⟨fun z => b_T_told_1 ?_, fun z => b_T_told_2 ?_, fun z => b_T_told_3 ?_, fun z => b_T_told_4 ?_, fun z => b_T_told_5 ?_, fun z => b_T_told_6 ?_, fun z => b_T_told_7 ?_, fun z => b_T_told_8 ?_, fun z => b_T_told_9 ?_, fun z => b_T_told_10 ?_, fun z => b_T_told_11 ?_, fun z => b_T_told_12 ?_, fun z => b_T_told_13 (big z)⟩)
  · simp only [THd_ob h1, TF_3, HAt_ob hS.1, StF_0, and_assoc, exists_and_left, exists_eq_left, exists_eq_left', Option.some.injEq, Value.int.injEq, Value.ref.injEq, Value.long.injEq, true_and, and_true, exists_eq, exists_true_left]
    exact ⟨⟨_, hS.2.2.1 0 (by decide)⟩, c_definedSet hS.2.2.1 t1 ⟨_, rfl, g 0 (by decide) z⟩⟩
  · simp only [THd_ob h1, TF_2, AuAt_ob h2, AuF_0, and_assoc, exists_and_left, exists_eq_left, exists_eq_left', Option.some.injEq, Value.int.injEq, Value.ref.injEq, Value.long.injEq, true_and, and_true, exists_eq, exists_true_left]
    rw [h3.1]; exact g 1 (by decide) z
  · simp only [THd_ob h1, TF_3, HAt_ob hS.1, StF_1, HAt_9 hS.1, and_assoc, exists_and_left, exists_eq_left, exists_eq_left', Option.some.injEq, Value.int.injEq, Value.ref.injEq, Value.long.injEq, true_and, and_true, exists_eq, exists_true_left, e0]
    rw [t2a]; exact ⟨vp_in_nI (N := 3) (n := 0) (by decide) (by decide), g 2 (by decide) z⟩
  · simp only [THd_ob h1, TF_3, HAt_ob hS.1, StF_1, HAt_9 hS.1, and_assoc, exists_and_left, exists_eq_left, exists_eq_left', Option.some.injEq, Value.int.injEq, Value.ref.injEq, Value.long.injEq, true_and, and_true, exists_eq, exists_true_left, e1]
    rw [t2b]; exact ⟨vp_in_nI (N := 3) (n := 1) (by decide) (by decide), g 3 (by decide) z⟩
  · simp only [THd_ob h1, TF_3, HAt_ob hS.1, StF_1, HAt_9 hS.1, and_assoc, exists_and_left, exists_eq_left, exists_eq_left', Option.some.injEq, Value.int.injEq, Value.ref.injEq, Value.long.injEq, true_and, and_true, exists_eq, exists_true_left, e2]
    rw [t2c]; exact ⟨vp_in_nI (N := 3) (n := 2) (by decide) (by decide), g 4 (by decide) z⟩
  · simp only [THd_ob h1, TF_3, HAt_ob hS.1, StF_4, and_assoc, exists_and_left, exists_eq_left, exists_eq_left', Option.some.injEq, Value.int.injEq, Value.ref.injEq, Value.long.injEq, true_and, and_true, exists_eq, exists_true_left]
    rw [t4]; exact g 5 (by decide) z
  · simp only [THd_ob h1, TF_3, HAt_ob hS.1, StF_2, fo, FdF_2, and_assoc, exists_and_left, exists_eq_left, exists_eq_left', Option.some.injEq, Value.int.injEq, Value.ref.injEq, Value.long.injEq, true_and, and_true, exists_eq, exists_true_left]
    rw [t3.2.2.1]; exact g 6 (by decide) z
  · simp only [THd_ob h1, TF_3, HAt_ob hS.1, StF_2, fo, FdF_0, and_assoc, exists_and_left, exists_eq_left, exists_eq_left', Option.some.injEq, Value.int.injEq, Value.ref.injEq, Value.long.injEq, true_and, and_true, exists_eq, exists_true_left]
    rw [t3.1]; exact g 7 (by decide) z
  · simp only [THd_ob h1, TF_3, HAt_ob hS.1, StF_2, fo, FdF_1, and_assoc, exists_and_left, exists_eq_left, exists_eq_left', Option.some.injEq, Value.int.injEq, Value.ref.injEq, Value.long.injEq, true_and, and_true, exists_eq, exists_true_left]
    rw [t3.2.1]; exact g 8 (by decide) z
  · simp only [THd_ob h1, TF_3, HAt_ob hS.1, StF_5, and_assoc, exists_and_left, exists_eq_left, exists_eq_left', Option.some.injEq, Value.int.injEq, Value.ref.injEq, Value.long.injEq, true_and, and_true, exists_eq, exists_true_left]
    rw [t5]; exact g 9 (by decide) z
  · simp only [THd_ob h1, TF_7, and_assoc, exists_and_left, exists_eq_left, exists_eq_left', Option.some.injEq, Value.int.injEq, Value.ref.injEq, Value.long.injEq, true_and, and_true, exists_eq, exists_true_left]
    exact g 10 (by decide) z
  · simp only [THd_ob h1, TF_1, and_assoc, exists_and_left, exists_eq_left, exists_eq_left', Option.some.injEq, Value.int.injEq, Value.ref.injEq, Value.long.injEq, true_and, and_true, exists_eq, exists_true_left]
    exact g 11 (by decide) z
theorem c_property {key x : Int32} (hI : TI W t s past bs n) (hO : stOk (auOf s.1) s) (hw : wdOk s.1) (hps : ∀ f ∈ s.2.2.2.1, f.2.1.1.1.2.1 < 2 ^ (auOf s.1).1) (hK : K W (some (.int (aAsk s 0 17 key x (fun f k => aProp (auOf s.1) f k))))) : zcall n_T_property [.ref t, .int key, .int x] W K := by
  obtain ⟨b, od, Y, tx, pf, ac, ar, h1, hS, hT, h2, h3⟩ := TI_now hI
  have so : ∃ fs, jx_ob W b 5 fs := ⟨_, hS.1.1⟩
  refine e_T_property (b_T_property_0 (s_T_isKey (fun a => ⟨_, rfl, fun z => absurd z (by decide), fun _ => ⟨fun z => b_T_property_1 ?_, fun z => ⟨fun z2 => b_T_property_2 ?_, fun z2 => b_T_property_1 ?_⟩⟩⟩) (fun a => ⟨_, rfl, fun _ => b_T_property_1 ?_, fun z => absurd rfl z⟩)))
  · rw [ask_x (fun t => absurd z (Int32.not_lt.mpr t.1))] at hK; exact hK
  · have hx : (0 : Int32) ≤ x ∧ x ≤ nI 17 := ⟨Int32.not_lt.mp z, rng_lt (hi := 17) (by decide) z2⟩
    obtain ⟨k, hk, ek⟩ := nat_n (hi := 18) (by decide) z z2
    simp only [THd_ob h1, TF_3, and_assoc, exists_and_left, exists_eq_left, exists_eq_left', Option.some.injEq, Value.int.injEq, Value.ref.injEq, Value.long.injEq, true_and, and_true, exists_eq, exists_true_left]
    refine ⟨so, c_placeOf hS hT ⟨_, rfl, fun y => b_T_property_3 ?_, fun y => b_T_property_4 ?_⟩⟩
    · obtain ⟨t1, t2, t3, ⟨t4, t4b⟩, t5, ⟨o1, o2, o3⟩, t7⟩ := hT
      cases e : aPlace s.2.2.2.1 key with
      | none => rw [e] at y; exact absurd rfl y
      | some i =>
        have hi := (aPlace_lt e).1
        rw [ask_some a hx e (by omega) ek (by omega)] at hK
        obtain ⟨f0, g⟩ := t7 i hi
        have hm := fGet_mem hi
        simp only [THd_ob h1, TF_3, HAt_ob hS.1, StF_3, HAt_10 hS.1, and_assoc, exists_and_left, exists_eq_left, exists_eq_left', Option.some.injEq, Value.int.injEq, Value.ref.injEq, Value.long.injEq, true_and, and_true, exists_eq, exists_true_left]
        refine ⟨vin4 (by omega), b + 11 + 12 * od i, by show Y.2.2.1 (nI i).toNatClampNeg = _; rw [nI_clamp (by omega)]; exact o3 i (by omega), ⟨_, (hS.2.2.2 _ (o1 i (by omega))).1⟩, ?_⟩
        exact c_ftell (hS.2.2.2 _ (o1 i (by omega))) g (hO.2.1 _ hm).2.2.1 (au_ok hw) (hps _ hm) ek hk ⟨_, rfl, b_T_property_4 hK⟩
    · cases e : aPlace s.2.2.2.1 key with
      | none => rw [ask_none a hx e] at hK; exact hK
      | some i =>
        have := (aPlace_lt e).1
        have := hT.2.2.2.1.2
        rw [e] at y; exact absurd y (nI_ne1 (by omega))
  · rw [ask_x (fun t => z2 (rng_ge (hi := 17) (by decide) t.2))] at hK; exact hK
  · rw [ask_key a] at hK; exact hK
theorem c_byteAt {key x : Int32} (hI : TI W t s past bs n) (hO : stOk (auOf s.1) s) (hw : wdOk s.1)  (hK : K W (some (.int (aAsk s 0 1100 key x (fun f k => aByteNow f k))))) : zcall n_T_byteAt [.ref t, .int key, .int x] W K := by
  obtain ⟨b, od, Y, tx, pf, ac, ar, h1, hS, hT, h2, h3⟩ := TI_now hI
  have so : ∃ fs, jx_ob W b 5 fs := ⟨_, hS.1.1⟩
  refine e_T_byteAt (b_T_byteAt_0 (s_T_isKey (fun a => ⟨_, rfl, fun z => absurd z (by decide), fun _ => ⟨fun z => b_T_byteAt_1 ?_, fun z => ⟨fun z2 => b_T_byteAt_2 ?_, fun z2 => b_T_byteAt_1 ?_⟩⟩⟩) (fun a => ⟨_, rfl, fun _ => b_T_byteAt_1 ?_, fun z => absurd rfl z⟩)))
  · rw [ask_x (fun t => absurd z (Int32.not_lt.mpr t.1))] at hK; exact hK
  · have hx : (0 : Int32) ≤ x ∧ x ≤ nI 1100 := ⟨Int32.not_lt.mp z, rng_lt (hi := 1100) (by decide) z2⟩
    obtain ⟨k, hk, ek⟩ := nat_n (hi := 1101) (by decide) z z2
    simp only [THd_ob h1, TF_3, and_assoc, exists_and_left, exists_eq_left, exists_eq_left', Option.some.injEq, Value.int.injEq, Value.ref.injEq, Value.long.injEq, true_and, and_true, exists_eq, exists_true_left]
    refine ⟨so, c_placeOf hS hT ⟨_, rfl, fun y => b_T_byteAt_3 ?_, fun y => b_T_byteAt_4 ?_⟩⟩
    · obtain ⟨t1, t2, t3, ⟨t4, t4b⟩, t5, ⟨o1, o2, o3⟩, t7⟩ := hT
      cases e : aPlace s.2.2.2.1 key with
      | none => rw [e] at y; exact absurd rfl y
      | some i =>
        have hi := (aPlace_lt e).1
        rw [ask_some a hx e (by omega) ek (by omega)] at hK
        obtain ⟨f0, g⟩ := t7 i hi
        have hm := fGet_mem hi
        simp only [THd_ob h1, TF_3, HAt_ob hS.1, StF_3, HAt_10 hS.1, and_assoc, exists_and_left, exists_eq_left, exists_eq_left', Option.some.injEq, Value.int.injEq, Value.ref.injEq, Value.long.injEq, true_and, and_true, exists_eq, exists_true_left]
        refine ⟨vin4 (by omega), b + 11 + 12 * od i, by show Y.2.2.1 (nI i).toNatClampNeg = _; rw [nI_clamp (by omega)]; exact o3 i (by omega), ⟨_, (hS.2.2.2 _ (o1 i (by omega))).1⟩, ?_⟩
        exact c_chosenByte (hS.2.2.2 _ (o1 i (by omega))) g (hO.2.1 _ hm).1.1 (by have := (hO.2.1 _ hm).2.2.1; omega) ek (by omega) ⟨_, rfl, b_T_byteAt_4 hK⟩
    · cases e : aPlace s.2.2.2.1 key with
      | none => rw [ask_none a hx e] at hK; exact hK
      | some i =>
        have := (aPlace_lt e).1
        have := hT.2.2.2.1.2
        rw [e] at y; exact absurd y (nI_ne1 (by omega))
  · rw [ask_x (fun t => z2 (rng_ge (hi := 1100) (by decide) t.2))] at hK; exact hK
  · rw [ask_key a] at hK; exact hK
theorem c_read {key x : Int32} (hI : TI W t s past bs n) (hO : stOk (auOf s.1) s) (hw : wdOk s.1) (hrd : ∀ f ∈ s.2.2.2.1, f.2.1.1.1.2.2.1.length < 2 ^ 30) (hK : K W (some (.int (aAsk s 0 7 key x (fun f k => aReadNow f k))))) : zcall n_T_read [.ref t, .int key, .int x] W K := by
  obtain ⟨b, od, Y, tx, pf, ac, ar, h1, hS, hT, h2, h3⟩ := TI_now hI
  have so : ∃ fs, jx_ob W b 5 fs := ⟨_, hS.1.1⟩
  refine e_T_read (b_T_read_0 (s_T_isKey (fun a => ⟨_, rfl, fun z => absurd z (by decide), fun _ => ⟨fun z => b_T_read_1 ?_, fun z => ⟨fun z2 => b_T_read_2 ?_, fun z2 => b_T_read_1 ?_⟩⟩⟩) (fun a => ⟨_, rfl, fun _ => b_T_read_1 ?_, fun z => absurd rfl z⟩)))
  · rw [ask_x (fun t => absurd z (Int32.not_lt.mpr t.1))] at hK; exact hK
  · have hx : (0 : Int32) ≤ x ∧ x ≤ nI 7 := ⟨Int32.not_lt.mp z, rng_lt (hi := 7) (by decide) z2⟩
    obtain ⟨k, hk, ek⟩ := nat_n (hi := 8) (by decide) z z2
    simp only [THd_ob h1, TF_3, and_assoc, exists_and_left, exists_eq_left, exists_eq_left', Option.some.injEq, Value.int.injEq, Value.ref.injEq, Value.long.injEq, true_and, and_true, exists_eq, exists_true_left]
    refine ⟨so, c_placeOf hS hT ⟨_, rfl, fun y => b_T_read_3 ?_, fun y => b_T_read_4 ?_⟩⟩
    · obtain ⟨t1, t2, t3, ⟨t4, t4b⟩, t5, ⟨o1, o2, o3⟩, t7⟩ := hT
      cases e : aPlace s.2.2.2.1 key with
      | none => rw [e] at y; exact absurd rfl y
      | some i =>
        have hi := (aPlace_lt e).1
        rw [ask_some a hx e (by omega) ek (by omega)] at hK
        obtain ⟨f0, g⟩ := t7 i hi
        have hm := fGet_mem hi
        simp only [THd_ob h1, TF_3, HAt_ob hS.1, StF_3, HAt_10 hS.1, and_assoc, exists_and_left, exists_eq_left, exists_eq_left', Option.some.injEq, Value.int.injEq, Value.ref.injEq, Value.long.injEq, true_and, and_true, exists_eq, exists_true_left]
        refine ⟨vin4 (by omega), b + 11 + 12 * od i, by show Y.2.2.1 (nI i).toNatClampNeg = _; rw [nI_clamp (by omega)]; exact o3 i (by omega), ?_⟩
        simp only [SAt_fl hS (o1 i (by omega)), FlF_6, and_assoc, exists_and_left, exists_eq_left, exists_eq_left', Option.some.injEq, Value.int.injEq, Value.ref.injEq, Value.long.injEq, true_and, and_true, exists_eq, exists_true_left]
        exact ⟨⟨_, SAt_rd hS (o1 i (by omega)) 0 (by decide)⟩, c_recent (X := (Y.2.2.2.2.2 (od i)).2.2.2) (SAt_rd hS (o1 i (by omega))) g.2.2.2.2.2.2.1 (hrd _ hm) ek hk ⟨_, rfl, b_T_read_4 hK⟩⟩
    · cases e : aPlace s.2.2.2.1 key with
      | none => rw [ask_none a hx e] at hK; exact hK
      | some i =>
        have := (aPlace_lt e).1
        have := hT.2.2.2.1.2
        rw [e] at y; exact absurd y (nI_ne1 (by omega))
  · rw [ask_x (fun t => z2 (rng_ge (hi := 7) (by decide) t.2))] at hK; exact hK
  · rw [ask_key a] at hK; exact hK
theorem asked_key {l : List aFlow} {key : Int32} (h : ¬ ((0 : Int32) ≤ key ∧ key ≤ 99)) : aAsked l key = -1 := if_neg h
theorem asked_none {l : List aFlow} {key : Int32} (h : (0 : Int32) ≤ key ∧ key ≤ 99) (e : aPlace l key = none) : aAsked l key = -2 := by
  unfold aAsked
  rw [if_pos h, e]
theorem asked_some {l : List aFlow} {key : Int32} {i : Nat} (h : (0 : Int32) ≤ key ∧ key ≤ 99) (e : aPlace l key = some i) : aAsked l key = nI i := by
  unfold aAsked
  rw [if_pos h, e]
theorem c_possible {key : Int32} (hI : TI W t s past bs n) (hO : stOk (auOf s.1) s) (hw : wdOk s.1) (hps : ∀ f ∈ s.2.2.2.1, f.2.1.1.1.2.1 < 2 ^ (auOf s.1).1) (hK : K W (some (.long (aPossible s key)))) : zcall n_T_possible [.ref t, .int key] W K := by
  obtain ⟨b, od, Y, tx, pf, ac, ar, h1, hS, hT, h2, h3⟩ := TI_now hI
  have so : ∃ fs, jx_ob W b 5 fs := ⟨_, hS.1.1⟩
  unfold aPossible at hK
  refine e_T_possible (b_T_possible_0 (s_T_isKey (fun a => ⟨_, rfl, fun _ => b_T_possible_1 ?_, fun z => absurd z (by decide)⟩) (fun a => ⟨_, rfl, fun z => absurd rfl z, fun _ => ?_⟩)))
  · simp only [THd_ob h1, TF_3, and_assoc, exists_and_left, exists_eq_left, exists_eq_left', Option.some.injEq, Value.int.injEq, Value.ref.injEq, Value.long.injEq, true_and, and_true, exists_eq, exists_true_left]
    refine ⟨so, c_placeOf hS hT ⟨_, rfl, fun y => b_T_possible_2 ?_, fun y => b_T_possible_3 ?_⟩⟩
    · obtain ⟨t1, t2, t3, ⟨t4, t4b⟩, t5, ⟨o1, o2, o3⟩, t7⟩ := hT
      cases e : aPlace s.2.2.2.1 key with
      | none => rw [e] at y; exact absurd rfl y
      | some i =>
        have hi := (aPlace_lt e).1
        have h49 := (au_ok hw).2.1
        rw [asked_some a e, if_pos (show (0 : Int32) ≤ nI i from (nI_leI (a := 0) (by decide) (by omega)).mpr (Nat.zero_le _)), nI_clamp (by omega)] at hK
        obtain ⟨f0, g⟩ := t7 i hi
        have hm := fGet_mem hi
        have hlt : (fGet s.2.2.2.1 i).2.1.1.1.2.1 < 2 ^ 49 := Nat.lt_of_lt_of_le (hps _ hm) (Nat.pow_le_pow_right (by decide) h49)
        simp only [THd_ob h1, TF_3, HAt_ob hS.1, StF_3, HAt_10 hS.1, and_assoc, exists_and_left, exists_eq_left, exists_eq_left', Option.some.injEq, Value.int.injEq, Value.ref.injEq, Value.long.injEq, true_and, and_true, exists_eq, exists_true_left]
        refine ⟨vin4 (by omega), b + 11 + 12 * od i, by show Y.2.2.1 (nI i).toNatClampNeg = _; rw [nI_clamp (by omega)]; exact o3 i (by omega), ?_⟩
        simp only [SAt_fl hS (o1 i (by omega)), FlF_6, Nat.add_zero, SAt_ro hS (o1 i (by omega)), RdF_8, and_assoc, exists_and_left, exists_eq_left, exists_eq_left', Option.some.injEq, Value.int.injEq, Value.ref.injEq, Value.long.injEq, true_and, and_true, exists_eq, exists_true_left]
        refine b_T_possible_3 ?_
        rw [show (Y.2.2.2.2.2 (od i)).2.2.2.2.1 = _ from g.2.2.2.2.2.2.1.2.2.2.2.2.2.1, ← aLong_lN hlt]; exact hK
    · cases e : aPlace s.2.2.2.1 key with
      | none => rw [asked_none a e, if_neg (by decide)] at hK; exact hK
      | some i =>
        have := (aPlace_lt e).1
        have := hT.2.2.2.1.2
        rw [e] at y; exact absurd y (nI_ne1 (by omega))
  · rw [asked_key a, if_neg (by decide)] at hK; exact hK
theorem c_nearest {key : Int32} (hI : TI W t s past bs n) (hO : stOk (auOf s.1) s) (hw : wdOk s.1) (hK0 : ¬ (0 : Int32) ≤ aAsked s.2.2.2.1 key → K W (some (.int (aAsked s.2.2.2.1 key)))) (hK1 : ∀ i x, i < s.2.2.2.1.length → aAsked s.2.2.2.1 key = nI i → isNear (auOf s.1) (fGet s.2.2.2.1 i).2.1.1.1.1 x → K W (some (.int (oM x)))) : zcall n_T_nearest [.ref t, .int key] W K := by
  obtain ⟨b, od, Y, tx, pf, ac, ar, h1, hS, hT, h2, h3⟩ := TI_now hI
  have so : ∃ fs, jx_ob W b 5 fs := ⟨_, hS.1.1⟩
  refine e_T_nearest (b_T_nearest_0 (s_T_isKey (fun a => ⟨_, rfl, fun _ => b_T_nearest_1 ?_, fun z => absurd z (by decide)⟩) (fun a => ⟨_, rfl, fun z => absurd rfl z, fun _ => ?_⟩)))
  · simp only [THd_ob h1, TF_3, and_assoc, exists_and_left, exists_eq_left, exists_eq_left', Option.some.injEq, Value.int.injEq, Value.ref.injEq, Value.long.injEq, true_and, and_true, exists_eq, exists_true_left]
    refine ⟨so, c_placeOf hS hT ⟨_, rfl, fun y => b_T_nearest_2 ?_, fun y => b_T_nearest_3 ?_⟩⟩
    · obtain ⟨t1, t2, t3, ⟨t4, t4b⟩, t5, ⟨o1, o2, o3⟩, t7⟩ := hT
      cases e : aPlace s.2.2.2.1 key with
      | none => rw [e] at y; exact absurd rfl y
      | some i =>
        have hi := (aPlace_lt e).1
        obtain ⟨f0, g⟩ := t7 i hi
        have hm := fGet_mem hi
        have hnd : (fGet s.2.2.2.1 i).2.1.1.1.1 < (auOf s.1).1 := (hO.2.1 _ hm).2.1.1
        simp only [THd_ob h1, TF_2, TF_3, HAt_ob hS.1, StF_3, HAt_10 hS.1, and_assoc, exists_and_left, exists_eq_left, exists_eq_left', Option.some.injEq, Value.int.injEq, Value.ref.injEq, Value.long.injEq, true_and, and_true, exists_eq, exists_true_left]
        refine ⟨vin4 (by omega), b + 11 + 12 * od i, by show Y.2.2.1 (nI i).toNatClampNeg = _; rw [nI_clamp (by omega)]; exact o3 i (by omega), ?_⟩
        simp only [SAt_fl hS (o1 i (by omega)), FlF_6, Nat.add_zero, SAt_ro hS (o1 i (by omega)), RdF_7, and_assoc, exists_and_left, exists_eq_left, exists_eq_left', Option.some.injEq, Value.int.injEq, Value.ref.injEq, Value.long.injEq, true_and, and_true, exists_eq, exists_true_left]
        exact ⟨⟨_, h2 0 (by decide)⟩, c_fewest h2 (AUx_AUr h3) (au_ok hw) hnd g.2.2.2.2.2.2.1.2.2.2.2.2.1 (near8 hw hnd) (fun x hx => ⟨_, rfl, b_T_nearest_3 (hK1 i x hi (asked_some a e) hx)⟩)⟩
    · cases e : aPlace s.2.2.2.1 key with
      | none => rw [asked_none a e] at hK0; exact hK0 (by decide)
      | some i =>
        have := (aPlace_lt e).1
        have := hT.2.2.2.1.2
        rw [e] at y; exact absurd y (nI_ne1 (by omega))
  · rw [asked_key a] at hK0; exact hK0 (by decide)
end CTop3
