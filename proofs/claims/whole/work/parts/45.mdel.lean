/-! THE MODEL: lets(), delivers(..) -/
theorem MA.fr {c c' : Nat → Int32} {r : Nat → Nat → Int32} {A : aAU} (h : MA c r A) (e : CFr c c') : MA c' r A := ⟨(e 4 (by decide) (by decide)).trans h.1, h.2⟩
theorem PWd.fr {P P' : Nat → Int32} {A : aAU} (h : PWd P A) (e : PFr P P') : PWd P' A := fun v hv => (e _ (by omega)).trans (h v hv)
theorem CFr.b {c c' : Nat → Int32} {b : Nat} (e : CFr c c') (h : c 12 = nI b) : c' 12 = nI b := (e 12 (by decide) (by decide)).trans h
section MDel
variable {w : jx_W} {q : Nat} {c : Nat → Int32} {r : Nat → Nat → Int32} {K : jx_Q} {P g : Nat → Int32} {b : Nat} {A : aAU}
theorem f_lets {f0 n0 fl held dig index : Nat} {S : aS} (hb : c 12 = nI b) (hf : b + 710 ≤ 22416) (hb1 : 186 ≤ b) (hA : auOk A) (hm : MA c r A) (hW : PWd P A) (h2 : g 2 = nI fl) (hfl : fl < 16) (hS : sOk A S) (hR : MR f0 n0 c P g S) (hH : MHd g fl held dig index) (hi : index < 2 ^ 30)
    (hK : ∀ c' P' g', MR f0 n0 c' P' g' (aRel A fl (g 0) S held dig index) → g' 9 = nI 0 → CFr c c' → PFr P P' → GFd g g' → K (mw w q c' (rup r 0 (pgf P' b 710 g'))) none) : zcall n_M_lets [.ref q] (mw w q c (rup r 0 (pgf P b 710 g))) K := by
  obtain ⟨k1, k2, k3, k4⟩ := hH
  refine e_M_lets (b_M_lets_0 ?_)
  simp only [and_assoc, exists_and_left, exists_eq_left, exists_eq_left', Option.some.injEq, Value.int.injEq, Value.ref.injEq, Value.long.injEq, true_and, and_true, exists_eq, exists_true_left, mw_ob, mw_ia0, mw_ia2, mw_ia5, mw_ia6, mw_ia7, mw_ia8, mw_ia9, mw_ia10, mw_ia11, mw_ia15, mw_ia16, mF_0, mF_1, mF_2, mF_3, mF_4, mF_5, mF_6, mF_7, mF_8, mF_9, mF_10, mF_11, mF_12, mF_13, mF_14, mF_15, mF_16, mF_len, mF_s1, mF_s3, mF_s4, mF_s12, mF_s13, mF_s14, mw_uob, mw_u0, mw_u2, mw_u5, mw_u6, mw_u7, mw_u8, mw_u9, mw_u10, mw_u11, mw_u15, mw_u16, Nat.reduceLT, rup_s, rup_rup]
  refine f_of hb (i := 9) rfl (by decide) hf ?_
  simp only [and_assoc, exists_and_left, exists_eq_left, exists_eq_left', Option.some.injEq, Value.int.injEq, Value.ref.injEq, Value.long.injEq, true_and, and_true, exists_eq, exists_true_left, mw_ob, mw_ia0, mw_ia2, mw_ia5, mw_ia6, mw_ia7, mw_ia8, mw_ia9, mw_ia10, mw_ia11, mw_ia15, mw_ia16, mF_0, mF_1, mF_2, mF_3, mF_4, mF_5, mF_6, mF_7, mF_8, mF_9, mF_10, mF_11, mF_12, mF_13, mF_14, mF_15, mF_16, mF_len, mF_s1, mF_s3, mF_s4, mF_s12, mF_s13, mF_s14, mw_uob, mw_u0, mw_u2, mw_u5, mw_u6, mw_u7, mw_u8, mw_u9, mw_u10, mw_u11, mw_u15, mw_u16, Nat.reduceLT, rup_s, rup_rup]
  refine f_put hb (i := 9) rfl (by decide) hf ?_
  simp only [and_assoc, exists_and_left, exists_eq_left, exists_eq_left', Option.some.injEq, Value.int.injEq, Value.ref.injEq, Value.long.injEq, true_and, and_true, exists_eq, exists_true_left, mw_ob, mw_ia0, mw_ia2, mw_ia5, mw_ia6, mw_ia7, mw_ia8, mw_ia9, mw_ia10, mw_ia11, mw_ia15, mw_ia16, mF_0, mF_1, mF_2, mF_3, mF_4, mF_5, mF_6, mF_7, mF_8, mF_9, mF_10, mF_11, mF_12, mF_13, mF_14, mF_15, mF_16, mF_len, mF_s1, mF_s3, mF_s4, mF_s12, mF_s13, mF_s14, mw_uob, mw_u0, mw_u2, mw_u5, mw_u6, mw_u7, mw_u8, mw_u9, mw_u10, mw_u11, mw_u15, mw_u16, Nat.reduceLT, rup_s, rup_rup]
  rw [k1]
  have hR0 : MR f0 n0 c P (upd g 9 0) S := MR_up hR (Or.inl rfl)
  match held, k1, k2, k3, k4, hK with
  | 0, k1, k2, k3, k4, hK =>
    refine ⟨fun _ => b_M_lets_1 ⟨fun _ => b_M_lets_2 ?_, fun z => absurd (show nI 0 ≤ 1 by decide) z⟩, fun z => absurd (show nI 0 ≤ 0 by decide) z⟩
    exact hK c P _ hR0 rfl CFr.rf PFr.rf (GFd.rf.up (Or.inl rfl))
  | 1, k1, k2, k3, k4, hK =>
    obtain ⟨j1, j2, j3⟩ := k3 (by decide)
    have e10 : upd g 9 0 10 = nI (index - 1) := j3
    refine ⟨fun z => absurd z (by decide), fun _ => ?_⟩
    refine f_of hb (i := 10) rfl (by decide) hf ?_
    simp only [and_assoc, exists_and_left, exists_eq_left, exists_eq_left', Option.some.injEq, Value.int.injEq, Value.ref.injEq, Value.long.injEq, true_and, and_true, exists_eq, exists_true_left, mw_ob, mw_ia0, mw_ia2, mw_ia5, mw_ia6, mw_ia7, mw_ia8, mw_ia9, mw_ia10, mw_ia11, mw_ia15, mw_ia16, mF_0, mF_1, mF_2, mF_3, mF_4, mF_5, mF_6, mF_7, mF_8, mF_9, mF_10, mF_11, mF_12, mF_13, mF_14, mF_15, mF_16, mF_len, mF_s1, mF_s3, mF_s4, mF_s12, mF_s13, mF_s14, mw_uob, mw_u0, mw_u2, mw_u5, mw_u6, mw_u7, mw_u8, mw_u9, mw_u10, mw_u11, mw_u15, mw_u16, Nat.reduceLT, rup_s, rup_rup]
    refine f_of hb (i := 10) rfl (by decide) hf ?_
    simp only [and_assoc, exists_and_left, exists_eq_left, exists_eq_left', Option.some.injEq, Value.int.injEq, Value.ref.injEq, Value.long.injEq, true_and, and_true, exists_eq, exists_true_left, mw_ob, mw_ia0, mw_ia2, mw_ia5, mw_ia6, mw_ia7, mw_ia8, mw_ia9, mw_ia10, mw_ia11, mw_ia15, mw_ia16, mF_0, mF_1, mF_2, mF_3, mF_4, mF_5, mF_6, mF_7, mF_8, mF_9, mF_10, mF_11, mF_12, mF_13, mF_14, mF_15, mF_16, mF_len, mF_s1, mF_s3, mF_s4, mF_s12, mF_s13, mF_s14, mw_uob, mw_u0, mw_u2, mw_u5, mw_u6, mw_u7, mw_u8, mw_u9, mw_u10, mw_u11, mw_u15, mw_u16, Nat.reduceLT, rup_s, rup_rup]
    rw [e10, nI_1, show index - 1 + 1 = index by omega]
    refine f_character hb hf hb1 hA hm hW h2 hfl rfl (by decide) (nI_nn (by omega)) hS hR0 (fun c' P' g' m1 m2 m3 m4 => ?_)
    simp only [and_assoc, exists_and_left, exists_eq_left, exists_eq_left', Option.some.injEq, Value.int.injEq, Value.ref.injEq, Value.long.injEq, true_and, and_true, exists_eq, exists_true_left, mw_ob, mw_ia0, mw_ia2, mw_ia5, mw_ia6, mw_ia7, mw_ia8, mw_ia9, mw_ia10, mw_ia11, mw_ia15, mw_ia16, mF_0, mF_1, mF_2, mF_3, mF_4, mF_5, mF_6, mF_7, mF_8, mF_9, mF_10, mF_11, mF_12, mF_13, mF_14, mF_15, mF_16, mF_len, mF_s1, mF_s3, mF_s4, mF_s12, mF_s13, mF_s14, mw_uob, mw_u0, mw_u2, mw_u5, mw_u6, mw_u7, mw_u8, mw_u9, mw_u10, mw_u11, mw_u15, mw_u16, Nat.reduceLT, rup_s, rup_rup]
    refine b_M_lets_1 ⟨fun _ => b_M_lets_2 ?_, fun z => absurd (show nI 1 ≤ 1 by decide) z⟩
    exact hK c' P' g' m1 ((m4 9 (by decide) (by decide) (by decide) (by decide) (by decide) (by decide) (by decide) (by decide)).trans rfl) m2 m3 ((GFd.rf.up (Or.inl rfl)).tr m4.d)
  | 2, k1, k2, k3, k4, hK =>
    obtain ⟨j1, j2, j3⟩ := k3 (by decide)
    obtain ⟨j4, j5, -⟩ := k4 rfl
    have e10 : upd g 9 0 10 = nI (index - 2) := j3
    refine ⟨fun z => absurd z (by decide), fun _ => ?_⟩
    refine f_of hb (i := 10) rfl (by decide) hf ?_
    simp only [and_assoc, exists_and_left, exists_eq_left, exists_eq_left', Option.some.injEq, Value.int.injEq, Value.ref.injEq, Value.long.injEq, true_and, and_true, exists_eq, exists_true_left, mw_ob, mw_ia0, mw_ia2, mw_ia5, mw_ia6, mw_ia7, mw_ia8, mw_ia9, mw_ia10, mw_ia11, mw_ia15, mw_ia16, mF_0, mF_1, mF_2, mF_3, mF_4, mF_5, mF_6, mF_7, mF_8, mF_9, mF_10, mF_11, mF_12, mF_13, mF_14, mF_15, mF_16, mF_len, mF_s1, mF_s3, mF_s4, mF_s12, mF_s13, mF_s14, mw_uob, mw_u0, mw_u2, mw_u5, mw_u6, mw_u7, mw_u8, mw_u9, mw_u10, mw_u11, mw_u15, mw_u16, Nat.reduceLT, rup_s, rup_rup]
    refine f_of hb (i := 10) rfl (by decide) hf ?_
    simp only [and_assoc, exists_and_left, exists_eq_left, exists_eq_left', Option.some.injEq, Value.int.injEq, Value.ref.injEq, Value.long.injEq, true_and, and_true, exists_eq, exists_true_left, mw_ob, mw_ia0, mw_ia2, mw_ia5, mw_ia6, mw_ia7, mw_ia8, mw_ia9, mw_ia10, mw_ia11, mw_ia15, mw_ia16, mF_0, mF_1, mF_2, mF_3, mF_4, mF_5, mF_6, mF_7, mF_8, mF_9, mF_10, mF_11, mF_12, mF_13, mF_14, mF_15, mF_16, mF_len, mF_s1, mF_s3, mF_s4, mF_s12, mF_s13, mF_s14, mw_uob, mw_u0, mw_u2, mw_u5, mw_u6, mw_u7, mw_u8, mw_u9, mw_u10, mw_u11, mw_u15, mw_u16, Nat.reduceLT, rup_s, rup_rup]
    rw [e10, nI_1, show index - 2 + 1 = index - 1 by omega]
    refine f_character hb hf hb1 hA hm hW h2 hfl rfl (by decide) (nI_nn (by omega)) hS hR0 (fun c1 P1 g1 m1 m2 m3 m4 => ?_)
    simp only [and_assoc, exists_and_left, exists_eq_left, exists_eq_left', Option.some.injEq, Value.int.injEq, Value.ref.injEq, Value.long.injEq, true_and, and_true, exists_eq, exists_true_left, mw_ob, mw_ia0, mw_ia2, mw_ia5, mw_ia6, mw_ia7, mw_ia8, mw_ia9, mw_ia10, mw_ia11, mw_ia15, mw_ia16, mF_0, mF_1, mF_2, mF_3, mF_4, mF_5, mF_6, mF_7, mF_8, mF_9, mF_10, mF_11, mF_12, mF_13, mF_14, mF_15, mF_16, mF_len, mF_s1, mF_s3, mF_s4, mF_s12, mF_s13, mF_s14, mw_uob, mw_u0, mw_u2, mw_u5, mw_u6, mw_u7, mw_u8, mw_u9, mw_u10, mw_u11, mw_u15, mw_u16, Nat.reduceLT, rup_s, rup_rup]
    have lo : ∀ i, i = 0 ∨ i = 2 ∨ i = 9 ∨ i = 10 ∨ i = 11 → g1 i = upd g 9 0 i := fun i hi => m4 i (by omega) (by omega) (by omega) (by omega) (by omega) (by omega) (by omega) (by omega)
    refine b_M_lets_1 ⟨fun z => absurd z (by decide), fun _ => ?_⟩
    have hb' := m2.b hb
    simp only [and_assoc, exists_and_left, exists_eq_left, exists_eq_left', Option.some.injEq, Value.int.injEq, Value.ref.injEq, Value.long.injEq, true_and, and_true, exists_eq, exists_true_left, mw_ob, mw_ia0, mw_ia2, mw_ia5, mw_ia6, mw_ia7, mw_ia8, mw_ia9, mw_ia10, mw_ia11, mw_ia15, mw_ia16, mF_0, mF_1, mF_2, mF_3, mF_4, mF_5, mF_6, mF_7, mF_8, mF_9, mF_10, mF_11, mF_12, mF_13, mF_14, mF_15, mF_16, mF_len, mF_s1, mF_s3, mF_s4, mF_s12, mF_s13, mF_s14, mw_uob, mw_u0, mw_u2, mw_u5, mw_u6, mw_u7, mw_u8, mw_u9, mw_u10, mw_u11, mw_u15, mw_u16, Nat.reduceLT, rup_s, rup_rup]
    refine f_of hb' (i := 11) rfl (by decide) hf ?_
    simp only [and_assoc, exists_and_left, exists_eq_left, exists_eq_left', Option.some.injEq, Value.int.injEq, Value.ref.injEq, Value.long.injEq, true_and, and_true, exists_eq, exists_true_left, mw_ob, mw_ia0, mw_ia2, mw_ia5, mw_ia6, mw_ia7, mw_ia8, mw_ia9, mw_ia10, mw_ia11, mw_ia15, mw_ia16, mF_0, mF_1, mF_2, mF_3, mF_4, mF_5, mF_6, mF_7, mF_8, mF_9, mF_10, mF_11, mF_12, mF_13, mF_14, mF_15, mF_16, mF_len, mF_s1, mF_s3, mF_s4, mF_s12, mF_s13, mF_s14, mw_uob, mw_u0, mw_u2, mw_u5, mw_u6, mw_u7, mw_u8, mw_u9, mw_u10, mw_u11, mw_u15, mw_u16, Nat.reduceLT, rup_s, rup_rup]
    refine f_of hb' (i := 10) rfl (by decide) hf ?_
    simp only [and_assoc, exists_and_left, exists_eq_left, exists_eq_left', Option.some.injEq, Value.int.injEq, Value.ref.injEq, Value.long.injEq, true_and, and_true, exists_eq, exists_true_left, mw_ob, mw_ia0, mw_ia2, mw_ia5, mw_ia6, mw_ia7, mw_ia8, mw_ia9, mw_ia10, mw_ia11, mw_ia15, mw_ia16, mF_0, mF_1, mF_2, mF_3, mF_4, mF_5, mF_6, mF_7, mF_8, mF_9, mF_10, mF_11, mF_12, mF_13, mF_14, mF_15, mF_16, mF_len, mF_s1, mF_s3, mF_s4, mF_s12, mF_s13, mF_s14, mw_uob, mw_u0, mw_u2, mw_u5, mw_u6, mw_u7, mw_u8, mw_u9, mw_u10, mw_u11, mw_u15, mw_u16, Nat.reduceLT, rup_s, rup_rup]
    refine f_of hb' (i := 10) rfl (by decide) hf ?_
    simp only [and_assoc, exists_and_left, exists_eq_left, exists_eq_left', Option.some.injEq, Value.int.injEq, Value.ref.injEq, Value.long.injEq, true_and, and_true, exists_eq, exists_true_left, mw_ob, mw_ia0, mw_ia2, mw_ia5, mw_ia6, mw_ia7, mw_ia8, mw_ia9, mw_ia10, mw_ia11, mw_ia15, mw_ia16, mF_0, mF_1, mF_2, mF_3, mF_4, mF_5, mF_6, mF_7, mF_8, mF_9, mF_10, mF_11, mF_12, mF_13, mF_14, mF_15, mF_16, mF_len, mF_s1, mF_s3, mF_s4, mF_s12, mF_s13, mF_s14, mw_uob, mw_u0, mw_u2, mw_u5, mw_u6, mw_u7, mw_u8, mw_u9, mw_u10, mw_u11, mw_u15, mw_u16, Nat.reduceLT, rup_s, rup_rup]
    rw [lo 10 (by omega), lo 11 (by omega), e10, show upd g 9 0 11 = nI dig from j4, nI_1, lit_2, nI_add, show index - 2 + 1 = index - 1 by omega, show index - 2 + 2 = index by omega]
    refine f_character (S := aChar A fl (g 0) S 37 (nI (index - 2)) (nI (index - 1))) hb' hf hb1 hA (hm.fr m2) (hW.fr m3) ((lo 2 (by omega)).trans h2) hfl rfl j5 (nI_nn (by omega)) (aChar_ok hA hS (nI_nn (by omega))) m1 (fun c' P' g' n1 n2 n3 n4 => ?_)
    simp only [and_assoc, exists_and_left, exists_eq_left, exists_eq_left', Option.some.injEq, Value.int.injEq, Value.ref.injEq, Value.long.injEq, true_and, and_true, exists_eq, exists_true_left, mw_ob, mw_ia0, mw_ia2, mw_ia5, mw_ia6, mw_ia7, mw_ia8, mw_ia9, mw_ia10, mw_ia11, mw_ia15, mw_ia16, mF_0, mF_1, mF_2, mF_3, mF_4, mF_5, mF_6, mF_7, mF_8, mF_9, mF_10, mF_11, mF_12, mF_13, mF_14, mF_15, mF_16, mF_len, mF_s1, mF_s3, mF_s4, mF_s12, mF_s13, mF_s14, mw_uob, mw_u0, mw_u2, mw_u5, mw_u6, mw_u7, mw_u8, mw_u9, mw_u10, mw_u11, mw_u15, mw_u16, Nat.reduceLT, rup_s, rup_rup]
    refine b_M_lets_2 ?_
    rw [show g1 0 = g 0 from (lo 0 (by omega)).trans rfl] at n1
    exact hK c' P' g' n1 ((n4 9 (by decide) (by decide) (by decide) (by decide) (by decide) (by decide) (by decide) (by decide)).trans ((lo 9 (by omega)).trans rfl)) (m2.tr n2) (m3.tr n3) (((GFd.rf.up (Or.inl rfl)).tr m4.d).tr n4.d)
  | n + 3, _, k2, _, _, _ => exact absurd k2 (by omega)
theorem f_delivers {f0 n0 fl held dig bt index : Nat} {x y : Int32} {S : aS} (hb : c 12 = nI b) (hf : b + 710 ≤ 22416) (hb1 : 186 ≤ b) (hA : auOk A) (hm : MA c r A) (hW : PWd P A) (h2 : g 2 = nI fl) (hfl : fl < 16) (hS : sOk A S) (hR : MR f0 n0 c P g S) (hH : MHd g fl held dig index) (hx : x = nI bt) (hbt : bt < 128) (hy : y = nI index) (hi : index < 2 ^ 29)
    (hK : ∀ c' P' g', MR f0 n0 c' P' g' (aTake A fl (g 0) (S, held, dig) bt index).1 → MHd g' fl (aTake A fl (g 0) (S, held, dig) bt index).2.1 (aTake A fl (g 0) (S, held, dig) bt index).2.2 (index + 1) → CFr c c' → PFr P P' → GFd g g' → K (mw w q c' (rup r 0 (pgf P' b 710 g'))) none) : zcall n_M_delivers [.ref q, .int x, .int y] (mw w q c (rup r 0 (pgf P b 710 g))) K := by
  subst hx hy
  have hH0 := hH
  obtain ⟨k1, k2, k3, k4⟩ := hH
  have hox : ∀ k, hexv bt = some k → k < 2 ^ 31 := fun k hk => by have := hexv_lt hk; omega
  have e37 : nI bt = 37 ↔ bt = 37 := nI_eq (b := 37) (by omega) (by decide)
  -- the last road: what is held is let go
  have last : (fl.testBit 1 = true → ¬ (held = 2 ∧ (hexv bt).isSome = true) ∧ ¬ (held = 1 ∧ (hexv bt).isSome = true)) → zwp n_M_delivers 2 [(0, .ref q), (1, .int (nI bt)), (2, .int (nI index))] [] 0 0 (mw w q c (rup r 0 (pgf P b 710 g))) K := fun hno => by
    have ht1 : fl.testBit 1 = true → aTake A fl (g 0) (S, held, dig) bt index = if bt = 37 then (aRel A fl (g 0) S held dig index, 1, dig) else (aChar A fl (g 0) (aRel A fl (g 0) S held dig index) bt (nI index) (nI (index + 1)), 0, dig) := fun ht => by
      obtain ⟨n1, n2⟩ := hno ht
      unfold aTake
      rw [if_neg (by rw [ht]; decide)]
      dsimp only
      split
      · rename_i h2; exact absurd ⟨rfl, by rw [h2]; rfl⟩ n1
      · rename_i h2; exact absurd ⟨rfl, by rw [h2]; rfl⟩ n2
      · rfl
    have ht0 : fl.testBit 1 = false → held = 0 ∧ aTake A fl (g 0) (S, held, dig) bt index = (aChar A fl (g 0) (aRel A fl (g 0) S held dig index) bt (nI index) (nI (index + 1)), 0, dig) := fun ht => by
      have h0 : held = 0 := by
        rcases Nat.eq_zero_or_pos held with h | h
        · exact h
        · rw [(k3 h).1] at ht; cases ht
      subst h0
      refine ⟨rfl, ?_⟩
      unfold aTake
      rw [if_pos ht]; rfl
    refine b_M_delivers_2 ?_
    simp only [and_assoc, exists_and_left, exists_eq_left, exists_eq_left', Option.some.injEq, Value.int.injEq, Value.ref.injEq, Value.long.injEq, true_and, and_true, exists_eq, exists_true_left, mw_ob, mw_ia0, mw_ia2, mw_ia5, mw_ia6, mw_ia7, mw_ia8, mw_ia9, mw_ia10, mw_ia11, mw_ia15, mw_ia16, mF_0, mF_1, mF_2, mF_3, mF_4, mF_5, mF_6, mF_7, mF_8, mF_9, mF_10, mF_11, mF_12, mF_13, mF_14, mF_15, mF_16, mF_len, mF_s1, mF_s3, mF_s4, mF_s12, mF_s13, mF_s14, mw_uob, mw_u0, mw_u2, mw_u5, mw_u6, mw_u7, mw_u8, mw_u9, mw_u10, mw_u11, mw_u15, mw_u16, Nat.reduceLT, rup_s, rup_rup]
    refine f_lets hb hf hb1 hA hm hW h2 hfl hS hR hH0 (by omega) (fun c1 P1 g1 m1 m9 m2 m3 m4 => ?_)
    simp only [and_assoc, exists_and_left, exists_eq_left, exists_eq_left', Option.some.injEq, Value.int.injEq, Value.ref.injEq, Value.long.injEq, true_and, and_true, exists_eq, exists_true_left, mw_ob, mw_ia0, mw_ia2, mw_ia5, mw_ia6, mw_ia7, mw_ia8, mw_ia9, mw_ia10, mw_ia11, mw_ia15, mw_ia16, mF_0, mF_1, mF_2, mF_3, mF_4, mF_5, mF_6, mF_7, mF_8, mF_9, mF_10, mF_11, mF_12, mF_13, mF_14, mF_15, mF_16, mF_len, mF_s1, mF_s3, mF_s4, mF_s12, mF_s13, mF_s14, mw_uob, mw_u0, mw_u2, mw_u5, mw_u6, mw_u7, mw_u8, mw_u9, mw_u10, mw_u11, mw_u15, mw_u16, Nat.reduceLT, rup_s, rup_rup]
    have hb' := m2.b hb
    have lo : ∀ i, i = 0 ∨ i = 2 → g1 i = g i := fun i hi => m4 i (by omega) (by omega) (by omega) (by omega) (by omega) (by omega) (by omega) (by omega) (by omega) (by omega) (by omega)
    have char : aTake A fl (g 0) (S, held, dig) bt index = (aChar A fl (g 0) (aRel A fl (g 0) S held dig index) bt (nI index) (nI (index + 1)), 0, dig) → zwp n_M_delivers 3 [(0, .ref q), (1, .int (nI bt)), (2, .int (nI index))] [] 0 0 (mw w q c1 (rup r 0 (pgf P1 b 710 g1))) K := fun he => by
      rw [he] at hK
      dsimp only at hK
      refine b_M_delivers_3 ?_
      simp only [and_assoc, exists_and_left, exists_eq_left, exists_eq_left', Option.some.injEq, Value.int.injEq, Value.ref.injEq, Value.long.injEq, true_and, and_true, exists_eq, exists_true_left, mw_ob, mw_ia0, mw_ia2, mw_ia5, mw_ia6, mw_ia7, mw_ia8, mw_ia9, mw_ia10, mw_ia11, mw_ia15, mw_ia16, mF_0, mF_1, mF_2, mF_3, mF_4, mF_5, mF_6, mF_7, mF_8, mF_9, mF_10, mF_11, mF_12, mF_13, mF_14, mF_15, mF_16, mF_len, mF_s1, mF_s3, mF_s4, mF_s12, mF_s13, mF_s14, mw_uob, mw_u0, mw_u2, mw_u5, mw_u6, mw_u7, mw_u8, mw_u9, mw_u10, mw_u11, mw_u15, mw_u16, Nat.reduceLT, rup_s, rup_rup]
      rw [nI_1]
      refine f_character (S := aRel A fl (g 0) S held dig index) hb' hf hb1 hA (hm.fr m2) (hW.fr m3) ((lo 2 (by omega)).trans h2) hfl rfl hbt (nI_nn (by omega)) (aRel_ok hA hS (by omega)) m1 (fun c' P' g' n1 n2 n3 n4 => ?_)
      simp only [and_assoc, exists_and_left, exists_eq_left, exists_eq_left', Option.some.injEq, Value.int.injEq, Value.ref.injEq, Value.long.injEq, true_and, and_true, exists_eq, exists_true_left, mw_ob, mw_ia0, mw_ia2, mw_ia5, mw_ia6, mw_ia7, mw_ia8, mw_ia9, mw_ia10, mw_ia11, mw_ia15, mw_ia16, mF_0, mF_1, mF_2, mF_3, mF_4, mF_5, mF_6, mF_7, mF_8, mF_9, mF_10, mF_11, mF_12, mF_13, mF_14, mF_15, mF_16, mF_len, mF_s1, mF_s3, mF_s4, mF_s12, mF_s13, mF_s14, mw_uob, mw_u0, mw_u2, mw_u5, mw_u6, mw_u7, mw_u8, mw_u9, mw_u10, mw_u11, mw_u15, mw_u16, Nat.reduceLT, rup_s, rup_rup]
      refine b_M_delivers_4 ?_
      rw [lo 0 (by omega)] at n1
      have e9 : g' 9 = nI 0 := (n4 9 (by decide) (by decide) (by decide) (by decide) (by decide) (by decide) (by decide) (by decide)).trans m9
      exact hK c' P' g' n1 ⟨e9, by decide, fun z => absurd z (by decide), fun z => absurd z (by decide)⟩ (m2.tr n2) (m3.tr n3) (m4.tr n4.d)
    refine f_has hb' hf ((lo 2 (by omega)).trans h2) (flag2 fl hfl) (fun ht => ?_) (fun ht => ?_)
    · simp only [and_assoc, exists_and_left, exists_eq_left, exists_eq_left', Option.some.injEq, Value.int.injEq, Value.ref.injEq, Value.long.injEq, true_and, and_true, exists_eq, exists_true_left, mw_ob, mw_ia0, mw_ia2, mw_ia5, mw_ia6, mw_ia7, mw_ia8, mw_ia9, mw_ia10, mw_ia11, mw_ia15, mw_ia16, mF_0, mF_1, mF_2, mF_3, mF_4, mF_5, mF_6, mF_7, mF_8, mF_9, mF_10, mF_11, mF_12, mF_13, mF_14, mF_15, mF_16, mF_len, mF_s1, mF_s3, mF_s4, mF_s12, mF_s13, mF_s14, mw_uob, mw_u0, mw_u2, mw_u5, mw_u6, mw_u7, mw_u8, mw_u9, mw_u10, mw_u11, mw_u15, mw_u16, Nat.reduceLT, rup_s, rup_rup]
      refine if0 ⟨fun z => char ?_, fun z => ?_⟩
      · rw [ht1 ht, if_neg (fun u => z (e37.mpr u))]
      · have e := ht1 ht
        rw [if_pos (e37.mp z)] at e
        rw [e] at hK
        dsimp only at hK
        refine f_put hb' (i := 9) rfl (by decide) hf ?_
        simp only [and_assoc, exists_and_left, exists_eq_left, exists_eq_left', Option.some.injEq, Value.int.injEq, Value.ref.injEq, Value.long.injEq, true_and, and_true, exists_eq, exists_true_left, mw_ob, mw_ia0, mw_ia2, mw_ia5, mw_ia6, mw_ia7, mw_ia8, mw_ia9, mw_ia10, mw_ia11, mw_ia15, mw_ia16, mF_0, mF_1, mF_2, mF_3, mF_4, mF_5, mF_6, mF_7, mF_8, mF_9, mF_10, mF_11, mF_12, mF_13, mF_14, mF_15, mF_16, mF_len, mF_s1, mF_s3, mF_s4, mF_s12, mF_s13, mF_s14, mw_uob, mw_u0, mw_u2, mw_u5, mw_u6, mw_u7, mw_u8, mw_u9, mw_u10, mw_u11, mw_u15, mw_u16, Nat.reduceLT, rup_s, rup_rup]
        refine f_put hb' (i := 10) rfl (by decide) hf ?_
        simp only [and_assoc, exists_and_left, exists_eq_left, exists_eq_left', Option.some.injEq, Value.int.injEq, Value.ref.injEq, Value.long.injEq, true_and, and_true, exists_eq, exists_true_left, mw_ob, mw_ia0, mw_ia2, mw_ia5, mw_ia6, mw_ia7, mw_ia8, mw_ia9, mw_ia10, mw_ia11, mw_ia15, mw_ia16, mF_0, mF_1, mF_2, mF_3, mF_4, mF_5, mF_6, mF_7, mF_8, mF_9, mF_10, mF_11, mF_12, mF_13, mF_14, mF_15, mF_16, mF_len, mF_s1, mF_s3, mF_s4, mF_s12, mF_s13, mF_s14, mw_uob, mw_u0, mw_u2, mw_u5, mw_u6, mw_u7, mw_u8, mw_u9, mw_u10, mw_u11, mw_u15, mw_u16, Nat.reduceLT, rup_s, rup_rup]
        refine b_M_delivers_4 (hK c1 P1 _ (MR_up (MR_up m1 (Or.inl rfl)) (Or.inr (Or.inl rfl))) ⟨rfl, by decide, fun _ => ⟨ht, by omega, ?_⟩, fun z => absurd z (by decide)⟩ m2 m3 ((m4.up (Or.inl rfl)).up (Or.inr (Or.inl rfl))))
        rw [show index + 1 - 1 = index by omega]; rfl
    · simp only [and_assoc, exists_and_left, exists_eq_left, exists_eq_left', Option.some.injEq, Value.int.injEq, Value.ref.injEq, Value.long.injEq, true_and, and_true, exists_eq, exists_true_left, mw_ob, mw_ia0, mw_ia2, mw_ia5, mw_ia6, mw_ia7, mw_ia8, mw_ia9, mw_ia10, mw_ia11, mw_ia15, mw_ia16, mF_0, mF_1, mF_2, mF_3, mF_4, mF_5, mF_6, mF_7, mF_8, mF_9, mF_10, mF_11, mF_12, mF_13, mF_14, mF_15, mF_16, mF_len, mF_s1, mF_s3, mF_s4, mF_s12, mF_s13, mF_s14, mw_uob, mw_u0, mw_u2, mw_u5, mw_u6, mw_u7, mw_u8, mw_u9, mw_u10, mw_u11, mw_u15, mw_u16, Nat.reduceLT, rup_s, rup_rup]
      exact if1 (char (ht0 ht).2)
  have second : ¬ (held = 2 ∧ (hexv bt).isSome = true) → zwp n_M_delivers 1 [(0, .ref q), (1, .int (nI bt)), (2, .int (nI index)), (3, .int (oM (hexv bt)))] [] 0 0 (mw w q c (rup r 0 (pgf P b 710 g))) K := fun hn2 => by
    refine b_M_delivers_1 ?_
    simp only [and_assoc, exists_and_left, exists_eq_left, exists_eq_left', Option.some.injEq, Value.int.injEq, Value.ref.injEq, Value.long.injEq, true_and, and_true, exists_eq, exists_true_left, mw_ob, mw_ia0, mw_ia2, mw_ia5, mw_ia6, mw_ia7, mw_ia8, mw_ia9, mw_ia10, mw_ia11, mw_ia15, mw_ia16, mF_0, mF_1, mF_2, mF_3, mF_4, mF_5, mF_6, mF_7, mF_8, mF_9, mF_10, mF_11, mF_12, mF_13, mF_14, mF_15, mF_16, mF_len, mF_s1, mF_s3, mF_s4, mF_s12, mF_s13, mF_s14, mw_uob, mw_u0, mw_u2, mw_u5, mw_u6, mw_u7, mw_u8, mw_u9, mw_u10, mw_u11, mw_u15, mw_u16, Nat.reduceLT, rup_s, rup_rup]
    refine f_of hb (i := 9) rfl (by decide) hf ?_
    simp only [and_assoc, exists_and_left, exists_eq_left, exists_eq_left', Option.some.injEq, Value.int.injEq, Value.ref.injEq, Value.long.injEq, true_and, and_true, exists_eq, exists_true_left, mw_ob, mw_ia0, mw_ia2, mw_ia5, mw_ia6, mw_ia7, mw_ia8, mw_ia9, mw_ia10, mw_ia11, mw_ia15, mw_ia16, mF_0, mF_1, mF_2, mF_3, mF_4, mF_5, mF_6, mF_7, mF_8, mF_9, mF_10, mF_11, mF_12, mF_13, mF_14, mF_15, mF_16, mF_len, mF_s1, mF_s3, mF_s4, mF_s12, mF_s13, mF_s14, mw_uob, mw_u0, mw_u2, mw_u5, mw_u6, mw_u7, mw_u8, mw_u9, mw_u10, mw_u11, mw_u15, mw_u16, Nat.reduceLT, rup_s, rup_rup]
    rw [k1]
    have e1 : nI held = 1 ↔ held = 1 := nI_eq (b := 1) (by omega) (by decide)
    refine ⟨fun z => last (fun _ => ⟨hn2, fun u => z (e1.mpr u.1)⟩), fun z => ⟨fun y => last (fun _ => ⟨hn2, fun u => ?_⟩), fun y => ?_⟩⟩
    · rw [(oM_none hox).mp y] at u
      exact absurd u.2 (by decide)
    · have h1 := e1.mp z
      cases hv : hexv bt with
      | none => rw [hv] at y; exact absurd rfl y
      | some v =>
        have hfl1 := (k3 (by omega)).1
        have e : aTake A fl (g 0) (S, held, dig) bt index = (S, 2, bt) := by
          unfold aTake
          rw [if_neg (by rw [hfl1]; decide)]
          subst h1
          dsimp only
          rw [hv]; rfl
        rw [e] at hK
        dsimp only at hK
        have hk10 := (k3 (by omega)).2
        refine f_put hb (i := 9) rfl (by decide) hf ?_
        simp only [and_assoc, exists_and_left, exists_eq_left, exists_eq_left', Option.some.injEq, Value.int.injEq, Value.ref.injEq, Value.long.injEq, true_and, and_true, exists_eq, exists_true_left, mw_ob, mw_ia0, mw_ia2, mw_ia5, mw_ia6, mw_ia7, mw_ia8, mw_ia9, mw_ia10, mw_ia11, mw_ia15, mw_ia16, mF_0, mF_1, mF_2, mF_3, mF_4, mF_5, mF_6, mF_7, mF_8, mF_9, mF_10, mF_11, mF_12, mF_13, mF_14, mF_15, mF_16, mF_len, mF_s1, mF_s3, mF_s4, mF_s12, mF_s13, mF_s14, mw_uob, mw_u0, mw_u2, mw_u5, mw_u6, mw_u7, mw_u8, mw_u9, mw_u10, mw_u11, mw_u15, mw_u16, Nat.reduceLT, rup_s, rup_rup]
        refine f_put hb (i := 11) rfl (by decide) hf ?_
        simp only [and_assoc, exists_and_left, exists_eq_left, exists_eq_left', Option.some.injEq, Value.int.injEq, Value.ref.injEq, Value.long.injEq, true_and, and_true, exists_eq, exists_true_left, mw_ob, mw_ia0, mw_ia2, mw_ia5, mw_ia6, mw_ia7, mw_ia8, mw_ia9, mw_ia10, mw_ia11, mw_ia15, mw_ia16, mF_0, mF_1, mF_2, mF_3, mF_4, mF_5, mF_6, mF_7, mF_8, mF_9, mF_10, mF_11, mF_12, mF_13, mF_14, mF_15, mF_16, mF_len, mF_s1, mF_s3, mF_s4, mF_s12, mF_s13, mF_s14, mw_uob, mw_u0, mw_u2, mw_u5, mw_u6, mw_u7, mw_u8, mw_u9, mw_u10, mw_u11, mw_u15, mw_u16, Nat.reduceLT, rup_s, rup_rup]
        refine hK c P _ (MR_up (MR_up hR (Or.inl rfl)) (Or.inr (Or.inr rfl))) ⟨rfl, by decide, fun _ => ⟨hfl1, by omega, ?_⟩, fun _ => ⟨rfl, hbt, v, hv⟩⟩ CFr.rf PFr.rf ((GFd.rf.up (Or.inl rfl)).up (Or.inr (Or.inr rfl)))
        show g 10 = _
        rw [hk10.2, h1, show index + 1 - 2 = index - 1 by omega]
  refine e_M_delivers (b_M_delivers_0 (s_M_hexOf rfl (by omega) ?_))
  simp only [and_assoc, exists_and_left, exists_eq_left, exists_eq_left', Option.some.injEq, Value.int.injEq, Value.ref.injEq, Value.long.injEq, true_and, and_true, exists_eq, exists_true_left, mw_ob, mw_ia0, mw_ia2, mw_ia5, mw_ia6, mw_ia7, mw_ia8, mw_ia9, mw_ia10, mw_ia11, mw_ia15, mw_ia16, mF_0, mF_1, mF_2, mF_3, mF_4, mF_5, mF_6, mF_7, mF_8, mF_9, mF_10, mF_11, mF_12, mF_13, mF_14, mF_15, mF_16, mF_len, mF_s1, mF_s3, mF_s4, mF_s12, mF_s13, mF_s14, mw_uob, mw_u0, mw_u2, mw_u5, mw_u6, mw_u7, mw_u8, mw_u9, mw_u10, mw_u11, mw_u15, mw_u16, Nat.reduceLT, rup_s, rup_rup]
  refine f_of hb (i := 9) rfl (by decide) hf ?_
  simp only [and_assoc, exists_and_left, exists_eq_left, exists_eq_left', Option.some.injEq, Value.int.injEq, Value.ref.injEq, Value.long.injEq, true_and, and_true, exists_eq, exists_true_left, mw_ob, mw_ia0, mw_ia2, mw_ia5, mw_ia6, mw_ia7, mw_ia8, mw_ia9, mw_ia10, mw_ia11, mw_ia15, mw_ia16, mF_0, mF_1, mF_2, mF_3, mF_4, mF_5, mF_6, mF_7, mF_8, mF_9, mF_10, mF_11, mF_12, mF_13, mF_14, mF_15, mF_16, mF_len, mF_s1, mF_s3, mF_s4, mF_s12, mF_s13, mF_s14, mw_uob, mw_u0, mw_u2, mw_u5, mw_u6, mw_u7, mw_u8, mw_u9, mw_u10, mw_u11, mw_u15, mw_u16, Nat.reduceLT, rup_s, rup_rup]
  rw [k1]
  have e2 : nI held = 2 ↔ held = 2 := nI_eq (b := 2) (by omega) (by decide)
  refine ⟨fun z => second (fun u => z (e2.mpr u.1)), fun z => ⟨fun y => second (fun u => ?_), fun y => ?_⟩⟩
  · rw [(oM_none hox).mp y] at u
    exact absurd u.2 (by decide)
  · have h1 := e2.mp z
    cases hv : hexv bt with
    | none => rw [hv] at y; exact absurd rfl y
    | some v =>
      obtain ⟨j1, j2, j3⟩ := k3 (by omega)
      obtain ⟨j4, j5, v0, hv0⟩ := k4 h1
      have b0 := hexv_lt hv0
      have b1 := hexv_lt hv
      have e : aTake A fl (g 0) (S, held, dig) bt index = (aChar A fl (g 0) S ((16 * v0 + v) % 128) (nI (index - 2)) (nI (index + 1)), 0, dig) := by
        unfold aTake
        rw [if_neg (by rw [j1]; decide)]
        subst h1
        dsimp only
        rw [hv, hv0]; rfl
      rw [e] at hK
      dsimp only at hK
      refine f_put hb (i := 9) rfl (by decide) hf ?_
      simp only [and_assoc, exists_and_left, exists_eq_left, exists_eq_left', Option.some.injEq, Value.int.injEq, Value.ref.injEq, Value.long.injEq, true_and, and_true, exists_eq, exists_true_left, mw_ob, mw_ia0, mw_ia2, mw_ia5, mw_ia6, mw_ia7, mw_ia8, mw_ia9, mw_ia10, mw_ia11, mw_ia15, mw_ia16, mF_0, mF_1, mF_2, mF_3, mF_4, mF_5, mF_6, mF_7, mF_8, mF_9, mF_10, mF_11, mF_12, mF_13, mF_14, mF_15, mF_16, mF_len, mF_s1, mF_s3, mF_s4, mF_s12, mF_s13, mF_s14, mw_uob, mw_u0, mw_u2, mw_u5, mw_u6, mw_u7, mw_u8, mw_u9, mw_u10, mw_u11, mw_u15, mw_u16, Nat.reduceLT, rup_s, rup_rup]
      refine f_of hb (i := 11) rfl (by decide) hf ?_
      simp only [and_assoc, exists_and_left, exists_eq_left, exists_eq_left', Option.some.injEq, Value.int.injEq, Value.ref.injEq, Value.long.injEq, true_and, and_true, exists_eq, exists_true_left, mw_ob, mw_ia0, mw_ia2, mw_ia5, mw_ia6, mw_ia7, mw_ia8, mw_ia9, mw_ia10, mw_ia11, mw_ia15, mw_ia16, mF_0, mF_1, mF_2, mF_3, mF_4, mF_5, mF_6, mF_7, mF_8, mF_9, mF_10, mF_11, mF_12, mF_13, mF_14, mF_15, mF_16, mF_len, mF_s1, mF_s3, mF_s4, mF_s12, mF_s13, mF_s14, mw_uob, mw_u0, mw_u2, mw_u5, mw_u6, mw_u7, mw_u8, mw_u9, mw_u10, mw_u11, mw_u15, mw_u16, Nat.reduceLT, rup_s, rup_rup]
      rw [show upd g 9 0 11 = nI dig from j4]
      refine s_M_hexOf rfl (by omega) ?_
      simp only [and_assoc, exists_and_left, exists_eq_left, exists_eq_left', Option.some.injEq, Value.int.injEq, Value.ref.injEq, Value.long.injEq, true_and, and_true, exists_eq, exists_true_left, mw_ob, mw_ia0, mw_ia2, mw_ia5, mw_ia6, mw_ia7, mw_ia8, mw_ia9, mw_ia10, mw_ia11, mw_ia15, mw_ia16, mF_0, mF_1, mF_2, mF_3, mF_4, mF_5, mF_6, mF_7, mF_8, mF_9, mF_10, mF_11, mF_12, mF_13, mF_14, mF_15, mF_16, mF_len, mF_s1, mF_s3, mF_s4, mF_s12, mF_s13, mF_s14, mw_uob, mw_u0, mw_u2, mw_u5, mw_u6, mw_u7, mw_u8, mw_u9, mw_u10, mw_u11, mw_u15, mw_u16, Nat.reduceLT, rup_s, rup_rup]
      refine f_of hb (i := 10) rfl (by decide) hf ?_
      simp only [and_assoc, exists_and_left, exists_eq_left, exists_eq_left', Option.some.injEq, Value.int.injEq, Value.ref.injEq, Value.long.injEq, true_and, and_true, exists_eq, exists_true_left, mw_ob, mw_ia0, mw_ia2, mw_ia5, mw_ia6, mw_ia7, mw_ia8, mw_ia9, mw_ia10, mw_ia11, mw_ia15, mw_ia16, mF_0, mF_1, mF_2, mF_3, mF_4, mF_5, mF_6, mF_7, mF_8, mF_9, mF_10, mF_11, mF_12, mF_13, mF_14, mF_15, mF_16, mF_len, mF_s1, mF_s3, mF_s4, mF_s12, mF_s13, mF_s14, mw_uob, mw_u0, mw_u2, mw_u5, mw_u6, mw_u7, mw_u8, mw_u9, mw_u10, mw_u11, mw_u15, mw_u16, Nat.reduceLT, rup_s, rup_rup]
      rw [hv0, show upd g 9 0 10 = nI (index - 2) from (by rw [h1] at j3; exact j3), show oM (some v0) = nI v0 from rfl, show oM (some v) = nI v from rfl, lit_16, pk_mul, nI_add, pk_andN (m := 127) (k := 7) (by omega) (by decide), nI_1]
      refine f_character hb hf hb1 hA hm hW h2 hfl rfl (Nat.mod_lt _ (by decide)) (nI_nn (by omega)) hS (MR_up hR (Or.inl rfl)) (fun c' P' g' n1 n2 n3 n4 => ?_)
      simp only [and_assoc, exists_and_left, exists_eq_left, exists_eq_left', Option.some.injEq, Value.int.injEq, Value.ref.injEq, Value.long.injEq, true_and, and_true, exists_eq, exists_true_left, mw_ob, mw_ia0, mw_ia2, mw_ia5, mw_ia6, mw_ia7, mw_ia8, mw_ia9, mw_ia10, mw_ia11, mw_ia15, mw_ia16, mF_0, mF_1, mF_2, mF_3, mF_4, mF_5, mF_6, mF_7, mF_8, mF_9, mF_10, mF_11, mF_12, mF_13, mF_14, mF_15, mF_16, mF_len, mF_s1, mF_s3, mF_s4, mF_s12, mF_s13, mF_s14, mw_uob, mw_u0, mw_u2, mw_u5, mw_u6, mw_u7, mw_u8, mw_u9, mw_u10, mw_u11, mw_u15, mw_u16, Nat.reduceLT, rup_s, rup_rup]
      exact hK c' P' g' n1 ⟨(n4 9 (by decide) (by decide) (by decide) (by decide) (by decide) (by decide) (by decide) (by decide)).trans rfl, by decide, fun z => absurd z (by decide), fun z => absurd z (by decide)⟩ n2 n3 ((GFd.rf.up (Or.inl rfl)).tr n4.d)
end MDel
