/-! THE CLASS's DIGEST -/
section CDig
variable {W : jx_W} {t : Nat} {s : aSt} {past : List aSt} {bs : List Int32} {n : Nat} {K : jx_Q}
theorem s_T_mixed {y z : Int64} (hK : K W (some (.long (31 * y + z)))) : zcall n_T_mixed [.long y, .long z] W K := e_T_mixed (b_T_mixed_0 hK)
theorem c_mixedFlow {a au fd f0 : Nat} {X : cFl} {A : aAU} {f : aFlow} {y : Int64} (hW : FAt W a 0 au fd X) (hX : FWr f0 X f.1 f.2.1 f.2.2) (hf : flI A f) (hA : auOk A) (hK : K W (some (.long (aMixed A f y)))) : zcall n_T_mixedWithFlow [.long y, .ref a] W K := by
  have hob : ∀ fs, jx_ob W a 2 fs ↔ fs = FlF (a + 0) X.1 := fun fs => ob_iff hW.1
  have hobE : ∃ fs, jx_ob W a 2 fs := ⟨_, hW.1⟩
  have hR := FlR (gp := 0) hW
  have hro : ∀ fs, jx_ob W (a + 0 + 9) 3 fs ↔ fs = RdF (a + 0 + 9) au fd X.2.2.2.1 X.2.2.2.2.1 := fun fs => ob_iff (hR 0 (by decide))
  have hroE : ∃ fs, jx_ob W (a + 0 + 9) 3 fs := ⟨_, hR 0 (by decide)⟩
  obtain ⟨x0, x1, x2, x3, xp, xl, xr, x7, x8, x9, x10, x11⟩ := id hX
  have ho := hf.2.1.2.1
  have hh : f.2.1.1.1.2.2.1.length ≤ 1040 := by have := hf.2.2.1.2.1; omega
  have hlt : f.2.1.1.1.2.1 < 2 ^ 49 := Nat.lt_of_lt_of_le hf.2.2.1.1 (Nat.pow_le_pow_right (by decide) hA.2.1)
  have l5 : ∀ (m k : Nat) (y : Int64), k + m = 50 → K W (some (.long (mxN (fun k => aByteNow f (f.2.1.2.1 + k)) 50 y))) → zwp n_T_mixedWithFlow 5 [(2, .ref a), (3, .long (mxN (fun k => aByteNow f (f.2.1.2.1 + k)) k y)), (5, .int (nI k))] [] 0 0 W K := by
    intro m
    induction m with
    | zero =>
      intro k y hk hK
      obtain rfl : k = 50 := by omega
      exact b_T_mixedWithFlow_5 ⟨fun _ => b_T_mixedWithFlow_6 hK, fun z => absurd (by decide) z⟩
    | succ m ih =>
      intro k y hk hK
      refine b_T_mixedWithFlow_5 ⟨fun z => absurd ((nI_leI (a := 50) (by decide) (by omega)).mp z) (by omega), fun _ => ?_⟩
      simp only [hob, FlF_3, and_assoc, exists_and_left, exists_eq_left, exists_eq_left', Option.some.injEq, Value.int.injEq, Value.ref.injEq, Value.long.injEq, true_and, and_true, exists_eq, exists_true_left]
      rw [x3, nI_add]
      refine c_chosenByte (o := f.2.1.2.1 + k) hW hX hf.1.1 (by omega) rfl (by omega) ⟨_, rfl, s_T_mixed ⟨_, rfl, ?_⟩⟩
      rw [nI_1]
      exact ih (k + 1) y (by omega) hK
  have l3 : ∀ (m k : Nat) (y : Int64), k + m = 8 → zwp n_T_mixedWithFlow 4 [(2, .ref a), (3, .long (mxN (aReadNow f) 8 y))] [] 0 0 W K → zwp n_T_mixedWithFlow 3 [(2, .ref a), (3, .long (mxN (aReadNow f) k y)), (5, .int (nI k))] [] 0 0 W K := by
    intro m
    induction m with
    | zero =>
      intro k y hk hK
      obtain rfl : k = 8 := by omega
      exact b_T_mixedWithFlow_3 ⟨fun _ => hK, fun z => absurd (by decide) z⟩
    | succ m ih =>
      intro k y hk hK
      refine b_T_mixedWithFlow_3 ⟨fun z => absurd ((nI_leI (a := 8) (by decide) (by omega)).mp z) (by omega), fun _ => ?_⟩
      simp only [hob, FlF_6, and_assoc, exists_and_left, exists_eq_left, exists_eq_left', Option.some.injEq, Value.int.injEq, Value.ref.injEq, Value.long.injEq, true_and, and_true, exists_eq, exists_true_left]
      refine ⟨hroE, c_recent (X := X.2.2.2) (i := k) hR xr (by show f.2.1.1.1.2.2.1.length < 2 ^ 30; omega) rfl (by omega) ⟨_, rfl, s_T_mixed ⟨_, rfl, ?_⟩⟩⟩
      rw [nI_1]
      exact ih (k + 1) y (by omega) hK
  have l1 : ∀ (m k : Nat) (y : Int64), k + m = 18 → zwp n_T_mixedWithFlow 2 [(2, .ref a), (3, .long (mxN (aProp A f) 18 y))] [] 0 0 W K → zwp n_T_mixedWithFlow 1 [(2, .ref a), (3, .long (mxN (aProp A f) k y)), (5, .int (nI k))] [] 0 0 W K := by
    intro m
    induction m with
    | zero =>
      intro k y hk hK
      obtain rfl : k = 18 := by omega
      exact b_T_mixedWithFlow_1 ⟨fun _ => hK, fun z => absurd (by decide) z⟩
    | succ m ih =>
      intro k y hk hK
      refine b_T_mixedWithFlow_1 ⟨fun z => absurd ((nI_leI (a := 18) (by decide) (by omega)).mp z) (by omega), fun _ => ⟨hobE, c_ftell (k := k) (A := A) hW hX ho hA hf.2.2.1.1 rfl (by omega) ⟨_, rfl, s_T_mixed ⟨_, rfl, ?_⟩⟩⟩⟩
      rw [nI_1]
      exact ih (k + 1) y (by omega) hK
  unfold aMixed at hK
  refine e_T_mixedWithFlow (b_T_mixedWithFlow_0 ?_)
  simp only [hob, FlF_0, and_assoc, exists_and_left, exists_eq_left, exists_eq_left', Option.some.injEq, Value.int.injEq, Value.ref.injEq, Value.long.injEq, true_and, and_true, exists_eq, exists_true_left]
  rw [x0]
  refine s_T_mixed ⟨_, rfl, l1 18 0 _ rfl (b_T_mixedWithFlow_2 ?_)⟩
  simp only [hob, FlF_6, hro, RdF_8, and_assoc, exists_and_left, exists_eq_left, exists_eq_left', Option.some.injEq, Value.int.injEq, Value.ref.injEq, Value.long.injEq, true_and, and_true, exists_eq, exists_true_left]
  rw [show X.2.2.2.2.1 = _ from xr.2.2.2.2.2.2.1, ← aLong_lN hlt]
  exact s_T_mixed ⟨_, rfl, l3 8 0 _ rfl (b_T_mixedWithFlow_4 (l5 50 0 _ rfl hK))⟩
theorem c_digest {B : Nat} (hI : TI W t s past bs n) (hs : stI s B) (hB : B < 2 ^ 25) (hK : K W (some (.long (aDigest s past bs)))) : zcall n_T_digest [.ref t] W K := by
  have hw := hs.1
  obtain ⟨hN, h49⟩ := nodes_ok hw
  have hfl : s.2.2.1.length ≤ B := hs.2.2.2.1
  obtain ⟨b, od, Y, tx, pf, ac, ar, h1, hS, hT, h2, h3⟩ := TI_now hI
  have fo : ∀ fs, jx_ob W (b + 1) 1 fs ↔ fs = FdF (b + 1) Y.2.2.2.1.1 := fun fs => ob_iff (hS.2.1 0 (by decide))
  have l9 : ∀ (m k : Nat) (y : Int64), k + m = min 30 s.2.2.1.length → K W (some (.long (dgD s.2.2.1 (min 30 s.2.2.1.length) y))) → zwp n_T_digest 9 [(0, .ref t), (1, .long (dgD s.2.2.1 k y)), (3, .int (nI k))] [] 0 0 W K := by
    intro m
    induction m with
    | zero =>
      intro k y hk hK
      refine b_T_digest_9 ?_
      simp only [THd_ob h1, TF_3, HAt_ob hS.1, StF_2, fo, FdF_2, and_assoc, exists_and_left, exists_eq_left, exists_eq_left', Option.some.injEq, Value.int.injEq, Value.ref.injEq, Value.long.injEq, true_and, and_true, exists_eq, exists_true_left]
      rw [hT.2.2.1.2.2.1]
      refine ⟨fun _ => b_T_digest_12 ?_, fun z => absurd ((nI_leI (by omega) (by omega)).mpr (by omega)) z⟩
      rw [show k = min 30 s.2.2.1.length by omega]; exact hK
    | succ m ih =>
      intro k y hk hK
      have inner : ∀ (m j : Nat), j + m = 4 → zwp n_T_digest 10 [(0, .ref t), (1, .long (mxN (fdc (fdAt s.2.2.1 k)) j (dgD s.2.2.1 k y))), (3, .int (nI k)), (4, .int (nI j))] [] 0 0 W K := by
        intro m
        induction m with
        | zero =>
          intro j hj
          obtain rfl : j = 4 := by omega
          refine b_T_digest_10 ⟨fun _ => b_T_digest_11 ?_, fun z => absurd (by decide) z⟩
          rw [nI_1]
          exact ih (k + 1) y (by omega) hK
        | succ m ih2 =>
          intro j hj
          refine b_T_digest_10 ⟨fun z => absurd ((nI_leI (a := 4) (by decide) (by omega)).mp z) (by omega), fun _ => ?_⟩
          simp only [THd_ob h1, TF_3, HAt_ob hS.1, StF_2, and_assoc, exists_and_left, exists_eq_left, exists_eq_left', Option.some.injEq, Value.int.injEq, Value.ref.injEq, Value.long.injEq, true_and, and_true, exists_eq, exists_true_left]
          refine ⟨⟨_, hS.2.1 0 (by decide)⟩, c_tell (j := j) hS.2.1 hT.2.2.1 (by omega) (nI_pos (by omega)) rfl (by omega) ⟨_, rfl, s_T_mixed ⟨_, rfl, ?_⟩⟩⟩
          rw [if_neg (fun z => absurd ((nI_leI (by omega) (by omega)).mp z) (by omega)), nI_clamp (by omega), nI_1]
          exact ih2 (j + 1) (by omega)
      refine b_T_digest_9 ?_
      simp only [THd_ob h1, TF_3, HAt_ob hS.1, StF_2, fo, FdF_2, and_assoc, exists_and_left, exists_eq_left, exists_eq_left', Option.some.injEq, Value.int.injEq, Value.ref.injEq, Value.long.injEq, true_and, and_true, exists_eq, exists_true_left]
      rw [hT.2.2.1.2.2.1]
      exact ⟨fun z => absurd ((nI_leI (by omega) (by omega)).mp z) (by omega), fun _ => inner 4 0 rfl⟩
  have l7 : ∀ (m k : Nat) (y : Int64), k + m = s.2.2.2.1.length → zwp n_T_digest 8 [(0, .ref t), (1, .long (dgF (auOf s.1) s.2.2.2.1 s.2.2.2.1.length y))] [] 0 0 W K → zwp n_T_digest 7 [(0, .ref t), (1, .long (dgF (auOf s.1) s.2.2.2.1 k y)), (3, .int (nI k))] [] 0 0 W K := by
    obtain ⟨t1, t2, t3, ⟨t4, t4b⟩, t5, ⟨o1, o2, o3⟩, t7⟩ := hT
    intro m
    induction m with
    | zero =>
      intro k y hk hK
      refine b_T_digest_7 ?_
      simp only [THd_ob h1, TF_3, HAt_ob hS.1, StF_4, and_assoc, exists_and_left, exists_eq_left, exists_eq_left', Option.some.injEq, Value.int.injEq, Value.ref.injEq, Value.long.injEq, true_and, and_true, exists_eq, exists_true_left]
      rw [t4]
      refine ⟨fun _ => ?_, fun z => absurd ((nI_leI (by omega) (by omega)).mpr (by omega)) z⟩
      rw [show k = s.2.2.2.1.length by omega]; exact hK
    | succ m ih =>
      intro k y hk hK
      obtain ⟨f0, g⟩ := t7 k (by omega)
      have hod := o1 k (by omega)
      refine b_T_digest_7 ?_
      simp only [THd_ob h1, TF_3, HAt_ob hS.1, StF_4, StF_3, HAt_10 hS.1, and_assoc, exists_and_left, exists_eq_left, exists_eq_left', Option.some.injEq, Value.int.injEq, Value.ref.injEq, Value.long.injEq, true_and, and_true, exists_eq, exists_true_left]
      rw [t4]
      refine ⟨fun z => absurd ((nI_leI (by omega) (by omega)).mp z) (by omega), fun _ => ⟨fun z => absurd ((nI_leI (a := 4) (by decide) (by omega)).mp z) (by omega), fun _ => ⟨vin4 (by omega), b + 11 + 12 * od k, by rw [nI_clamp (by omega)]; exact o3 k (by omega), ?_⟩⟩⟩
      refine c_mixedFlow (hS.2.2.2 _ hod) g (hs.2.2.1 _ (fGet_mem (by omega))) (au_ok hw) ⟨_, rfl, ?_⟩
      rw [nI_1]
      exact ih (k + 1) y (by omega) hK
  have l3 : ∀ (m k : Nat) (y : Int64), k + m = (nodesOf s.1).length → zwp n_T_digest 6 [(0, .ref t), (1, .long (dgN s.1 (nodesOf s.1).length y))] [] 0 0 W K → zwp n_T_digest 3 [(0, .ref t), (1, .long (dgN s.1 k y)), (3, .int (nI k))] [] 0 0 W K := by
    intro m
    induction m with
    | zero =>
      intro k y hk hK
      refine b_T_digest_3 ?_
      simp only [THd_ob h1, TF_2, AuAt_ob h2, AuF_0, and_assoc, exists_and_left, exists_eq_left, exists_eq_left', Option.some.injEq, Value.int.injEq, Value.ref.injEq, Value.long.injEq, true_and, and_true, exists_eq, exists_true_left]
      rw [h3.1]
      refine ⟨fun _ => ?_, fun z => absurd ((nI_leI (by omega) (by omega)).mpr (by omega)) z⟩
      rw [show k = (nodesOf s.1).length by omega]; exact hK
    | succ m ih =>
      intro k y hk hK
      have inner : ∀ (m j : Nat), j + m = 5 → zwp n_T_digest 4 [(0, .ref t), (1, .long (mxN (aNodeP s.1 k) j (dgN s.1 k y))), (3, .int (nI k)), (4, .int (nI j))] [] 0 0 W K := by
        intro m
        induction m with
        | zero =>
          intro j hj
          obtain rfl : j = 5 := by omega
          refine b_T_digest_4 ⟨fun _ => b_T_digest_5 ?_, fun z => absurd (by decide) z⟩
          rw [nI_1]
          exact ih (k + 1) y (by omega) hK
        | succ m ih2 =>
          intro j hj
          refine b_T_digest_4 ⟨fun z => absurd ((nI_leI (a := 5) (by decide) (by omega)).mp z) (by omega), fun _ => ⟨TI_ob hI, c_node hI hw ⟨_, rfl, s_T_mixed ⟨_, rfl, ?_⟩⟩⟩⟩
          rw [aNode_at h49 (by omega) (by omega), nI_1]
          exact ih2 (j + 1) (by omega)
      refine b_T_digest_3 ?_
      simp only [THd_ob h1, TF_2, AuAt_ob h2, AuF_0, and_assoc, exists_and_left, exists_eq_left, exists_eq_left', Option.some.injEq, Value.int.injEq, Value.ref.injEq, Value.long.injEq, true_and, and_true, exists_eq, exists_true_left]
      rw [h3.1]
      exact ⟨fun z => absurd ((nI_leI (by omega) (by omega)).mp z) (by omega), fun _ => inner 5 0 rfl⟩
  have l1 : ∀ (m k : Nat), k + m = 12 → zwp n_T_digest 2 [(0, .ref t), (1, .long (mxN (aToldN (auOf s.1) s past bs) 12 12572))] [] 0 0 W K → zwp n_T_digest 1 [(0, .ref t), (1, .long (mxN (aToldN (auOf s.1) s past bs) k 12572)), (3, .int (nI k))] [] 0 0 W K := by
    intro m
    induction m with
    | zero =>
      intro k hk hK
      obtain rfl : k = 12 := by omega
      exact b_T_digest_1 ⟨fun _ => hK, fun z => absurd (by decide) z⟩
    | succ m ih =>
      intro k hk hK
      refine b_T_digest_1 ⟨fun z => absurd ((nI_leI (a := 12) (by decide) (by omega)).mp z) (by omega), fun _ => ⟨TI_ob hI, c_told hI (by omega) ⟨_, rfl, s_T_mixed ⟨_, rfl, ?_⟩⟩⟩⟩
      rw [aTold_at (by omega), nI_1]
      exact ih (k + 1) (by omega) hK
  refine e_T_digest (b_T_digest_0 (l1 12 0 rfl (b_T_digest_2 (l3 _ 0 _ (Nat.zero_add _) (b_T_digest_6 (l7 _ 0 _ (Nat.zero_add _) (b_T_digest_8 (l9 _ 0 _ (Nat.zero_add _) hK))))))))
end CDig
