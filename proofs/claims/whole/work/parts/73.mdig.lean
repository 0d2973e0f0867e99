/-! THE MODEL: digest() -/
def dgN (wd : Nat → List Nat) : Nat → Int64 → Int64
  | 0, h => h
  | n + 1, h => mxN (aNodeP wd n) 5 (dgN wd n h)
def dgF (A : aAU) (l : List aFlow) : Nat → Int64 → Int64
  | 0, h => h
  | i + 1, h => aMixed A (fGet l i) (dgF A l i h)
def dgD (fh : List aFd) : Nat → Int64 → Int64
  | 0, h => h
  | i + 1, h => mxN (fdc (fdAt fh i)) 4 (dgD fh i h)
def aDigest (s : aSt) (past : List aSt) (bs : List Int32) : Int64 := dgD s.2.2.1 (min 30 s.2.2.1.length) (dgF (auOf s.1) s.2.2.2.1 s.2.2.2.1.length (dgN s.1 (nodesOf s.1).length (mxN (aToldN (auOf s.1) s past bs) 12 12572)))
theorem aTold_at {A : aAU} {s : aSt} {past : List aSt} {bs : List Int32} {k : Nat} (hk : k < 12) : aTold A s past bs (nI k) = aToldN A s past bs k := by
  unfold aTold
  rw [if_pos ⟨nI_pos (by omega), fun z => absurd ((nI_leI (a := 12) (by decide) (by omega)).mp z) (by omega)⟩, nI_clamp (by omega)]
theorem aNode_at {wd : Nat → List Nat} {n k : Nat} (h49 : (nodesOf wd).length ≤ 49) (hn : n < (nodesOf wd).length) (hk : k < 5) : aNode wd (nI n) (nI k) = aNodeP wd n k := by
  unfold aNode
  rw [if_pos ⟨⟨nI_pos' (by omega), (nI_leI (by omega) (by omega)).mpr (by omega)⟩, nI_pos' (by omega), (nI_leI (b := 4) (by omega) (by decide)).mpr (by omega)⟩, nI_clamp (by omega), nI_clamp (by omega)]
theorem aFind_at {fh : List aFd} {i j : Nat} (hi : i < min 30 fh.length) (hj : j < 4) : aFind fh (nI i) (nI j) = fdc (fdAt fh i) j := by
  unfold aFind
  rw [if_pos ⟨nI_pos (by omega), nI_pos' (by omega), (nI_leI (b := 3) (by omega) (by decide)).mpr (by omega)⟩, if_neg (fun z => absurd ((nI_leI (by omega) (by omega)).mp z) (by omega)), nI_clamp (by omega), nI_clamp (by omega)]
section MDig
variable {w : jx_W} {q : Nat} {c : Nat → Int32} {r : Nat → Nat → Int32} {K : jx_Q} {P : Nat → Int32} {s : aSt} {past : List aSt} {bs : List Int32}
theorem f_dg1 {y : Int64} (hI : MI c r P (auOf s.1) s past bs) (hK : zwp n_M_digest 2 [(0, .ref q), (1, .long (mxN (aToldN (auOf s.1) s past bs) 12 y))] [] 0 0 (mw w q c (rup r 0 P)) K) : ∀ (m k : Nat), k + m = 12 → zwp n_M_digest 1 [(0, .ref q), (1, .long (mxN (aToldN (auOf s.1) s past bs) k y)), (3, .int (nI k))] [] 0 0 (mw w q c (rup r 0 P)) K := by
  intro m
  induction m with
  | zero =>
    intro k hk
    obtain rfl : k = 12 := by omega
    exact b_M_digest_1 ⟨fun _ => hK, fun z => absurd (by decide) z⟩
  | succ m ih =>
    intro k hk
    refine b_M_digest_1 ⟨fun z => absurd ((nI_ltI (a := 11) (by decide) (by omega)).mp z) (by omega), fun _ => ?_⟩
    simp only [and_assoc, exists_and_left, exists_eq_left, exists_eq_left', Option.some.injEq, Value.int.injEq, Value.ref.injEq, Value.long.injEq, true_and, and_true, exists_eq, exists_true_left, mw_ob, mw_ia0, mw_ia2, mw_ia5, mw_ia6, mw_ia7, mw_ia8, mw_ia9, mw_ia10, mw_ia11, mw_ia15, mw_ia16, mF_0, mF_1, mF_2, mF_3, mF_4, mF_5, mF_6, mF_7, mF_8, mF_9, mF_10, mF_11, mF_12, mF_13, mF_14, mF_15, mF_16, mF_len, mF_s1, mF_s3, mF_s4, mF_s12, mF_s13, mF_s14, mw_uob, mw_u0, mw_u2, mw_u5, mw_u6, mw_u7, mw_u8, mw_u9, mw_u10, mw_u11, mw_u15, mw_u16, Nat.reduceLT, rup_s, rup_rup]
    refine f_told hI ?_
    simp only [and_assoc, exists_and_left, exists_eq_left, exists_eq_left', Option.some.injEq, Value.int.injEq, Value.ref.injEq, Value.long.injEq, true_and, and_true, exists_eq, exists_true_left, mw_ob, mw_ia0, mw_ia2, mw_ia5, mw_ia6, mw_ia7, mw_ia8, mw_ia9, mw_ia10, mw_ia11, mw_ia15, mw_ia16, mF_0, mF_1, mF_2, mF_3, mF_4, mF_5, mF_6, mF_7, mF_8, mF_9, mF_10, mF_11, mF_12, mF_13, mF_14, mF_15, mF_16, mF_len, mF_s1, mF_s3, mF_s4, mF_s12, mF_s13, mF_s14, mw_uob, mw_u0, mw_u2, mw_u5, mw_u6, mw_u7, mw_u8, mw_u9, mw_u10, mw_u11, mw_u15, mw_u16, Nat.reduceLT, rup_s, rup_rup]
    rw [aTold_at (by omega), nI_1]
    exact ih (k + 1) (by omega)
theorem f_dg4 {y : Int64} {n : Nat} (hw : wdOk s.1) (hA : MAu c r s.1) (hn : n < (nodesOf s.1).length) (hK : zwp n_M_digest 5 [(0, .ref q), (1, .long (mxN (aNodeP s.1 n) 5 y)), (3, .int (nI n))] [] 0 0 (mw w q c (rup r 0 P)) K) : ∀ (m k : Nat), k + m = 5 → zwp n_M_digest 4 [(0, .ref q), (1, .long (mxN (aNodeP s.1 n) k y)), (3, .int (nI n)), (4, .int (nI k))] [] 0 0 (mw w q c (rup r 0 P)) K := by
  intro m
  induction m with
  | zero =>
    intro k hk
    obtain rfl : k = 5 := by omega
    exact b_M_digest_4 ⟨fun _ => hK, fun z => absurd (by decide) z⟩
  | succ m ih =>
    intro k hk
    refine b_M_digest_4 ⟨fun z => absurd ((nI_ltI (a := 4) (by decide) (by omega)).mp z) (by omega), fun _ => ?_⟩
    simp only [and_assoc, exists_and_left, exists_eq_left, exists_eq_left', Option.some.injEq, Value.int.injEq, Value.ref.injEq, Value.long.injEq, true_and, and_true, exists_eq, exists_true_left, mw_ob, mw_ia0, mw_ia2, mw_ia5, mw_ia6, mw_ia7, mw_ia8, mw_ia9, mw_ia10, mw_ia11, mw_ia15, mw_ia16, mF_0, mF_1, mF_2, mF_3, mF_4, mF_5, mF_6, mF_7, mF_8, mF_9, mF_10, mF_11, mF_12, mF_13, mF_14, mF_15, mF_16, mF_len, mF_s1, mF_s3, mF_s4, mF_s12, mF_s13, mF_s14, mw_uob, mw_u0, mw_u2, mw_u5, mw_u6, mw_u7, mw_u8, mw_u9, mw_u10, mw_u11, mw_u15, mw_u16, Nat.reduceLT, rup_s, rup_rup]
    refine f_node hw hA ?_
    simp only [and_assoc, exists_and_left, exists_eq_left, exists_eq_left', Option.some.injEq, Value.int.injEq, Value.ref.injEq, Value.long.injEq, true_and, and_true, exists_eq, exists_true_left, mw_ob, mw_ia0, mw_ia2, mw_ia5, mw_ia6, mw_ia7, mw_ia8, mw_ia9, mw_ia10, mw_ia11, mw_ia15, mw_ia16, mF_0, mF_1, mF_2, mF_3, mF_4, mF_5, mF_6, mF_7, mF_8, mF_9, mF_10, mF_11, mF_12, mF_13, mF_14, mF_15, mF_16, mF_len, mF_s1, mF_s3, mF_s4, mF_s12, mF_s13, mF_s14, mw_uob, mw_u0, mw_u2, mw_u5, mw_u6, mw_u7, mw_u8, mw_u9, mw_u10, mw_u11, mw_u15, mw_u16, Nat.reduceLT, rup_s, rup_rup]
    rw [aNode_at (nodes_ok hw).2 hn (by omega), nI_1]
    exact ih (k + 1) (by omega)
theorem f_dg3 {y : Int64} (hw : wdOk s.1) (hA : MAu c r s.1) (hK : zwp n_M_digest 6 [(0, .ref q), (1, .long (dgN s.1 (nodesOf s.1).length y))] [] 0 0 (mw w q c (rup r 0 P)) K) : ∀ (m n : Nat), n + m = (nodesOf s.1).length → zwp n_M_digest 3 [(0, .ref q), (1, .long (dgN s.1 n y)), (3, .int (nI n))] [] 0 0 (mw w q c (rup r 0 P)) K := by
  have h49 := (nodes_ok hw).2
  intro m
  induction m with
  | zero =>
    intro n hn
    obtain rfl : n = (nodesOf s.1).length := by omega
    refine b_M_digest_3 ?_
    simp only [and_assoc, exists_and_left, exists_eq_left, exists_eq_left', Option.some.injEq, Value.int.injEq, Value.ref.injEq, Value.long.injEq, true_and, and_true, exists_eq, exists_true_left, mw_ob, mw_ia0, mw_ia2, mw_ia5, mw_ia6, mw_ia7, mw_ia8, mw_ia9, mw_ia10, mw_ia11, mw_ia15, mw_ia16, mF_0, mF_1, mF_2, mF_3, mF_4, mF_5, mF_6, mF_7, mF_8, mF_9, mF_10, mF_11, mF_12, mF_13, mF_14, mF_15, mF_16, mF_len, mF_s1, mF_s3, mF_s4, mF_s12, mF_s13, mF_s14, mw_uob, mw_u0, mw_u2, mw_u5, mw_u6, mw_u7, mw_u8, mw_u9, mw_u10, mw_u11, mw_u15, mw_u16, Nat.reduceLT, rup_s, rup_rup]
    rw [hA.1.1]
    exact ⟨fun _ => hK, fun z => absurd (Int32.le_refl _) z⟩
  | succ m ih =>
    intro n hn
    refine b_M_digest_3 ?_
    simp only [and_assoc, exists_and_left, exists_eq_left, exists_eq_left', Option.some.injEq, Value.int.injEq, Value.ref.injEq, Value.long.injEq, true_and, and_true, exists_eq, exists_true_left, mw_ob, mw_ia0, mw_ia2, mw_ia5, mw_ia6, mw_ia7, mw_ia8, mw_ia9, mw_ia10, mw_ia11, mw_ia15, mw_ia16, mF_0, mF_1, mF_2, mF_3, mF_4, mF_5, mF_6, mF_7, mF_8, mF_9, mF_10, mF_11, mF_12, mF_13, mF_14, mF_15, mF_16, mF_len, mF_s1, mF_s3, mF_s4, mF_s12, mF_s13, mF_s14, mw_uob, mw_u0, mw_u2, mw_u5, mw_u6, mw_u7, mw_u8, mw_u9, mw_u10, mw_u11, mw_u15, mw_u16, Nat.reduceLT, rup_s, rup_rup]
    rw [hA.1.1]
    refine ⟨fun z => absurd ((nI_leI (by omega) (by omega)).mp z) (by omega), fun _ => ?_⟩
    refine f_dg4 (s := s) hw hA (by omega) (b_M_digest_5 ?_) 5 0 rfl
    rw [nI_1]
    exact ih (n + 1) (by omega)
theorem f_dg7 {y : Int64} (hO : stOk (auOf s.1) s) (hw : wdOk s.1) (hr : rdOk s) (hK : ∀ c', MI c' r P (auOf s.1) s past bs → (∀ i, i ≠ 12 → c' i = c i) → zwp n_M_digest 8 [(0, .ref q), (1, .long (dgF (auOf s.1) s.2.2.2.1 s.2.2.2.1.length y))] [] 0 0 (mw w q c' (rup r 0 P)) K) : ∀ (m i : Nat), i + m = s.2.2.2.1.length → ∀ c', MI c' r P (auOf s.1) s past bs → (∀ i, i ≠ 12 → c' i = c i) → zwp n_M_digest 7 [(0, .ref q), (1, .long (dgF (auOf s.1) s.2.2.2.1 i y)), (3, .int (nI i))] [] 0 0 (mw w q c' (rup r 0 P)) K := by
  intro m
  induction m with
  | zero =>
    intro i hi c' hI hc
    obtain ⟨⟨-, -, -, ⟨sl, k6, k7⟩, -⟩, -⟩ := id hI
    have hl : sl.length = s.2.2.2.1.length := k7.1
    obtain rfl : i = s.2.2.2.1.length := by omega
    refine b_M_digest_7 ?_
    simp only [and_assoc, exists_and_left, exists_eq_left, exists_eq_left', Option.some.injEq, Value.int.injEq, Value.ref.injEq, Value.long.injEq, true_and, and_true, exists_eq, exists_true_left, mw_ob, mw_ia0, mw_ia2, mw_ia5, mw_ia6, mw_ia7, mw_ia8, mw_ia9, mw_ia10, mw_ia11, mw_ia15, mw_ia16, mF_0, mF_1, mF_2, mF_3, mF_4, mF_5, mF_6, mF_7, mF_8, mF_9, mF_10, mF_11, mF_12, mF_13, mF_14, mF_15, mF_16, mF_len, mF_s1, mF_s3, mF_s4, mF_s12, mF_s13, mF_s14, mw_uob, mw_u0, mw_u2, mw_u5, mw_u6, mw_u7, mw_u8, mw_u9, mw_u10, mw_u11, mw_u15, mw_u16, Nat.reduceLT, rup_s, rup_rup]
    rw [show P (57 : Int32).toNatClampNeg = nI s.2.2.2.1.length from k6.1.trans (by rw [hl])]
    exact ⟨vp_in_nI (n := 57) (by decide) (by decide), fun _ => hK c' hI hc, fun z => absurd (Int32.le_refl _) z⟩
  | succ m ih =>
    intro i hi c' hI hc
    obtain ⟨⟨-, -, -, ⟨sl, k6, k7⟩, -⟩, -⟩ := id hI
    have hl : sl.length = s.2.2.2.1.length := k7.1
    have h4 := k6.2.1
    refine b_M_digest_7 ?_
    simp only [and_assoc, exists_and_left, exists_eq_left, exists_eq_left', Option.some.injEq, Value.int.injEq, Value.ref.injEq, Value.long.injEq, true_and, and_true, exists_eq, exists_true_left, mw_ob, mw_ia0, mw_ia2, mw_ia5, mw_ia6, mw_ia7, mw_ia8, mw_ia9, mw_ia10, mw_ia11, mw_ia15, mw_ia16, mF_0, mF_1, mF_2, mF_3, mF_4, mF_5, mF_6, mF_7, mF_8, mF_9, mF_10, mF_11, mF_12, mF_13, mF_14, mF_15, mF_16, mF_len, mF_s1, mF_s3, mF_s4, mF_s12, mF_s13, mF_s14, mw_uob, mw_u0, mw_u2, mw_u5, mw_u6, mw_u7, mw_u8, mw_u9, mw_u10, mw_u11, mw_u15, mw_u16, Nat.reduceLT, rup_s, rup_rup]
    rw [show P (57 : Int32).toNatClampNeg = nI s.2.2.2.1.length from k6.1.trans (by rw [hl])]
    refine ⟨vp_in_nI (n := 57) (by decide) (by decide), fun z => absurd ((nI_leI (by omega) (by omega)).mp z) (by omega), fun _ => ?_⟩
    refine f_mixedFlow (i := i) hI hO (au_ok hw) hr rfl (by omega) (fun c2 e2 => ?_)
    simp only [and_assoc, exists_and_left, exists_eq_left, exists_eq_left', Option.some.injEq, Value.int.injEq, Value.ref.injEq, Value.long.injEq, true_and, and_true, exists_eq, exists_true_left, mw_ob, mw_ia0, mw_ia2, mw_ia5, mw_ia6, mw_ia7, mw_ia8, mw_ia9, mw_ia10, mw_ia11, mw_ia15, mw_ia16, mF_0, mF_1, mF_2, mF_3, mF_4, mF_5, mF_6, mF_7, mF_8, mF_9, mF_10, mF_11, mF_12, mF_13, mF_14, mF_15, mF_16, mF_len, mF_s1, mF_s3, mF_s4, mF_s12, mF_s13, mF_s14, mw_uob, mw_u0, mw_u2, mw_u5, mw_u6, mw_u7, mw_u8, mw_u9, mw_u10, mw_u11, mw_u15, mw_u16, Nat.reduceLT, rup_s, rup_rup]
    rw [nI_1]
    exact ih (i + 1) (by omega) c2 (MI_12 hI e2) (fun j hj => (e2 j hj).trans (hc j hj))
theorem f_dg10 {y : Int64} {i : Nat} (hP : PS P s) (hi : i < min 30 s.2.2.1.length) (hK : zwp n_M_digest 11 [(0, .ref q), (1, .long (mxN (fdc (fdAt s.2.2.1 i)) 4 y)), (3, .int (nI i))] [] 0 0 (mw w q c (rup r 0 P)) K) : ∀ (m k : Nat), k + m = 4 → zwp n_M_digest 10 [(0, .ref q), (1, .long (mxN (fdc (fdAt s.2.2.1 i)) k y)), (3, .int (nI i)), (4, .int (nI k))] [] 0 0 (mw w q c (rup r 0 P)) K := by
  intro m
  induction m with
  | zero =>
    intro k hk
    obtain rfl : k = 4 := by omega
    exact b_M_digest_10 ⟨fun _ => hK, fun z => absurd (by decide) z⟩
  | succ m ih =>
    intro k hk
    refine b_M_digest_10 ⟨fun z => absurd ((nI_ltI (a := 3) (by decide) (by omega)).mp z) (by omega), fun _ => ?_⟩
    simp only [and_assoc, exists_and_left, exists_eq_left, exists_eq_left', Option.some.injEq, Value.int.injEq, Value.ref.injEq, Value.long.injEq, true_and, and_true, exists_eq, exists_true_left, mw_ob, mw_ia0, mw_ia2, mw_ia5, mw_ia6, mw_ia7, mw_ia8, mw_ia9, mw_ia10, mw_ia11, mw_ia15, mw_ia16, mF_0, mF_1, mF_2, mF_3, mF_4, mF_5, mF_6, mF_7, mF_8, mF_9, mF_10, mF_11, mF_12, mF_13, mF_14, mF_15, mF_16, mF_len, mF_s1, mF_s3, mF_s4, mF_s12, mF_s13, mF_s14, mw_uob, mw_u0, mw_u2, mw_u5, mw_u6, mw_u7, mw_u8, mw_u9, mw_u10, mw_u11, mw_u15, mw_u16, Nat.reduceLT, rup_s, rup_rup]
    refine f_find hP ?_
    simp only [and_assoc, exists_and_left, exists_eq_left, exists_eq_left', Option.some.injEq, Value.int.injEq, Value.ref.injEq, Value.long.injEq, true_and, and_true, exists_eq, exists_true_left, mw_ob, mw_ia0, mw_ia2, mw_ia5, mw_ia6, mw_ia7, mw_ia8, mw_ia9, mw_ia10, mw_ia11, mw_ia15, mw_ia16, mF_0, mF_1, mF_2, mF_3, mF_4, mF_5, mF_6, mF_7, mF_8, mF_9, mF_10, mF_11, mF_12, mF_13, mF_14, mF_15, mF_16, mF_len, mF_s1, mF_s3, mF_s4, mF_s12, mF_s13, mF_s14, mw_uob, mw_u0, mw_u2, mw_u5, mw_u6, mw_u7, mw_u8, mw_u9, mw_u10, mw_u11, mw_u15, mw_u16, Nat.reduceLT, rup_s, rup_rup]
    rw [aFind_at hi (by omega), nI_1]
    exact ih (k + 1) (by omega)
theorem f_dg9 {y : Int64} (hP : PS P s) (hK : K (mw w q c (rup r 0 P)) (some (.long (dgD s.2.2.1 (min 30 s.2.2.1.length) y)))) : ∀ (m i : Nat), i + m = min 30 s.2.2.1.length → zwp n_M_digest 9 [(0, .ref q), (1, .long (dgD s.2.2.1 i y)), (3, .int (nI i))] [] 0 0 (mw w q c (rup r 0 P)) K := by
  obtain ⟨m1, -⟩ := hP.2.2.1
  intro m
  induction m with
  | zero =>
    intro i hi
    obtain rfl : i = min 30 s.2.2.1.length := by omega
    refine b_M_digest_9 ?_
    simp only [and_assoc, exists_and_left, exists_eq_left, exists_eq_left', Option.some.injEq, Value.int.injEq, Value.ref.injEq, Value.long.injEq, true_and, and_true, exists_eq, exists_true_left, mw_ob, mw_ia0, mw_ia2, mw_ia5, mw_ia6, mw_ia7, mw_ia8, mw_ia9, mw_ia10, mw_ia11, mw_ia15, mw_ia16, mF_0, mF_1, mF_2, mF_3, mF_4, mF_5, mF_6, mF_7, mF_8, mF_9, mF_10, mF_11, mF_12, mF_13, mF_14, mF_15, mF_16, mF_len, mF_s1, mF_s3, mF_s4, mF_s12, mF_s13, mF_s14, mw_uob, mw_u0, mw_u2, mw_u5, mw_u6, mw_u7, mw_u8, mw_u9, mw_u10, mw_u11, mw_u15, mw_u16, Nat.reduceLT, rup_s, rup_rup]
    rw [show P (62 : Int32).toNatClampNeg = _ from m1]
    exact ⟨vp_in_nI (n := 62) (by decide) (by decide), fun _ => b_M_digest_12 hK, fun z => absurd (Int32.le_refl _) z⟩
  | succ m ih =>
    intro i hi
    refine b_M_digest_9 ?_
    simp only [and_assoc, exists_and_left, exists_eq_left, exists_eq_left', Option.some.injEq, Value.int.injEq, Value.ref.injEq, Value.long.injEq, true_and, and_true, exists_eq, exists_true_left, mw_ob, mw_ia0, mw_ia2, mw_ia5, mw_ia6, mw_ia7, mw_ia8, mw_ia9, mw_ia10, mw_ia11, mw_ia15, mw_ia16, mF_0, mF_1, mF_2, mF_3, mF_4, mF_5, mF_6, mF_7, mF_8, mF_9, mF_10, mF_11, mF_12, mF_13, mF_14, mF_15, mF_16, mF_len, mF_s1, mF_s3, mF_s4, mF_s12, mF_s13, mF_s14, mw_uob, mw_u0, mw_u2, mw_u5, mw_u6, mw_u7, mw_u8, mw_u9, mw_u10, mw_u11, mw_u15, mw_u16, Nat.reduceLT, rup_s, rup_rup]
    rw [show P (62 : Int32).toNatClampNeg = _ from m1]
    refine ⟨vp_in_nI (n := 62) (by decide) (by decide), fun z => absurd ((nI_leI (by omega) (by omega)).mp z) (by omega), fun _ => ?_⟩
    refine f_dg10 (s := s) hP (by omega) (b_M_digest_11 ?_) 4 0 rfl
    rw [nI_1]
    exact ih (i + 1) (by omega)
theorem f_digest (hJ : MJ c r P s past bs) (hO : stOk (auOf s.1) s) (hw : wdOk s.1) (hr : rdOk s) (hK : ∀ c', MJ c' r P s past bs → K (mw w q c' (rup r 0 P)) (some (.long (aDigest s past bs)))) : zcall n_M_digest [.ref q] (mw w q c (rup r 0 P)) K := by
  obtain ⟨hI, hA⟩ := hJ
  refine e_M_digest (b_M_digest_0 (f_dg1 hI (b_M_digest_2 (f_dg3 hw hA (b_M_digest_6 (f_dg7 hO hw hr (fun c' h1 h2 => b_M_digest_8 (f_dg9 h1.1 (hK c' (MJ_of h1 hA rfl (fun _ _ _ => rfl))) (min 30 s.2.2.1.length) 0 (Nat.zero_add _))) s.2.2.2.1.length 0 (Nat.zero_add _) c hI (fun _ _ => rfl))) (nodesOf s.1).length 0 (Nat.zero_add _))) 12 0 rfl))
end MDig
