/-! THE MODEL: mixedFlow(..) -/
def mxN (v : Nat → Int32) : Nat → Int64 → Int64
  | 0, h => h
  | n + 1, h => 31 * mxN v n h + (v n).toInt64
def aMixed (A : aAU) (f : aFlow) (h : Int64) : Int64 := mxN (fun k => aByteNow f (f.2.1.2.1 + k)) 50 (mxN (aReadNow f) 8 (31 * mxN (aProp A f) 18 (31 * h + f.1.1.toInt64) + aLong f.2.1.1.1.2.1))
section MMix
variable {w : jx_W} {q : Nat} {c : Nat → Int32} {r : Nat → Nat → Int32} {K : jx_Q} {P : Nat → Int32} {A : aAU} {s : aSt} {past : List aSt} {bs : List Int32} {b : Nat} {f : aFlow}
theorem f_mix1 {y : Int64} (hb : c 12 = nI b) (hf : b + 710 ≤ 22416) (hF : MFl (fun k => P (b + k)) f) (hO : fOk A f.2.1) (hky : kyOk f.1) (hA : auOk A) (hm : MA c r A) (hK : zwp n_M_mixedFlow 2 [(0, .ref q), (4, .long (mxN (aProp A f) 18 y))] [] 0 0 (mw w q c (rup r 0 P)) K) : ∀ (m k : Nat), k + m = 18 → zwp n_M_mixedFlow 1 [(0, .ref q), (4, .long (mxN (aProp A f) k y)), (6, .int (nI k))] [] 0 0 (mw w q c (rup r 0 P)) K := by
  intro m
  induction m with
  | zero =>
    intro k hk
    obtain rfl : k = 18 := by omega
    exact b_M_mixedFlow_1 ⟨fun _ => hK, fun z => absurd (by decide) z⟩
  | succ m ih =>
    intro k hk
    refine b_M_mixedFlow_1 ⟨fun z => absurd ((nI_ltI (a := 17) (by decide) (by omega)).mp z) (by omega), fun _ => ?_⟩
    simp only [and_assoc, exists_and_left, exists_eq_left, exists_eq_left', Option.some.injEq, Value.int.injEq, Value.ref.injEq, Value.long.injEq, true_and, and_true, exists_eq, exists_true_left, mw_ob, mw_ia0, mw_ia2, mw_ia5, mw_ia6, mw_ia7, mw_ia8, mw_ia9, mw_ia10, mw_ia11, mw_ia15, mw_ia16, mF_0, mF_1, mF_2, mF_3, mF_4, mF_5, mF_6, mF_7, mF_8, mF_9, mF_10, mF_11, mF_12, mF_13, mF_14, mF_15, mF_16, mF_len, mF_s1, mF_s3, mF_s4, mF_s12, mF_s13, mF_s14, mw_uob, mw_u0, mw_u2, mw_u5, mw_u6, mw_u7, mw_u8, mw_u9, mw_u10, mw_u11, mw_u15, mw_u16, Nat.reduceLT, rup_s, rup_rup]
    refine f_propertyNow (A := A) (k := k) (f := f) (by omega) rfl hb hf hF hO hky hA hm ?_
    simp only [and_assoc, exists_and_left, exists_eq_left, exists_eq_left', Option.some.injEq, Value.int.injEq, Value.ref.injEq, Value.long.injEq, true_and, and_true, exists_eq, exists_true_left, mw_ob, mw_ia0, mw_ia2, mw_ia5, mw_ia6, mw_ia7, mw_ia8, mw_ia9, mw_ia10, mw_ia11, mw_ia15, mw_ia16, mF_0, mF_1, mF_2, mF_3, mF_4, mF_5, mF_6, mF_7, mF_8, mF_9, mF_10, mF_11, mF_12, mF_13, mF_14, mF_15, mF_16, mF_len, mF_s1, mF_s3, mF_s4, mF_s12, mF_s13, mF_s14, mw_uob, mw_u0, mw_u2, mw_u5, mw_u6, mw_u7, mw_u8, mw_u9, mw_u10, mw_u11, mw_u15, mw_u16, Nat.reduceLT, rup_s, rup_rup]
    rw [nI_1]
    exact ih (k + 1) (by omega)
theorem f_mix3 {y : Int64} (hb : c 12 = nI b) (hf : b + 710 ≤ 22416) (hF : MFl (fun k => P (b + k)) f) (hh : f.2.1.1.1.2.2.1.length < 2 ^ 31) (hK : zwp n_M_mixedFlow 4 [(0, .ref q), (4, .long (mxN (aReadNow f) 8 y))] [] 0 0 (mw w q c (rup r 0 P)) K) : ∀ (m k : Nat), k + m = 8 → zwp n_M_mixedFlow 3 [(0, .ref q), (4, .long (mxN (aReadNow f) k y)), (6, .int (nI k))] [] 0 0 (mw w q c (rup r 0 P)) K := by
  intro m
  induction m with
  | zero =>
    intro k hk
    obtain rfl : k = 8 := by omega
    exact b_M_mixedFlow_3 ⟨fun _ => hK, fun z => absurd (by decide) z⟩
  | succ m ih =>
    intro k hk
    refine b_M_mixedFlow_3 ⟨fun z => absurd ((nI_ltI (a := 7) (by decide) (by omega)).mp z) (by omega), fun _ => ?_⟩
    simp only [and_assoc, exists_and_left, exists_eq_left, exists_eq_left', Option.some.injEq, Value.int.injEq, Value.ref.injEq, Value.long.injEq, true_and, and_true, exists_eq, exists_true_left, mw_ob, mw_ia0, mw_ia2, mw_ia5, mw_ia6, mw_ia7, mw_ia8, mw_ia9, mw_ia10, mw_ia11, mw_ia15, mw_ia16, mF_0, mF_1, mF_2, mF_3, mF_4, mF_5, mF_6, mF_7, mF_8, mF_9, mF_10, mF_11, mF_12, mF_13, mF_14, mF_15, mF_16, mF_len, mF_s1, mF_s3, mF_s4, mF_s12, mF_s13, mF_s14, mw_uob, mw_u0, mw_u2, mw_u5, mw_u6, mw_u7, mw_u8, mw_u9, mw_u10, mw_u11, mw_u15, mw_u16, Nat.reduceLT, rup_s, rup_rup]
    refine f_readNow (k := k) (f := f) (by omega) rfl hb hf hF hh ?_
    simp only [and_assoc, exists_and_left, exists_eq_left, exists_eq_left', Option.some.injEq, Value.int.injEq, Value.ref.injEq, Value.long.injEq, true_and, and_true, exists_eq, exists_true_left, mw_ob, mw_ia0, mw_ia2, mw_ia5, mw_ia6, mw_ia7, mw_ia8, mw_ia9, mw_ia10, mw_ia11, mw_ia15, mw_ia16, mF_0, mF_1, mF_2, mF_3, mF_4, mF_5, mF_6, mF_7, mF_8, mF_9, mF_10, mF_11, mF_12, mF_13, mF_14, mF_15, mF_16, mF_len, mF_s1, mF_s3, mF_s4, mF_s12, mF_s13, mF_s14, mw_uob, mw_u0, mw_u2, mw_u5, mw_u6, mw_u7, mw_u8, mw_u9, mw_u10, mw_u11, mw_u15, mw_u16, Nat.reduceLT, rup_s, rup_rup]
    rw [nI_1]
    exact ih (k + 1) (by omega)
theorem f_mix5 {y : Int64} (hb : c 12 = nI b) (hf : b + 710 ≤ 22416) (hF : MFl (fun k => P (b + k)) f) (hO : fOk A f.2.1) (hky : kyOk f.1) (hK : K (mw w q c (rup r 0 P)) (some (.long (mxN (fun k => aByteNow f (f.2.1.2.1 + k)) 50 y)))) : ∀ (m k : Nat), k + m = 50 → zwp n_M_mixedFlow 5 [(0, .ref q), (4, .long (mxN (fun k => aByteNow f (f.2.1.2.1 + k)) k y)), (6, .int (nI k))] [] 0 0 (mw w q c (rup r 0 P)) K := by
  intro m
  have h4 : P (b + 4) = nI f.2.1.2.1 := hF.1.2.2.2.2.2.2.2.1
  have ho := hO.2.1
  induction m with
  | zero =>
    intro k hk
    obtain rfl : k = 50 := by omega
    exact b_M_mixedFlow_5 ⟨fun _ => b_M_mixedFlow_6 hK, fun z => absurd (by decide) z⟩
  | succ m ih =>
    intro k hk
    refine b_M_mixedFlow_5 ⟨fun z => absurd ((nI_leI (a := 50) (by decide) (by omega)).mp z) (by omega), fun _ => ?_⟩
    simp only [and_assoc, exists_and_left, exists_eq_left, exists_eq_left', Option.some.injEq, Value.int.injEq, Value.ref.injEq, Value.long.injEq, true_and, and_true, exists_eq, exists_true_left, mw_ob, mw_ia0, mw_ia2, mw_ia5, mw_ia6, mw_ia7, mw_ia8, mw_ia9, mw_ia10, mw_ia11, mw_ia15, mw_ia16, mF_0, mF_1, mF_2, mF_3, mF_4, mF_5, mF_6, mF_7, mF_8, mF_9, mF_10, mF_11, mF_12, mF_13, mF_14, mF_15, mF_16, mF_len, mF_s1, mF_s3, mF_s4, mF_s12, mF_s13, mF_s14, mw_uob, mw_u0, mw_u2, mw_u5, mw_u6, mw_u7, mw_u8, mw_u9, mw_u10, mw_u11, mw_u15, mw_u16, Nat.reduceLT, rup_s, rup_rup]
    refine p_of hb (i := 4) rfl (by omega) ?_
    simp only [and_assoc, exists_and_left, exists_eq_left, exists_eq_left', Option.some.injEq, Value.int.injEq, Value.ref.injEq, Value.long.injEq, true_and, and_true, exists_eq, exists_true_left, mw_ob, mw_ia0, mw_ia2, mw_ia5, mw_ia6, mw_ia7, mw_ia8, mw_ia9, mw_ia10, mw_ia11, mw_ia15, mw_ia16, mF_0, mF_1, mF_2, mF_3, mF_4, mF_5, mF_6, mF_7, mF_8, mF_9, mF_10, mF_11, mF_12, mF_13, mF_14, mF_15, mF_16, mF_len, mF_s1, mF_s3, mF_s4, mF_s12, mF_s13, mF_s14, mw_uob, mw_u0, mw_u2, mw_u5, mw_u6, mw_u7, mw_u8, mw_u9, mw_u10, mw_u11, mw_u15, mw_u16, Nat.reduceLT, rup_s, rup_rup]
    refine f_byteNow (A := A) (o := f.2.1.2.1 + k) (f := f) (by omega) (by rw [h4, nI_add]) hb hf hF hO hky ?_
    simp only [and_assoc, exists_and_left, exists_eq_left, exists_eq_left', Option.some.injEq, Value.int.injEq, Value.ref.injEq, Value.long.injEq, true_and, and_true, exists_eq, exists_true_left, mw_ob, mw_ia0, mw_ia2, mw_ia5, mw_ia6, mw_ia7, mw_ia8, mw_ia9, mw_ia10, mw_ia11, mw_ia15, mw_ia16, mF_0, mF_1, mF_2, mF_3, mF_4, mF_5, mF_6, mF_7, mF_8, mF_9, mF_10, mF_11, mF_12, mF_13, mF_14, mF_15, mF_16, mF_len, mF_s1, mF_s3, mF_s4, mF_s12, mF_s13, mF_s14, mw_uob, mw_u0, mw_u2, mw_u5, mw_u6, mw_u7, mw_u8, mw_u9, mw_u10, mw_u11, mw_u15, mw_u16, Nat.reduceLT, rup_s, rup_rup]
    rw [nI_1]
    exact ih (k + 1) (by omega)
theorem f_mixedFlow {x : Int32} {y : Int64} {i : Nat} (hI : MI c r P A s past bs) (hO : stOk A s) (hA : auOk A) (hr : rdOk s) (hx : x = nI i) (hi : i < s.2.2.2.1.length) (hK : ∀ c', (∀ i, i ≠ 12 → c' i = c i) → K (mw w q c' (rup r 0 P)) (some (.long (aMixed A (fGet s.2.2.2.1 i) y)))) : zcall n_M_mixedFlow [.ref q, .long y, .int x] (mw w q c (rup r 0 P)) K := by
  subst hx
  obtain ⟨⟨k1, k2, k5, ⟨sl, k6, k7⟩, k8⟩, h2, h3, h4, h5, h6⟩ := id hI
  have hl : sl.length = s.2.2.2.1.length := k7.1
  have hl4 := k6.2.1
  have hs4 := slG_lt k6 (i := i) (by omega)
  obtain ⟨p1, p2⟩ := hO.2.1 _ (fGet_mem hi)
  have hF := k7.2 i hi
  have e0 : P (186 + 710 * slG sl i + 0) = (fGet s.2.2.2.1 i).1.1 := hF.1.2.2.2.2.2.2.2.2.2.2.2.2.2.2.1
  refine e_M_mixedFlow (b_M_mixedFlow_0 ?_)
  simp only [and_assoc, exists_and_left, exists_eq_left, exists_eq_left', Option.some.injEq, Value.int.injEq, Value.ref.injEq, Value.long.injEq, true_and, and_true, exists_eq, exists_true_left, mw_ob, mw_ia0, mw_ia2, mw_ia5, mw_ia6, mw_ia7, mw_ia8, mw_ia9, mw_ia10, mw_ia11, mw_ia15, mw_ia16, mF_0, mF_1, mF_2, mF_3, mF_4, mF_5, mF_6, mF_7, mF_8, mF_9, mF_10, mF_11, mF_12, mF_13, mF_14, mF_15, mF_16, mF_len, mF_s1, mF_s3, mF_s4, mF_s12, mF_s13, mF_s14, mw_uob, mw_u0, mw_u2, mw_u5, mw_u6, mw_u7, mw_u8, mw_u9, mw_u10, mw_u11, mw_u15, mw_u16, Nat.reduceLT, rup_s, rup_rup]
  refine f_slot k6 (i := i) rfl (by omega) ?_
  simp only [and_assoc, exists_and_left, exists_eq_left, exists_eq_left', Option.some.injEq, Value.int.injEq, Value.ref.injEq, Value.long.injEq, true_and, and_true, exists_eq, exists_true_left, mw_ob, mw_ia0, mw_ia2, mw_ia5, mw_ia6, mw_ia7, mw_ia8, mw_ia9, mw_ia10, mw_ia11, mw_ia15, mw_ia16, mF_0, mF_1, mF_2, mF_3, mF_4, mF_5, mF_6, mF_7, mF_8, mF_9, mF_10, mF_11, mF_12, mF_13, mF_14, mF_15, mF_16, mF_len, mF_s1, mF_s3, mF_s4, mF_s12, mF_s13, mF_s14, mw_uob, mw_u0, mw_u2, mw_u5, mw_u6, mw_u7, mw_u8, mw_u9, mw_u10, mw_u11, mw_u15, mw_u16, Nat.reduceLT, rup_s, rup_rup]
  refine p_of (b := 186 + 710 * slG sl i) (i := 0) rfl rfl (by omega) ?_
  simp only [and_assoc, exists_and_left, exists_eq_left, exists_eq_left', Option.some.injEq, Value.int.injEq, Value.ref.injEq, Value.long.injEq, true_and, and_true, exists_eq, exists_true_left, mw_ob, mw_ia0, mw_ia2, mw_ia5, mw_ia6, mw_ia7, mw_ia8, mw_ia9, mw_ia10, mw_ia11, mw_ia15, mw_ia16, mF_0, mF_1, mF_2, mF_3, mF_4, mF_5, mF_6, mF_7, mF_8, mF_9, mF_10, mF_11, mF_12, mF_13, mF_14, mF_15, mF_16, mF_len, mF_s1, mF_s3, mF_s4, mF_s12, mF_s13, mF_s14, mw_uob, mw_u0, mw_u2, mw_u5, mw_u6, mw_u7, mw_u8, mw_u9, mw_u10, mw_u11, mw_u15, mw_u16, Nat.reduceLT, rup_s, rup_rup]
  rw [e0]
  refine f_mix1 (A := A) (f := fGet s.2.2.2.1 i) (c := upd c 12 (nI (186 + 710 * slG sl i))) (b := 186 + 710 * slG sl i) rfl (by omega) hF p2 p1 hA ⟨h5.1, h5.2⟩ (b_M_mixedFlow_2 ?_) 18 0 rfl
  simp only [and_assoc, exists_and_left, exists_eq_left, exists_eq_left', Option.some.injEq, Value.int.injEq, Value.ref.injEq, Value.long.injEq, true_and, and_true, exists_eq, exists_true_left, mw_ob, mw_ia0, mw_ia2, mw_ia5, mw_ia6, mw_ia7, mw_ia8, mw_ia9, mw_ia10, mw_ia11, mw_ia15, mw_ia16, mF_0, mF_1, mF_2, mF_3, mF_4, mF_5, mF_6, mF_7, mF_8, mF_9, mF_10, mF_11, mF_12, mF_13, mF_14, mF_15, mF_16, mF_len, mF_s1, mF_s3, mF_s4, mF_s12, mF_s13, mF_s14, mw_uob, mw_u0, mw_u2, mw_u5, mw_u6, mw_u7, mw_u8, mw_u9, mw_u10, mw_u11, mw_u15, mw_u16, Nat.reduceLT, rup_s, rup_rup]
  refine f_possibleNow (f := fGet s.2.2.2.1 i) (c := upd c 12 (nI (186 + 710 * slG sl i))) (b := 186 + 710 * slG sl i) rfl (by omega) hF ?_
  simp only [and_assoc, exists_and_left, exists_eq_left, exists_eq_left', Option.some.injEq, Value.int.injEq, Value.ref.injEq, Value.long.injEq, true_and, and_true, exists_eq, exists_true_left, mw_ob, mw_ia0, mw_ia2, mw_ia5, mw_ia6, mw_ia7, mw_ia8, mw_ia9, mw_ia10, mw_ia11, mw_ia15, mw_ia16, mF_0, mF_1, mF_2, mF_3, mF_4, mF_5, mF_6, mF_7, mF_8, mF_9, mF_10, mF_11, mF_12, mF_13, mF_14, mF_15, mF_16, mF_len, mF_s1, mF_s3, mF_s4, mF_s12, mF_s13, mF_s14, mw_uob, mw_u0, mw_u2, mw_u5, mw_u6, mw_u7, mw_u8, mw_u9, mw_u10, mw_u11, mw_u15, mw_u16, Nat.reduceLT, rup_s, rup_rup]
  refine f_mix3 (f := fGet s.2.2.2.1 i) (c := upd c 12 (nI (186 + 710 * slG sl i))) (b := 186 + 710 * slG sl i) rfl (by omega) hF (hr _ (fGet_mem hi)) (b_M_mixedFlow_4 ?_) 8 0 rfl
  exact f_mix5 (A := A) (f := fGet s.2.2.2.1 i) (c := upd c 12 (nI (186 + 710 * slG sl i))) (b := 186 + 710 * slG sl i) rfl (by omega) hF p2 p1 (hK _ (fun i hi => if_neg hi)) 50 0 rfl
end MMix
