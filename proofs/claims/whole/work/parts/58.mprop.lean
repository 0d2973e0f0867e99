/-! THE MODEL: possibleMany(), propertyNow(..), byteNow(..), readNow(..), possibleNow() -/
def aPop (ps : Nat) : Nat → Nat
  | 0 => 0
  | n + 1 => aPop ps n + (if ps.testBit n then 1 else 0)
def aProp (A : aAU) (f : aFlow) : Nat → Int32
  | 0 => nI f.2.1.2.1
  | 1 => nI f.2.1.2.2.1.length
  | 2 => nI (aCount f.2.1.2.2.1 f.2.1.2.1)
  | 3 => nI f.1.2.1
  | 4 => nI f.1.2.2.1
  | 5 => nI f.1.2.2.2
  | 6 => nI f.2.1.1.1.1
  | 7 => nI (aPop f.2.1.1.1.2.1 A.1)
  | 8 => nI f.2.1.1.2.1
  | 9 => nI f.2.1.2.2.2.2.2.2.1
  | 10 => nI f.2.1.2.2.2.2.2.2.2
  | 11 => nI f.2.1.2.2.2.1
  | 12 => nI f.2.1.2.2.2.2.1
  | 13 => nI f.2.1.2.2.2.2.2.1
  | 14 => nI f.2.1.1.1.2.2.1.length
  | 15 => nI f.2.1.1.1.2.2.2.2.2.1
  | 16 => nI f.2.1.1.1.2.2.2.2.2.2.1
  | 17 => nI f.2.2.length
  | _ => 0
def aByteNow (f : aFlow) (o : Nat) : Int32 := match chA f.2.1.2.1 f.1.2.1 f.2.1.2.2.1 o f.2.1.2.2.1.length with
  | none => -9
  | some k => aByte (aPc f.2.1.2.2.1 k) o
def aReadNow (f : aFlow) (k : Nat) : Int32 := if f.2.1.1.1.2.2.1.length ≤ k then -9 else (hiA f.2.1.1.1.2.2.1 k).1
def aLong (ps : Nat) : Int64 := (nI (ps % 2 ^ 25)).toInt64 + ((nI (ps / 2 ^ 25)).toInt64 <<< ((25 : Int32).toInt64 &&& 63))
section MProp
variable {w : jx_W} {q : Nat} {c : Nat → Int32} {r : Nat → Nat → Int32} {K : jx_Q} {P : Nat → Int32} {A : aAU} {b : Nat} {f : aFlow}
theorem p_covered (hb : c 12 = nI b) (hf : b + 710 ≤ 22416) (hF : MFl (fun k => P (b + k)) f) (hO : fOk A f.2.1) (hky : kyOk f.1) (hK : K (mw w q c (rup r 0 P)) (some (.int (nI (aCount f.2.1.2.2.1 f.2.1.2.1))))) : zcall n_M_covered [.ref q, .int 0] (mw w q c (rup r 0 P)) K := by
  obtain ⟨⟨a1, a2, a3, a4, a5, a6, a7, a8, a9, a10, a11, a12, a13, a14, a15, a16, a17, a18⟩, a19⟩ := hF
  have ho := hO.2.1
  have h := f_covered0 (w := w) (q := q) (K := K) (c := c) (r := r) (P := P) (b := b) (g := fun k => P (b + k)) hb hf a9 a8 (by omega) a16 hky.1 (by rw [pgf_id]; exact hK)
  rw [pgf_id] at h
  exact h
theorem p_isPossible {x : Int32} {n ps : Nat} (hb : c 12 = nI b) (hf : b + 710 ≤ 22416) (hp : PM (fun k => P (b + k)) ps) (hx : x = nI n) (hn : n < 49) (h1 : ps.testBit n = true → K (mw w q c (rup r 0 P)) (some (.int 1))) (h0 : ps.testBit n = false → K (mw w q c (rup r 0 P)) (some (.int 0))) : zcall n_M_isPossible [.ref q, .int x] (mw w q c (rup r 0 P)) K := by
  have h := f_isPossible (w := w) (q := q) (K := K) (c := c) (r := r) (P := P) (b := b) (g := fun k => P (b + k)) hb hf hp hx hn (by rw [pgf_id]; exact h1) (by rw [pgf_id]; exact h0)
  rw [pgf_id] at h
  exact h
theorem f_many_loop {ps : Nat} (hb : c 12 = nI b) (hf : b + 710 ≤ 22416) (hp : PM (fun k => P (b + k)) ps) (hA : auOk A) (hm : MA c r A) (hK : K (mw w q c (rup r 0 P)) (some (.int (nI (aPop ps A.1))))) : ∀ (m i : Nat), i + m = A.1 → zwp n_M_possibleMany 1 [(0, .ref q), (1, .int (nI (aPop ps i))), (2, .int (nI i))] [] 0 0 (mw w q c (rup r 0 P)) K := by
  intro m
  have h49 := hA.2.1
  induction m with
  | zero =>
    intro i hi
    obtain rfl : i = A.1 := by omega
    refine b_M_possibleMany_1 ?_
    simp only [and_assoc, exists_and_left, exists_eq_left, exists_eq_left', Option.some.injEq, Value.int.injEq, Value.ref.injEq, Value.long.injEq, true_and, and_true, exists_eq, exists_true_left, mw_ob, mw_ia0, mw_ia2, mw_ia5, mw_ia6, mw_ia7, mw_ia8, mw_ia9, mw_ia10, mw_ia11, mw_ia15, mw_ia16, mF_0, mF_1, mF_2, mF_3, mF_4, mF_5, mF_6, mF_7, mF_8, mF_9, mF_10, mF_11, mF_12, mF_13, mF_14, mF_15, mF_16, mF_len, mF_s1, mF_s3, mF_s4, mF_s12, mF_s13, mF_s14, mw_uob, mw_u0, mw_u2, mw_u5, mw_u6, mw_u7, mw_u8, mw_u9, mw_u10, mw_u11, mw_u15, mw_u16, Nat.reduceLT, rup_s, rup_rup]
    rw [hm.1]
    exact ⟨fun _ => b_M_possibleMany_4 hK, fun z => absurd ((nI_leI (by omega) (by omega)).mpr (Nat.le_refl _)) z⟩
  | succ m ih =>
    intro i hi
    refine b_M_possibleMany_1 ?_
    simp only [and_assoc, exists_and_left, exists_eq_left, exists_eq_left', Option.some.injEq, Value.int.injEq, Value.ref.injEq, Value.long.injEq, true_and, and_true, exists_eq, exists_true_left, mw_ob, mw_ia0, mw_ia2, mw_ia5, mw_ia6, mw_ia7, mw_ia8, mw_ia9, mw_ia10, mw_ia11, mw_ia15, mw_ia16, mF_0, mF_1, mF_2, mF_3, mF_4, mF_5, mF_6, mF_7, mF_8, mF_9, mF_10, mF_11, mF_12, mF_13, mF_14, mF_15, mF_16, mF_len, mF_s1, mF_s3, mF_s4, mF_s12, mF_s13, mF_s14, mw_uob, mw_u0, mw_u2, mw_u5, mw_u6, mw_u7, mw_u8, mw_u9, mw_u10, mw_u11, mw_u15, mw_u16, Nat.reduceLT, rup_s, rup_rup]
    rw [hm.1]
    refine ⟨fun z => absurd ((nI_leI (by omega) (by omega)).mp z) (by omega), fun _ => p_isPossible hb hf hp rfl (by omega) (fun h => ?_) (fun h => ?_)⟩
    · simp only [and_assoc, exists_and_left, exists_eq_left, exists_eq_left', Option.some.injEq, Value.int.injEq, Value.ref.injEq, Value.long.injEq, true_and, and_true, exists_eq, exists_true_left, mw_ob, mw_ia0, mw_ia2, mw_ia5, mw_ia6, mw_ia7, mw_ia8, mw_ia9, mw_ia10, mw_ia11, mw_ia15, mw_ia16, mF_0, mF_1, mF_2, mF_3, mF_4, mF_5, mF_6, mF_7, mF_8, mF_9, mF_10, mF_11, mF_12, mF_13, mF_14, mF_15, mF_16, mF_len, mF_s1, mF_s3, mF_s4, mF_s12, mF_s13, mF_s14, mw_uob, mw_u0, mw_u2, mw_u5, mw_u6, mw_u7, mw_u8, mw_u9, mw_u10, mw_u11, mw_u15, mw_u16, Nat.reduceLT, rup_s, rup_rup]
      refine if0 (b_M_possibleMany_3 ?_)
      have e : aPop ps (i + 1) = aPop ps i + 1 := by
        show aPop ps i + (if ps.testBit i then 1 else 0) = _
        rw [if_pos h]
      rw [nI_1, nI_1, ← e]
      exact ih (i + 1) (by omega)
    · simp only [and_assoc, exists_and_left, exists_eq_left, exists_eq_left', Option.some.injEq, Value.int.injEq, Value.ref.injEq, Value.long.injEq, true_and, and_true, exists_eq, exists_true_left, mw_ob, mw_ia0, mw_ia2, mw_ia5, mw_ia6, mw_ia7, mw_ia8, mw_ia9, mw_ia10, mw_ia11, mw_ia15, mw_ia16, mF_0, mF_1, mF_2, mF_3, mF_4, mF_5, mF_6, mF_7, mF_8, mF_9, mF_10, mF_11, mF_12, mF_13, mF_14, mF_15, mF_16, mF_len, mF_s1, mF_s3, mF_s4, mF_s12, mF_s13, mF_s14, mw_uob, mw_u0, mw_u2, mw_u5, mw_u6, mw_u7, mw_u8, mw_u9, mw_u10, mw_u11, mw_u15, mw_u16, Nat.reduceLT, rup_s, rup_rup]
      refine if1 (b_M_possibleMany_2 (b_M_possibleMany_3 ?_))
      have e : aPop ps (i + 1) = aPop ps i := by
        show aPop ps i + (if ps.testBit i then 1 else 0) = _
        rw [if_neg (by rw [h]; decide)]; rfl
      rw [nI_1, lit_0, nI_add, Nat.add_zero, ← e]
      exact ih (i + 1) (by omega)
theorem f_propertyNow {x : Int32} {k : Nat} (hk : k ≤ 17) (hx : x = nI k) (hb : c 12 = nI b) (hf : b + 710 ≤ 22416) (hF : MFl (fun k => P (b + k)) f) (hO : fOk A f.2.1) (hky : kyOk f.1) (hA : auOk A) (hm : MA c r A) (hK : K (mw w q c (rup r 0 P)) (some (.int (aProp A f k)))) : zcall n_M_propertyNow [.ref q, .int x] (mw w q c (rup r 0 P)) K := by
  subst hx
  obtain ⟨⟨a1, a2, a3, a4, a5, a6, a7, a8, a9, a10, a11, a12, a13, a14, a15, a16, a17, a18⟩, a19⟩ := id hF
  have go : ∀ (y : Int32) (i : Nat) (v : Int32) (K' : jx_Q), y = nI i → i < 710 → P (b + i) = v → K' (mw w q c (rup r 0 P)) (some (.int v)) → zcall n_M_of [.ref q, .int y] (mw w q c (rup r 0 P)) K' := fun y i v K' h1 h2 h3 h4 => p_of hb h1 (by omega) (by rw [h3]; exact h4)
  have et : (nI k).toInt = (k : Int) := nI_toInt (by omega)
  refine e_M_propertyNow (b_M_propertyNow_0 ?_)
  rw [et]
  refine ⟨fun z => ?_, fun z => ?_, fun z => ?_, fun z => ?_, fun z => ?_, fun z => ?_, fun z => ?_, fun z => ?_, fun z => ?_, fun z => ?_⟩
  · obtain rfl : k = 0 := by omega
    refine b_M_propertyNow_1 ?_
    simp only [and_assoc, exists_and_left, exists_eq_left, exists_eq_left', Option.some.injEq, Value.int.injEq, Value.ref.injEq, Value.long.injEq, true_and, and_true, exists_eq, exists_true_left, mw_ob, mw_ia0, mw_ia2, mw_ia5, mw_ia6, mw_ia7, mw_ia8, mw_ia9, mw_ia10, mw_ia11, mw_ia15, mw_ia16, mF_0, mF_1, mF_2, mF_3, mF_4, mF_5, mF_6, mF_7, mF_8, mF_9, mF_10, mF_11, mF_12, mF_13, mF_14, mF_15, mF_16, mF_len, mF_s1, mF_s3, mF_s4, mF_s12, mF_s13, mF_s14, mw_uob, mw_u0, mw_u2, mw_u5, mw_u6, mw_u7, mw_u8, mw_u9, mw_u10, mw_u11, mw_u15, mw_u16, Nat.reduceLT, rup_s, rup_rup]
    exact go 4 4 _ _ rfl (by decide) a8 (by simpa [aProp] using hK)
  · obtain rfl : k = 1 := by omega
    refine b_M_propertyNow_2 ?_
    simp only [and_assoc, exists_and_left, exists_eq_left, exists_eq_left', Option.some.injEq, Value.int.injEq, Value.ref.injEq, Value.long.injEq, true_and, and_true, exists_eq, exists_true_left, mw_ob, mw_ia0, mw_ia2, mw_ia5, mw_ia6, mw_ia7, mw_ia8, mw_ia9, mw_ia10, mw_ia11, mw_ia15, mw_ia16, mF_0, mF_1, mF_2, mF_3, mF_4, mF_5, mF_6, mF_7, mF_8, mF_9, mF_10, mF_11, mF_12, mF_13, mF_14, mF_15, mF_16, mF_len, mF_s1, mF_s3, mF_s4, mF_s12, mF_s13, mF_s14, mw_uob, mw_u0, mw_u2, mw_u5, mw_u6, mw_u7, mw_u8, mw_u9, mw_u10, mw_u11, mw_u15, mw_u16, Nat.reduceLT, rup_s, rup_rup]
    exact go 5 5 _ _ rfl (by decide) a9.1 (by simpa [aProp] using hK)
  · obtain rfl : k = 2 := by omega
    refine b_M_propertyNow_3 ?_
    simp only [and_assoc, exists_and_left, exists_eq_left, exists_eq_left', Option.some.injEq, Value.int.injEq, Value.ref.injEq, Value.long.injEq, true_and, and_true, exists_eq, exists_true_left, mw_ob, mw_ia0, mw_ia2, mw_ia5, mw_ia6, mw_ia7, mw_ia8, mw_ia9, mw_ia10, mw_ia11, mw_ia15, mw_ia16, mF_0, mF_1, mF_2, mF_3, mF_4, mF_5, mF_6, mF_7, mF_8, mF_9, mF_10, mF_11, mF_12, mF_13, mF_14, mF_15, mF_16, mF_len, mF_s1, mF_s3, mF_s4, mF_s12, mF_s13, mF_s14, mw_uob, mw_u0, mw_u2, mw_u5, mw_u6, mw_u7, mw_u8, mw_u9, mw_u10, mw_u11, mw_u15, mw_u16, Nat.reduceLT, rup_s, rup_rup]
    exact p_covered hb hf hF hO hky (by simpa [aProp] using hK)
  · obtain rfl : k = 3 := by omega
    refine b_M_propertyNow_4 ?_
    simp only [and_assoc, exists_and_left, exists_eq_left, exists_eq_left', Option.some.injEq, Value.int.injEq, Value.ref.injEq, Value.long.injEq, true_and, and_true, exists_eq, exists_true_left, mw_ob, mw_ia0, mw_ia2, mw_ia5, mw_ia6, mw_ia7, mw_ia8, mw_ia9, mw_ia10, mw_ia11, mw_ia15, mw_ia16, mF_0, mF_1, mF_2, mF_3, mF_4, mF_5, mF_6, mF_7, mF_8, mF_9, mF_10, mF_11, mF_12, mF_13, mF_14, mF_15, mF_16, mF_len, mF_s1, mF_s3, mF_s4, mF_s12, mF_s13, mF_s14, mw_uob, mw_u0, mw_u2, mw_u5, mw_u6, mw_u7, mw_u8, mw_u9, mw_u10, mw_u11, mw_u15, mw_u16, Nat.reduceLT, rup_s, rup_rup]
    exact go 1 1 _ _ rfl (by decide) a16 (by simpa [aProp] using hK)
  · obtain rfl : k = 4 := by omega
    refine b_M_propertyNow_5 ?_
    simp only [and_assoc, exists_and_left, exists_eq_left, exists_eq_left', Option.some.injEq, Value.int.injEq, Value.ref.injEq, Value.long.injEq, true_and, and_true, exists_eq, exists_true_left, mw_ob, mw_ia0, mw_ia2, mw_ia5, mw_ia6, mw_ia7, mw_ia8, mw_ia9, mw_ia10, mw_ia11, mw_ia15, mw_ia16, mF_0, mF_1, mF_2, mF_3, mF_4, mF_5, mF_6, mF_7, mF_8, mF_9, mF_10, mF_11, mF_12, mF_13, mF_14, mF_15, mF_16, mF_len, mF_s1, mF_s3, mF_s4, mF_s12, mF_s13, mF_s14, mw_uob, mw_u0, mw_u2, mw_u5, mw_u6, mw_u7, mw_u8, mw_u9, mw_u10, mw_u11, mw_u15, mw_u16, Nat.reduceLT, rup_s, rup_rup]
    exact go 2 2 _ _ rfl (by decide) a17 (by simpa [aProp] using hK)
  · obtain rfl : k = 5 := by omega
    refine b_M_propertyNow_6 ?_
    simp only [and_assoc, exists_and_left, exists_eq_left, exists_eq_left', Option.some.injEq, Value.int.injEq, Value.ref.injEq, Value.long.injEq, true_and, and_true, exists_eq, exists_true_left, mw_ob, mw_ia0, mw_ia2, mw_ia5, mw_ia6, mw_ia7, mw_ia8, mw_ia9, mw_ia10, mw_ia11, mw_ia15, mw_ia16, mF_0, mF_1, mF_2, mF_3, mF_4, mF_5, mF_6, mF_7, mF_8, mF_9, mF_10, mF_11, mF_12, mF_13, mF_14, mF_15, mF_16, mF_len, mF_s1, mF_s3, mF_s4, mF_s12, mF_s13, mF_s14, mw_uob, mw_u0, mw_u2, mw_u5, mw_u6, mw_u7, mw_u8, mw_u9, mw_u10, mw_u11, mw_u15, mw_u16, Nat.reduceLT, rup_s, rup_rup]
    exact go 3 3 _ _ rfl (by decide) a18 (by simpa [aProp] using hK)
  · obtain rfl : k = 6 := by omega
    refine b_M_propertyNow_7 ?_
    simp only [and_assoc, exists_and_left, exists_eq_left, exists_eq_left', Option.some.injEq, Value.int.injEq, Value.ref.injEq, Value.long.injEq, true_and, and_true, exists_eq, exists_true_left, mw_ob, mw_ia0, mw_ia2, mw_ia5, mw_ia6, mw_ia7, mw_ia8, mw_ia9, mw_ia10, mw_ia11, mw_ia15, mw_ia16, mF_0, mF_1, mF_2, mF_3, mF_4, mF_5, mF_6, mF_7, mF_8, mF_9, mF_10, mF_11, mF_12, mF_13, mF_14, mF_15, mF_16, mF_len, mF_s1, mF_s3, mF_s4, mF_s12, mF_s13, mF_s14, mw_uob, mw_u0, mw_u2, mw_u5, mw_u6, mw_u7, mw_u8, mw_u9, mw_u10, mw_u11, mw_u15, mw_u16, Nat.reduceLT, rup_s, rup_rup]
    exact go 6 6 _ _ rfl (by decide) a1 (by simpa [aProp] using hK)
  · obtain rfl : k = 7 := by omega
    refine b_M_propertyNow_8 ?_
    simp only [and_assoc, exists_and_left, exists_eq_left, exists_eq_left', Option.some.injEq, Value.int.injEq, Value.ref.injEq, Value.long.injEq, true_and, and_true, exists_eq, exists_true_left, mw_ob, mw_ia0, mw_ia2, mw_ia5, mw_ia6, mw_ia7, mw_ia8, mw_ia9, mw_ia10, mw_ia11, mw_ia15, mw_ia16, mF_0, mF_1, mF_2, mF_3, mF_4, mF_5, mF_6, mF_7, mF_8, mF_9, mF_10, mF_11, mF_12, mF_13, mF_14, mF_15, mF_16, mF_len, mF_s1, mF_s3, mF_s4, mF_s12, mF_s13, mF_s14, mw_uob, mw_u0, mw_u2, mw_u5, mw_u6, mw_u7, mw_u8, mw_u9, mw_u10, mw_u11, mw_u15, mw_u16, Nat.reduceLT, rup_s, rup_rup]
    exact e_M_possibleMany (b_M_possibleMany_0 (f_many_loop hb hf a2 hA hm (by simpa [aProp] using hK) A.1 0 (Nat.zero_add _)))
  · obtain rfl : k = 8 := by omega
    refine b_M_propertyNow_9 ?_
    simp only [and_assoc, exists_and_left, exists_eq_left, exists_eq_left', Option.some.injEq, Value.int.injEq, Value.ref.injEq, Value.long.injEq, true_and, and_true, exists_eq, exists_true_left, mw_ob, mw_ia0, mw_ia2, mw_ia5, mw_ia6, mw_ia7, mw_ia8, mw_ia9, mw_ia10, mw_ia11, mw_ia15, mw_ia16, mF_0, mF_1, mF_2, mF_3, mF_4, mF_5, mF_6, mF_7, mF_8, mF_9, mF_10, mF_11, mF_12, mF_13, mF_14, mF_15, mF_16, mF_len, mF_s1, mF_s3, mF_s4, mF_s12, mF_s13, mF_s14, mw_uob, mw_u0, mw_u2, mw_u5, mw_u6, mw_u7, mw_u8, mw_u9, mw_u10, mw_u11, mw_u15, mw_u16, Nat.reduceLT, rup_s, rup_rup]
    exact go 9 9 _ _ rfl (by decide) a7.1 (by simpa [aProp] using hK)
  · have hk9 : 9 ≤ k := by omega
    refine b_M_propertyNow_10 ?_
    simp only [and_assoc, exists_and_left, exists_eq_left, exists_eq_left', Option.some.injEq, Value.int.injEq, Value.ref.injEq, Value.long.injEq, true_and, and_true, exists_eq, exists_true_left, mw_ob, mw_ia0, mw_ia2, mw_ia5, mw_ia6, mw_ia7, mw_ia8, mw_ia9, mw_ia10, mw_ia11, mw_ia15, mw_ia16, mF_0, mF_1, mF_2, mF_3, mF_4, mF_5, mF_6, mF_7, mF_8, mF_9, mF_10, mF_11, mF_12, mF_13, mF_14, mF_15, mF_16, mF_len, mF_s1, mF_s3, mF_s4, mF_s12, mF_s13, mF_s14, mw_uob, mw_u0, mw_u2, mw_u5, mw_u6, mw_u7, mw_u8, mw_u9, mw_u10, mw_u11, mw_u15, mw_u16, Nat.reduceLT, rup_s, rup_rup]
    have ev : P (b + (4 + k)) = aProp A f k := by
      obtain rfl | rfl | rfl | rfl | rfl | rfl | rfl | rfl | rfl : k = 9 ∨ k = 10 ∨ k = 11 ∨ k = 12 ∨ k = 13 ∨ k = 14 ∨ k = 15 ∨ k = 16 ∨ k = 17 := by omega
      · exact a13
      · exact a14
      · exact a10
      · exact a11
      · exact a12
      · exact a3.1
      · exact a5
      · exact a6
      · exact a19.1
    refine go _ (4 + k) _ _ ?_ (by omega) ev (by simpa using hK)
    rw [lit_13, lit_9, nI_add, pk_sub (by omega), show 13 + k - 9 = 4 + k by omega]
theorem f_possibleNow (hb : c 12 = nI b) (hf : b + 710 ≤ 22416) (hF : MFl (fun k => P (b + k)) f) (hK : K (mw w q c (rup r 0 P)) (some (.long (aLong f.2.1.1.1.2.1)))) : zcall n_M_possibleNow [.ref q] (mw w q c (rup r 0 P)) K := by
  obtain ⟨a1, ⟨p1, p2, p3⟩, -⟩ := hF.1
  have p1 : P (b + 7) = _ := p1
  have p2 : P (b + 8) = _ := p2
  refine e_M_possibleNow (b_M_possibleNow_0 ?_)
  simp only [and_assoc, exists_and_left, exists_eq_left, exists_eq_left', Option.some.injEq, Value.int.injEq, Value.ref.injEq, Value.long.injEq, true_and, and_true, exists_eq, exists_true_left, mw_ob, mw_ia0, mw_ia2, mw_ia5, mw_ia6, mw_ia7, mw_ia8, mw_ia9, mw_ia10, mw_ia11, mw_ia15, mw_ia16, mF_0, mF_1, mF_2, mF_3, mF_4, mF_5, mF_6, mF_7, mF_8, mF_9, mF_10, mF_11, mF_12, mF_13, mF_14, mF_15, mF_16, mF_len, mF_s1, mF_s3, mF_s4, mF_s12, mF_s13, mF_s14, mw_uob, mw_u0, mw_u2, mw_u5, mw_u6, mw_u7, mw_u8, mw_u9, mw_u10, mw_u11, mw_u15, mw_u16, Nat.reduceLT, rup_s, rup_rup]
  refine p_of hb (i := 7) rfl (by omega) ?_
  simp only [and_assoc, exists_and_left, exists_eq_left, exists_eq_left', Option.some.injEq, Value.int.injEq, Value.ref.injEq, Value.long.injEq, true_and, and_true, exists_eq, exists_true_left, mw_ob, mw_ia0, mw_ia2, mw_ia5, mw_ia6, mw_ia7, mw_ia8, mw_ia9, mw_ia10, mw_ia11, mw_ia15, mw_ia16, mF_0, mF_1, mF_2, mF_3, mF_4, mF_5, mF_6, mF_7, mF_8, mF_9, mF_10, mF_11, mF_12, mF_13, mF_14, mF_15, mF_16, mF_len, mF_s1, mF_s3, mF_s4, mF_s12, mF_s13, mF_s14, mw_uob, mw_u0, mw_u2, mw_u5, mw_u6, mw_u7, mw_u8, mw_u9, mw_u10, mw_u11, mw_u15, mw_u16, Nat.reduceLT, rup_s, rup_rup]
  refine p_of hb (i := 8) rfl (by omega) ?_
  simp only [and_assoc, exists_and_left, exists_eq_left, exists_eq_left', Option.some.injEq, Value.int.injEq, Value.ref.injEq, Value.long.injEq, true_and, and_true, exists_eq, exists_true_left, mw_ob, mw_ia0, mw_ia2, mw_ia5, mw_ia6, mw_ia7, mw_ia8, mw_ia9, mw_ia10, mw_ia11, mw_ia15, mw_ia16, mF_0, mF_1, mF_2, mF_3, mF_4, mF_5, mF_6, mF_7, mF_8, mF_9, mF_10, mF_11, mF_12, mF_13, mF_14, mF_15, mF_16, mF_len, mF_s1, mF_s3, mF_s4, mF_s12, mF_s13, mF_s14, mw_uob, mw_u0, mw_u2, mw_u5, mw_u6, mw_u7, mw_u8, mw_u9, mw_u10, mw_u11, mw_u15, mw_u16, Nat.reduceLT, rup_s, rup_rup]
  rw [p1, p2]
  exact hK
theorem f_readNow {x : Int32} {k : Nat} (hk : k ≤ 7) (hx : x = nI k) (hb : c 12 = nI b) (hf : b + 710 ≤ 22416) (hF : MFl (fun k => P (b + k)) f) (hh : f.2.1.1.1.2.2.1.length < 2 ^ 31) (hK : K (mw w q c (rup r 0 P)) (some (.int (aReadNow f k)))) : zcall n_M_readNow [.ref q, .int x] (mw w q c (rup r 0 P)) K := by
  subst hx
  obtain ⟨-, -, ⟨h1, h2⟩, -⟩ := hF.1
  have h1 : P (b + 18) = _ := h1
  have h2 : P (b + (22 + k)) = _ := (h2 k (by omega)).1
  unfold aReadNow at hK
  refine e_M_readNow (b_M_readNow_0 ?_)
  simp only [and_assoc, exists_and_left, exists_eq_left, exists_eq_left', Option.some.injEq, Value.int.injEq, Value.ref.injEq, Value.long.injEq, true_and, and_true, exists_eq, exists_true_left, mw_ob, mw_ia0, mw_ia2, mw_ia5, mw_ia6, mw_ia7, mw_ia8, mw_ia9, mw_ia10, mw_ia11, mw_ia15, mw_ia16, mF_0, mF_1, mF_2, mF_3, mF_4, mF_5, mF_6, mF_7, mF_8, mF_9, mF_10, mF_11, mF_12, mF_13, mF_14, mF_15, mF_16, mF_len, mF_s1, mF_s3, mF_s4, mF_s12, mF_s13, mF_s14, mw_uob, mw_u0, mw_u2, mw_u5, mw_u6, mw_u7, mw_u8, mw_u9, mw_u10, mw_u11, mw_u15, mw_u16, Nat.reduceLT, rup_s, rup_rup]
  refine p_of hb (i := 18) rfl (by omega) ?_
  simp only [and_assoc, exists_and_left, exists_eq_left, exists_eq_left', Option.some.injEq, Value.int.injEq, Value.ref.injEq, Value.long.injEq, true_and, and_true, exists_eq, exists_true_left, mw_ob, mw_ia0, mw_ia2, mw_ia5, mw_ia6, mw_ia7, mw_ia8, mw_ia9, mw_ia10, mw_ia11, mw_ia15, mw_ia16, mF_0, mF_1, mF_2, mF_3, mF_4, mF_5, mF_6, mF_7, mF_8, mF_9, mF_10, mF_11, mF_12, mF_13, mF_14, mF_15, mF_16, mF_len, mF_s1, mF_s3, mF_s4, mF_s12, mF_s13, mF_s14, mw_uob, mw_u0, mw_u2, mw_u5, mw_u6, mw_u7, mw_u8, mw_u9, mw_u10, mw_u11, mw_u15, mw_u16, Nat.reduceLT, rup_s, rup_rup]
  rw [h1]
  refine ⟨fun z => b_M_readNow_1 (b_M_readNow_2 ?_), fun z => ?_⟩
  · rw [if_pos ((nI_leI hh (by omega)).mp z)] at hK
    exact hK
  · rw [if_neg (fun y => z ((nI_leI hh (by omega)).mpr y))] at hK
    refine p_of hb (i := 22 + k) (by rw [lit_22, nI_add]) (by omega) ?_
    simp only [and_assoc, exists_and_left, exists_eq_left, exists_eq_left', Option.some.injEq, Value.int.injEq, Value.ref.injEq, Value.long.injEq, true_and, and_true, exists_eq, exists_true_left, mw_ob, mw_ia0, mw_ia2, mw_ia5, mw_ia6, mw_ia7, mw_ia8, mw_ia9, mw_ia10, mw_ia11, mw_ia15, mw_ia16, mF_0, mF_1, mF_2, mF_3, mF_4, mF_5, mF_6, mF_7, mF_8, mF_9, mF_10, mF_11, mF_12, mF_13, mF_14, mF_15, mF_16, mF_len, mF_s1, mF_s3, mF_s4, mF_s12, mF_s13, mF_s14, mw_uob, mw_u0, mw_u2, mw_u5, mw_u6, mw_u7, mw_u8, mw_u9, mw_u10, mw_u11, mw_u15, mw_u16, Nat.reduceLT, rup_s, rup_rup]
    rw [h2]
    exact b_M_readNow_2 hK
end MProp
