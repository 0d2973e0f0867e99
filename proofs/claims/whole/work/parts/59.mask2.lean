/-! THE MODEL: property(..), byteAt(..), possible(..), read(..), find(..), definedSet(), told(..), type(..), clear() -/
theorem rng_nI {x : Int32} {hi : Nat} (hh : hi < 2 ^ 30) (h : (0 : Int32) ≤ x ∧ x ≤ nI hi) : ∃ o : Nat, o ≤ hi ∧ x = nI o := by
  rcases pk_ix x (n := hi + 1) (by omega) with h1 | h1 | ⟨j, h1, h2⟩
  · exact absurd h1 (Int32.not_lt.mpr h.1)
  · have := (nI_leI (by omega) (by omega)).mp (Int32.le_trans h1 h.2)
    omega
  · exact ⟨j, by omega, h2⟩
def aAsk (s : aSt) (lo : Int32) (hi : Nat) (key x : Int32) (v : aFlow → Nat → Int32) : Int32 := if lo ≤ x ∧ x ≤ nI hi then (if (0 : Int32) ≤ aAsked s.2.2.2.1 key then v (fGet s.2.2.2.1 (aAsked s.2.2.2.1 key).toNatClampNeg) x.toNatClampNeg else aAsked s.2.2.2.1 key) else -1
def aPossible (s : aSt) (key : Int32) : Int64 := if (0 : Int32) ≤ aAsked s.2.2.2.1 key then aLong (fGet s.2.2.2.1 (aAsked s.2.2.2.1 key).toNatClampNeg).2.1.1.1.2.1 else (aAsked s.2.2.2.1 key).toInt64
/-- no flow has read more than it has bytes -/
def rdOk (s : aSt) : Prop := ∀ f ∈ s.2.2.2.1, f.2.1.1.1.2.2.1.length < 2 ^ 31
theorem MI_12 {c c' : Nat → Int32} {r : Nat → Nat → Int32} {P : Nat → Int32} {A : aAU} {s : aSt} {past : List aSt} {bs : List Int32} (h : MI c r P A s past bs) (e : ∀ i, i ≠ 12 → c' i = c i) : MI c' r P A s past bs := by
  obtain ⟨h1, h2, h3, h4, h5, f0, h6⟩ := h
  exact ⟨h1, h2, (e 1 (by decide)).trans h3, ⟨(e 3 (by decide)).trans h4.1, h4.2⟩, ⟨(e 4 (by decide)).trans h5.1, h5.2⟩, f0, (e 14 (by decide)).trans h6⟩
section MAsk2
variable {w : jx_W} {q : Nat} {c : Nat → Int32} {r : Nat → Nat → Int32} {K : jx_Q} {P : Nat → Int32} {A : aAU} {s : aSt} {past : List aSt} {bs : List Int32}
theorem f_byteNow {x : Int32} {o b : Nat} {f : aFlow} (ho : o < 2 ^ 30) (hx : x = nI o) (hb : c 12 = nI b) (hf : b + 710 ≤ 22416) (hF : MFl (fun k => P (b + k)) f) (hO : fOk A f.2.1) (hky : kyOk f.1) (hK : K (mw w q c (rup r 0 P)) (some (.int (aByteNow f o)))) : zcall n_M_byteNow [.ref q, .int x] (mw w q c (rup r 0 P)) K := by
  subst hx
  obtain ⟨⟨a1, a2, a3, a4, a5, a6, a7, a8, a9, a10, a11, a12, a13, a14, a15, a16, a17, a18⟩, a19⟩ := id hF
  have h1 := hO.2.1
  have h6 := hO.2.2.2
  unfold aByteNow at hK
  have hg : pgf P b 710 (fun k => P (b + k)) = P := pgf_id
  refine e_M_byteNow (b_M_byteNow_0 ?_)
  simp only [and_assoc, exists_and_left, exists_eq_left, exists_eq_left', Option.some.injEq, Value.int.injEq, Value.ref.injEq, Value.long.injEq, true_and, and_true, exists_eq, exists_true_left, mw_ob, mw_ia0, mw_ia2, mw_ia5, mw_ia6, mw_ia7, mw_ia8, mw_ia9, mw_ia10, mw_ia11, mw_ia15, mw_ia16, mF_0, mF_1, mF_2, mF_3, mF_4, mF_5, mF_6, mF_7, mF_8, mF_9, mF_10, mF_11, mF_12, mF_13, mF_14, mF_15, mF_16, mF_len, mF_s1, mF_s3, mF_s4, mF_s12, mF_s13, mF_s14, mw_uob, mw_u0, mw_u2, mw_u5, mw_u6, mw_u7, mw_u8, mw_u9, mw_u10, mw_u11, mw_u15, mw_u16, Nat.reduceLT, rup_s, rup_rup]
  rw [← hg]
  refine f_chosen (a := f.2.1.2.1) (pol := f.1.2.1) (l := f.2.1.2.2.1) hb hf a9 rfl ho a8 (by omega) a16 hky.1 ?_
  simp only [and_assoc, exists_and_left, exists_eq_left, exists_eq_left', Option.some.injEq, Value.int.injEq, Value.ref.injEq, Value.long.injEq, true_and, and_true, exists_eq, exists_true_left, mw_ob, mw_ia0, mw_ia2, mw_ia5, mw_ia6, mw_ia7, mw_ia8, mw_ia9, mw_ia10, mw_ia11, mw_ia15, mw_ia16, mF_0, mF_1, mF_2, mF_3, mF_4, mF_5, mF_6, mF_7, mF_8, mF_9, mF_10, mF_11, mF_12, mF_13, mF_14, mF_15, mF_16, mF_len, mF_s1, mF_s3, mF_s4, mF_s12, mF_s13, mF_s14, mw_uob, mw_u0, mw_u2, mw_u5, mw_u6, mw_u7, mw_u8, mw_u9, mw_u10, mw_u11, mw_u15, mw_u16, Nat.reduceLT, rup_s, rup_rup]
  cases hc : chA f.2.1.2.1 f.1.2.1 f.2.1.2.2.1 o f.2.1.2.2.1.length with
  | none =>
    rw [hc] at hK
    rw [hg]
    exact ⟨fun z => absurd rfl z, fun _ => b_M_byteNow_2 hK⟩
  | some k =>
    rw [hc] at hK
    obtain ⟨c1, c2, c3⟩ := chA_lt hc
    refine ⟨fun _ => b_M_byteNow_1 ?_, fun z => absurd z (nI_ne9 (by omega))⟩
    simp only [and_assoc, exists_and_left, exists_eq_left, exists_eq_left', Option.some.injEq, Value.int.injEq, Value.ref.injEq, Value.long.injEq, true_and, and_true, exists_eq, exists_true_left, mw_ob, mw_ia0, mw_ia2, mw_ia5, mw_ia6, mw_ia7, mw_ia8, mw_ia9, mw_ia10, mw_ia11, mw_ia15, mw_ia16, mF_0, mF_1, mF_2, mF_3, mF_4, mF_5, mF_6, mF_7, mF_8, mF_9, mF_10, mF_11, mF_12, mF_13, mF_14, mF_15, mF_16, mF_len, mF_s1, mF_s3, mF_s4, mF_s12, mF_s13, mF_s14, mw_uob, mw_u0, mw_u2, mw_u5, mw_u6, mw_u7, mw_u8, mw_u9, mw_u10, mw_u11, mw_u15, mw_u16, Nat.reduceLT, rup_s, rup_rup]
    refine f_byteOf (k := k) (o := o) (l := f.2.1.2.2.1) hb hf a9 c2 rfl rfl c3 ?_
    simp only [and_assoc, exists_and_left, exists_eq_left, exists_eq_left', Option.some.injEq, Value.int.injEq, Value.ref.injEq, Value.long.injEq, true_and, and_true, exists_eq, exists_true_left, mw_ob, mw_ia0, mw_ia2, mw_ia5, mw_ia6, mw_ia7, mw_ia8, mw_ia9, mw_ia10, mw_ia11, mw_ia15, mw_ia16, mF_0, mF_1, mF_2, mF_3, mF_4, mF_5, mF_6, mF_7, mF_8, mF_9, mF_10, mF_11, mF_12, mF_13, mF_14, mF_15, mF_16, mF_len, mF_s1, mF_s3, mF_s4, mF_s12, mF_s13, mF_s14, mw_uob, mw_u0, mw_u2, mw_u5, mw_u6, mw_u7, mw_u8, mw_u9, mw_u10, mw_u11, mw_u15, mw_u16, Nat.reduceLT, rup_s, rup_rup]
    rw [hg]
    exact b_M_byteNow_2 hK
theorem f_property {key x : Int32} (hI : MI c r P A s past bs) (hO : stOk A s) (hA : auOk A) (hK : ∀ c', (∀ i, i ≠ 12 → c' i = c i) → K (mw w q c' (rup r 0 P)) (some (.int (aAsk s (0) 17 key x (fun f k => aProp A f k))))) : zcall n_M_property [.ref q, .int key, .int x] (mw w q c (rup r 0 P)) K := by
  obtain ⟨⟨k1, k2, k5, ⟨sl, k6, k7⟩, k8⟩, h2, h3, h4, h5, h6⟩ := id hI
  have hl : sl.length = s.2.2.2.1.length := k7.1
  have hl4 := k6.2.1
  unfold aAsk at hK
  refine e_M_property (b_M_property_0 (s_M_in (fun a1 a2 => ?_) (fun a => ?_)))
  · rw [if_pos ⟨a1, a2⟩] at hK
    obtain ⟨k, hk, rfl⟩ := rng_nI (hi := 17) (by decide) ⟨a1, a2⟩
    simp only [and_assoc, exists_and_left, exists_eq_left, exists_eq_left', Option.some.injEq, Value.int.injEq, Value.ref.injEq, Value.long.injEq, true_and, and_true, exists_eq, exists_true_left, mw_ob, mw_ia0, mw_ia2, mw_ia5, mw_ia6, mw_ia7, mw_ia8, mw_ia9, mw_ia10, mw_ia11, mw_ia15, mw_ia16, mF_0, mF_1, mF_2, mF_3, mF_4, mF_5, mF_6, mF_7, mF_8, mF_9, mF_10, mF_11, mF_12, mF_13, mF_14, mF_15, mF_16, mF_len, mF_s1, mF_s3, mF_s4, mF_s12, mF_s13, mF_s14, mw_uob, mw_u0, mw_u2, mw_u5, mw_u6, mw_u7, mw_u8, mw_u9, mw_u10, mw_u11, mw_u15, mw_u16, Nat.reduceLT, rup_s, rup_rup]
    refine if0 (f_asked hI.1 ?_)
    simp only [and_assoc, exists_and_left, exists_eq_left, exists_eq_left', Option.some.injEq, Value.int.injEq, Value.ref.injEq, Value.long.injEq, true_and, and_true, exists_eq, exists_true_left, mw_ob, mw_ia0, mw_ia2, mw_ia5, mw_ia6, mw_ia7, mw_ia8, mw_ia9, mw_ia10, mw_ia11, mw_ia15, mw_ia16, mF_0, mF_1, mF_2, mF_3, mF_4, mF_5, mF_6, mF_7, mF_8, mF_9, mF_10, mF_11, mF_12, mF_13, mF_14, mF_15, mF_16, mF_len, mF_s1, mF_s3, mF_s4, mF_s12, mF_s13, mF_s14, mw_uob, mw_u0, mw_u2, mw_u5, mw_u6, mw_u7, mw_u8, mw_u9, mw_u10, mw_u11, mw_u15, mw_u16, Nat.reduceLT, rup_s, rup_rup]
    refine b_M_property_2 ⟨fun z => b_M_property_3 ?_, fun z => ?_⟩
    · rw [if_pos z] at hK
      obtain ⟨i, hi, hpl, ea⟩ | hno := aAsked_cs (l := s.2.2.2.1) (key := key) (by omega)
      case inr => exact absurd z hno
      rw [ea, nI_clamp (by omega), nI_clamp (by omega)] at hK
      rw [ea]
      have hs4 := slG_lt k6 (i := i) (by omega)
      obtain ⟨p1, p2⟩ := hO.2.1 _ (fGet_mem hi)
      simp only [and_assoc, exists_and_left, exists_eq_left, exists_eq_left', Option.some.injEq, Value.int.injEq, Value.ref.injEq, Value.long.injEq, true_and, and_true, exists_eq, exists_true_left, mw_ob, mw_ia0, mw_ia2, mw_ia5, mw_ia6, mw_ia7, mw_ia8, mw_ia9, mw_ia10, mw_ia11, mw_ia15, mw_ia16, mF_0, mF_1, mF_2, mF_3, mF_4, mF_5, mF_6, mF_7, mF_8, mF_9, mF_10, mF_11, mF_12, mF_13, mF_14, mF_15, mF_16, mF_len, mF_s1, mF_s3, mF_s4, mF_s12, mF_s13, mF_s14, mw_uob, mw_u0, mw_u2, mw_u5, mw_u6, mw_u7, mw_u8, mw_u9, mw_u10, mw_u11, mw_u15, mw_u16, Nat.reduceLT, rup_s, rup_rup]
      refine f_slot k6 (i := i) rfl (by omega) ?_
      simp only [and_assoc, exists_and_left, exists_eq_left, exists_eq_left', Option.some.injEq, Value.int.injEq, Value.ref.injEq, Value.long.injEq, true_and, and_true, exists_eq, exists_true_left, mw_ob, mw_ia0, mw_ia2, mw_ia5, mw_ia6, mw_ia7, mw_ia8, mw_ia9, mw_ia10, mw_ia11, mw_ia15, mw_ia16, mF_0, mF_1, mF_2, mF_3, mF_4, mF_5, mF_6, mF_7, mF_8, mF_9, mF_10, mF_11, mF_12, mF_13, mF_14, mF_15, mF_16, mF_len, mF_s1, mF_s3, mF_s4, mF_s12, mF_s13, mF_s14, mw_uob, mw_u0, mw_u2, mw_u5, mw_u6, mw_u7, mw_u8, mw_u9, mw_u10, mw_u11, mw_u15, mw_u16, Nat.reduceLT, rup_s, rup_rup]
      refine f_propertyNow (A := A) (k := k) (f := fGet s.2.2.2.1 i) hk rfl rfl (by omega) (k7.2 i hi) p2 p1 hA h5 ?_
      simp only [and_assoc, exists_and_left, exists_eq_left, exists_eq_left', Option.some.injEq, Value.int.injEq, Value.ref.injEq, Value.long.injEq, true_and, and_true, exists_eq, exists_true_left, mw_ob, mw_ia0, mw_ia2, mw_ia5, mw_ia6, mw_ia7, mw_ia8, mw_ia9, mw_ia10, mw_ia11, mw_ia15, mw_ia16, mF_0, mF_1, mF_2, mF_3, mF_4, mF_5, mF_6, mF_7, mF_8, mF_9, mF_10, mF_11, mF_12, mF_13, mF_14, mF_15, mF_16, mF_len, mF_s1, mF_s3, mF_s4, mF_s12, mF_s13, mF_s14, mw_uob, mw_u0, mw_u2, mw_u5, mw_u6, mw_u7, mw_u8, mw_u9, mw_u10, mw_u11, mw_u15, mw_u16, Nat.reduceLT, rup_s, rup_rup]
      exact hK _ (fun i hi => if_neg hi)
    · rw [if_neg z] at hK
      exact hK c (fun _ _ => rfl)
  · rw [if_neg (show ¬ ((0 : Int32) ≤ x ∧ x ≤ nI 17) from a)] at hK
    simp only [and_assoc, exists_and_left, exists_eq_left, exists_eq_left', Option.some.injEq, Value.int.injEq, Value.ref.injEq, Value.long.injEq, true_and, and_true, exists_eq, exists_true_left, mw_ob, mw_ia0, mw_ia2, mw_ia5, mw_ia6, mw_ia7, mw_ia8, mw_ia9, mw_ia10, mw_ia11, mw_ia15, mw_ia16, mF_0, mF_1, mF_2, mF_3, mF_4, mF_5, mF_6, mF_7, mF_8, mF_9, mF_10, mF_11, mF_12, mF_13, mF_14, mF_15, mF_16, mF_len, mF_s1, mF_s3, mF_s4, mF_s12, mF_s13, mF_s14, mw_uob, mw_u0, mw_u2, mw_u5, mw_u6, mw_u7, mw_u8, mw_u9, mw_u10, mw_u11, mw_u15, mw_u16, Nat.reduceLT, rup_s, rup_rup]
    exact if1 (b_M_property_1 (b_M_property_2 ⟨fun z => absurd z (by decide), fun _ => hK c (fun _ _ => rfl)⟩))
theorem f_byteAt {key x : Int32} (hI : MI c r P A s past bs) (hO : stOk A s) (hA : auOk A) (hK : ∀ c', (∀ i, i ≠ 12 → c' i = c i) → K (mw w q c' (rup r 0 P)) (some (.int (aAsk s (0) 1100 key x (fun f k => aByteNow f k))))) : zcall n_M_byteAt [.ref q, .int key, .int x] (mw w q c (rup r 0 P)) K := by
  obtain ⟨⟨k1, k2, k5, ⟨sl, k6, k7⟩, k8⟩, h2, h3, h4, h5, h6⟩ := id hI
  have hl : sl.length = s.2.2.2.1.length := k7.1
  have hl4 := k6.2.1
  unfold aAsk at hK
  refine e_M_byteAt (b_M_byteAt_0 (s_M_in (fun a1 a2 => ?_) (fun a => ?_)))
  · rw [if_pos ⟨a1, a2⟩] at hK
    obtain ⟨k, hk, rfl⟩ := rng_nI (hi := 1100) (by decide) ⟨a1, a2⟩
    simp only [and_assoc, exists_and_left, exists_eq_left, exists_eq_left', Option.some.injEq, Value.int.injEq, Value.ref.injEq, Value.long.injEq, true_and, and_true, exists_eq, exists_true_left, mw_ob, mw_ia0, mw_ia2, mw_ia5, mw_ia6, mw_ia7, mw_ia8, mw_ia9, mw_ia10, mw_ia11, mw_ia15, mw_ia16, mF_0, mF_1, mF_2, mF_3, mF_4, mF_5, mF_6, mF_7, mF_8, mF_9, mF_10, mF_11, mF_12, mF_13, mF_14, mF_15, mF_16, mF_len, mF_s1, mF_s3, mF_s4, mF_s12, mF_s13, mF_s14, mw_uob, mw_u0, mw_u2, mw_u5, mw_u6, mw_u7, mw_u8, mw_u9, mw_u10, mw_u11, mw_u15, mw_u16, Nat.reduceLT, rup_s, rup_rup]
    refine if0 (f_asked hI.1 ?_)
    simp only [and_assoc, exists_and_left, exists_eq_left, exists_eq_left', Option.some.injEq, Value.int.injEq, Value.ref.injEq, Value.long.injEq, true_and, and_true, exists_eq, exists_true_left, mw_ob, mw_ia0, mw_ia2, mw_ia5, mw_ia6, mw_ia7, mw_ia8, mw_ia9, mw_ia10, mw_ia11, mw_ia15, mw_ia16, mF_0, mF_1, mF_2, mF_3, mF_4, mF_5, mF_6, mF_7, mF_8, mF_9, mF_10, mF_11, mF_12, mF_13, mF_14, mF_15, mF_16, mF_len, mF_s1, mF_s3, mF_s4, mF_s12, mF_s13, mF_s14, mw_uob, mw_u0, mw_u2, mw_u5, mw_u6, mw_u7, mw_u8, mw_u9, mw_u10, mw_u11, mw_u15, mw_u16, Nat.reduceLT, rup_s, rup_rup]
    refine b_M_byteAt_2 ⟨fun z => b_M_byteAt_3 ?_, fun z => ?_⟩
    · rw [if_pos z] at hK
      obtain ⟨i, hi, hpl, ea⟩ | hno := aAsked_cs (l := s.2.2.2.1) (key := key) (by omega)
      case inr => exact absurd z hno
      rw [ea, nI_clamp (by omega), nI_clamp (by omega)] at hK
      rw [ea]
      have hs4 := slG_lt k6 (i := i) (by omega)
      obtain ⟨p1, p2⟩ := hO.2.1 _ (fGet_mem hi)
      simp only [and_assoc, exists_and_left, exists_eq_left, exists_eq_left', Option.some.injEq, Value.int.injEq, Value.ref.injEq, Value.long.injEq, true_and, and_true, exists_eq, exists_true_left, mw_ob, mw_ia0, mw_ia2, mw_ia5, mw_ia6, mw_ia7, mw_ia8, mw_ia9, mw_ia10, mw_ia11, mw_ia15, mw_ia16, mF_0, mF_1, mF_2, mF_3, mF_4, mF_5, mF_6, mF_7, mF_8, mF_9, mF_10, mF_11, mF_12, mF_13, mF_14, mF_15, mF_16, mF_len, mF_s1, mF_s3, mF_s4, mF_s12, mF_s13, mF_s14, mw_uob, mw_u0, mw_u2, mw_u5, mw_u6, mw_u7, mw_u8, mw_u9, mw_u10, mw_u11, mw_u15, mw_u16, Nat.reduceLT, rup_s, rup_rup]
      refine f_slot k6 (i := i) rfl (by omega) ?_
      simp only [and_assoc, exists_and_left, exists_eq_left, exists_eq_left', Option.some.injEq, Value.int.injEq, Value.ref.injEq, Value.long.injEq, true_and, and_true, exists_eq, exists_true_left, mw_ob, mw_ia0, mw_ia2, mw_ia5, mw_ia6, mw_ia7, mw_ia8, mw_ia9, mw_ia10, mw_ia11, mw_ia15, mw_ia16, mF_0, mF_1, mF_2, mF_3, mF_4, mF_5, mF_6, mF_7, mF_8, mF_9, mF_10, mF_11, mF_12, mF_13, mF_14, mF_15, mF_16, mF_len, mF_s1, mF_s3, mF_s4, mF_s12, mF_s13, mF_s14, mw_uob, mw_u0, mw_u2, mw_u5, mw_u6, mw_u7, mw_u8, mw_u9, mw_u10, mw_u11, mw_u15, mw_u16, Nat.reduceLT, rup_s, rup_rup]
      refine f_byteNow (A := A) (o := k) (f := fGet s.2.2.2.1 i) (by omega) rfl rfl (by omega) (k7.2 i hi) p2 p1 ?_
      simp only [and_assoc, exists_and_left, exists_eq_left, exists_eq_left', Option.some.injEq, Value.int.injEq, Value.ref.injEq, Value.long.injEq, true_and, and_true, exists_eq, exists_true_left, mw_ob, mw_ia0, mw_ia2, mw_ia5, mw_ia6, mw_ia7, mw_ia8, mw_ia9, mw_ia10, mw_ia11, mw_ia15, mw_ia16, mF_0, mF_1, mF_2, mF_3, mF_4, mF_5, mF_6, mF_7, mF_8, mF_9, mF_10, mF_11, mF_12, mF_13, mF_14, mF_15, mF_16, mF_len, mF_s1, mF_s3, mF_s4, mF_s12, mF_s13, mF_s14, mw_uob, mw_u0, mw_u2, mw_u5, mw_u6, mw_u7, mw_u8, mw_u9, mw_u10, mw_u11, mw_u15, mw_u16, Nat.reduceLT, rup_s, rup_rup]
      exact hK _ (fun i hi => if_neg hi)
    · rw [if_neg z] at hK
      exact hK c (fun _ _ => rfl)
  · rw [if_neg (show ¬ ((0 : Int32) ≤ x ∧ x ≤ nI 1100) from a)] at hK
    simp only [and_assoc, exists_and_left, exists_eq_left, exists_eq_left', Option.some.injEq, Value.int.injEq, Value.ref.injEq, Value.long.injEq, true_and, and_true, exists_eq, exists_true_left, mw_ob, mw_ia0, mw_ia2, mw_ia5, mw_ia6, mw_ia7, mw_ia8, mw_ia9, mw_ia10, mw_ia11, mw_ia15, mw_ia16, mF_0, mF_1, mF_2, mF_3, mF_4, mF_5, mF_6, mF_7, mF_8, mF_9, mF_10, mF_11, mF_12, mF_13, mF_14, mF_15, mF_16, mF_len, mF_s1, mF_s3, mF_s4, mF_s12, mF_s13, mF_s14, mw_uob, mw_u0, mw_u2, mw_u5, mw_u6, mw_u7, mw_u8, mw_u9, mw_u10, mw_u11, mw_u15, mw_u16, Nat.reduceLT, rup_s, rup_rup]
    exact if1 (b_M_byteAt_1 (b_M_byteAt_2 ⟨fun z => absurd z (by decide), fun _ => hK c (fun _ _ => rfl)⟩))
theorem f_read {key x : Int32} (hI : MI c r P A s past bs) (hO : stOk A s) (hA : auOk A) (hr : rdOk s) (hK : ∀ c', (∀ i, i ≠ 12 → c' i = c i) → K (mw w q c' (rup r 0 P)) (some (.int (aAsk s (0) 7 key x (fun f k => aReadNow f k))))) : zcall n_M_read [.ref q, .int key, .int x] (mw w q c (rup r 0 P)) K := by
  obtain ⟨⟨k1, k2, k5, ⟨sl, k6, k7⟩, k8⟩, h2, h3, h4, h5, h6⟩ := id hI
  have hl : sl.length = s.2.2.2.1.length := k7.1
  have hl4 := k6.2.1
  unfold aAsk at hK
  refine e_M_read (b_M_read_0 (s_M_in (fun a1 a2 => ?_) (fun a => ?_)))
  · rw [if_pos ⟨a1, a2⟩] at hK
    obtain ⟨k, hk, rfl⟩ := rng_nI (hi := 7) (by decide) ⟨a1, a2⟩
    simp only [and_assoc, exists_and_left, exists_eq_left, exists_eq_left', Option.some.injEq, Value.int.injEq, Value.ref.injEq, Value.long.injEq, true_and, and_true, exists_eq, exists_true_left, mw_ob, mw_ia0, mw_ia2, mw_ia5, mw_ia6, mw_ia7, mw_ia8, mw_ia9, mw_ia10, mw_ia11, mw_ia15, mw_ia16, mF_0, mF_1, mF_2, mF_3, mF_4, mF_5, mF_6, mF_7, mF_8, mF_9, mF_10, mF_11, mF_12, mF_13, mF_14, mF_15, mF_16, mF_len, mF_s1, mF_s3, mF_s4, mF_s12, mF_s13, mF_s14, mw_uob, mw_u0, mw_u2, mw_u5, mw_u6, mw_u7, mw_u8, mw_u9, mw_u10, mw_u11, mw_u15, mw_u16, Nat.reduceLT, rup_s, rup_rup]
    refine if0 (f_asked hI.1 ?_)
    simp only [and_assoc, exists_and_left, exists_eq_left, exists_eq_left', Option.some.injEq, Value.int.injEq, Value.ref.injEq, Value.long.injEq, true_and, and_true, exists_eq, exists_true_left, mw_ob, mw_ia0, mw_ia2, mw_ia5, mw_ia6, mw_ia7, mw_ia8, mw_ia9, mw_ia10, mw_ia11, mw_ia15, mw_ia16, mF_0, mF_1, mF_2, mF_3, mF_4, mF_5, mF_6, mF_7, mF_8, mF_9, mF_10, mF_11, mF_12, mF_13, mF_14, mF_15, mF_16, mF_len, mF_s1, mF_s3, mF_s4, mF_s12, mF_s13, mF_s14, mw_uob, mw_u0, mw_u2, mw_u5, mw_u6, mw_u7, mw_u8, mw_u9, mw_u10, mw_u11, mw_u15, mw_u16, Nat.reduceLT, rup_s, rup_rup]
    refine b_M_read_2 ⟨fun z => b_M_read_3 ?_, fun z => ?_⟩
    · rw [if_pos z] at hK
      obtain ⟨i, hi, hpl, ea⟩ | hno := aAsked_cs (l := s.2.2.2.1) (key := key) (by omega)
      case inr => exact absurd z hno
      rw [ea, nI_clamp (by omega), nI_clamp (by omega)] at hK
      rw [ea]
      have hs4 := slG_lt k6 (i := i) (by omega)
      obtain ⟨p1, p2⟩ := hO.2.1 _ (fGet_mem hi)
      simp only [and_assoc, exists_and_left, exists_eq_left, exists_eq_left', Option.some.injEq, Value.int.injEq, Value.ref.injEq, Value.long.injEq, true_and, and_true, exists_eq, exists_true_left, mw_ob, mw_ia0, mw_ia2, mw_ia5, mw_ia6, mw_ia7, mw_ia8, mw_ia9, mw_ia10, mw_ia11, mw_ia15, mw_ia16, mF_0, mF_1, mF_2, mF_3, mF_4, mF_5, mF_6, mF_7, mF_8, mF_9, mF_10, mF_11, mF_12, mF_13, mF_14, mF_15, mF_16, mF_len, mF_s1, mF_s3, mF_s4, mF_s12, mF_s13, mF_s14, mw_uob, mw_u0, mw_u2, mw_u5, mw_u6, mw_u7, mw_u8, mw_u9, mw_u10, mw_u11, mw_u15, mw_u16, Nat.reduceLT, rup_s, rup_rup]
      refine f_slot k6 (i := i) rfl (by omega) ?_
      simp only [and_assoc, exists_and_left, exists_eq_left, exists_eq_left', Option.some.injEq, Value.int.injEq, Value.ref.injEq, Value.long.injEq, true_and, and_true, exists_eq, exists_true_left, mw_ob, mw_ia0, mw_ia2, mw_ia5, mw_ia6, mw_ia7, mw_ia8, mw_ia9, mw_ia10, mw_ia11, mw_ia15, mw_ia16, mF_0, mF_1, mF_2, mF_3, mF_4, mF_5, mF_6, mF_7, mF_8, mF_9, mF_10, mF_11, mF_12, mF_13, mF_14, mF_15, mF_16, mF_len, mF_s1, mF_s3, mF_s4, mF_s12, mF_s13, mF_s14, mw_uob, mw_u0, mw_u2, mw_u5, mw_u6, mw_u7, mw_u8, mw_u9, mw_u10, mw_u11, mw_u15, mw_u16, Nat.reduceLT, rup_s, rup_rup]
      refine f_readNow (k := k) (f := fGet s.2.2.2.1 i) hk rfl rfl (by omega) (k7.2 i hi) (hr _ (fGet_mem hi)) ?_
      simp only [and_assoc, exists_and_left, exists_eq_left, exists_eq_left', Option.some.injEq, Value.int.injEq, Value.ref.injEq, Value.long.injEq, true_and, and_true, exists_eq, exists_true_left, mw_ob, mw_ia0, mw_ia2, mw_ia5, mw_ia6, mw_ia7, mw_ia8, mw_ia9, mw_ia10, mw_ia11, mw_ia15, mw_ia16, mF_0, mF_1, mF_2, mF_3, mF_4, mF_5, mF_6, mF_7, mF_8, mF_9, mF_10, mF_11, mF_12, mF_13, mF_14, mF_15, mF_16, mF_len, mF_s1, mF_s3, mF_s4, mF_s12, mF_s13, mF_s14, mw_uob, mw_u0, mw_u2, mw_u5, mw_u6, mw_u7, mw_u8, mw_u9, mw_u10, mw_u11, mw_u15, mw_u16, Nat.reduceLT, rup_s, rup_rup]
      exact hK _ (fun i hi => if_neg hi)
    · rw [if_neg z] at hK
      exact hK c (fun _ _ => rfl)
  · rw [if_neg (show ¬ ((0 : Int32) ≤ x ∧ x ≤ nI 7) from a)] at hK
    simp only [and_assoc, exists_and_left, exists_eq_left, exists_eq_left', Option.some.injEq, Value.int.injEq, Value.ref.injEq, Value.long.injEq, true_and, and_true, exists_eq, exists_true_left, mw_ob, mw_ia0, mw_ia2, mw_ia5, mw_ia6, mw_ia7, mw_ia8, mw_ia9, mw_ia10, mw_ia11, mw_ia15, mw_ia16, mF_0, mF_1, mF_2, mF_3, mF_4, mF_5, mF_6, mF_7, mF_8, mF_9, mF_10, mF_11, mF_12, mF_13, mF_14, mF_15, mF_16, mF_len, mF_s1, mF_s3, mF_s4, mF_s12, mF_s13, mF_s14, mw_uob, mw_u0, mw_u2, mw_u5, mw_u6, mw_u7, mw_u8, mw_u9, mw_u10, mw_u11, mw_u15, mw_u16, Nat.reduceLT, rup_s, rup_rup]
    exact if1 (b_M_read_1 (b_M_read_2 ⟨fun z => absurd z (by decide), fun _ => hK c (fun _ _ => rfl)⟩))
theorem f_possible {key : Int32} (hI : MI c r P A s past bs) (hK : ∀ c', (∀ i, i ≠ 12 → c' i = c i) → K (mw w q c' (rup r 0 P)) (some (.long (aPossible s key)))) : zcall n_M_possible [.ref q, .int key] (mw w q c (rup r 0 P)) K := by
  obtain ⟨⟨k1, k2, k5, ⟨sl, k6, k7⟩, k8⟩, h2, h3, h4, h5, h6⟩ := id hI
  have hl : sl.length = s.2.2.2.1.length := k7.1
  have hl4 := k6.2.1
  unfold aPossible at hK
  refine e_M_possible (b_M_possible_0 ?_)
  simp only [and_assoc, exists_and_left, exists_eq_left, exists_eq_left', Option.some.injEq, Value.int.injEq, Value.ref.injEq, Value.long.injEq, true_and, and_true, exists_eq, exists_true_left, mw_ob, mw_ia0, mw_ia2, mw_ia5, mw_ia6, mw_ia7, mw_ia8, mw_ia9, mw_ia10, mw_ia11, mw_ia15, mw_ia16, mF_0, mF_1, mF_2, mF_3, mF_4, mF_5, mF_6, mF_7, mF_8, mF_9, mF_10, mF_11, mF_12, mF_13, mF_14, mF_15, mF_16, mF_len, mF_s1, mF_s3, mF_s4, mF_s12, mF_s13, mF_s14, mw_uob, mw_u0, mw_u2, mw_u5, mw_u6, mw_u7, mw_u8, mw_u9, mw_u10, mw_u11, mw_u15, mw_u16, Nat.reduceLT, rup_s, rup_rup]
  refine f_asked hI.1 ?_
  simp only [and_assoc, exists_and_left, exists_eq_left, exists_eq_left', Option.some.injEq, Value.int.injEq, Value.ref.injEq, Value.long.injEq, true_and, and_true, exists_eq, exists_true_left, mw_ob, mw_ia0, mw_ia2, mw_ia5, mw_ia6, mw_ia7, mw_ia8, mw_ia9, mw_ia10, mw_ia11, mw_ia15, mw_ia16, mF_0, mF_1, mF_2, mF_3, mF_4, mF_5, mF_6, mF_7, mF_8, mF_9, mF_10, mF_11, mF_12, mF_13, mF_14, mF_15, mF_16, mF_len, mF_s1, mF_s3, mF_s4, mF_s12, mF_s13, mF_s14, mw_uob, mw_u0, mw_u2, mw_u5, mw_u6, mw_u7, mw_u8, mw_u9, mw_u10, mw_u11, mw_u15, mw_u16, Nat.reduceLT, rup_s, rup_rup]
  refine ⟨fun z => b_M_possible_1 ?_, fun z => ?_⟩
  · rw [if_pos z] at hK
    obtain ⟨i, hi, hpl, ea⟩ | hno := aAsked_cs (l := s.2.2.2.1) (key := key) (by omega)
    case inr => exact absurd z hno
    rw [ea, nI_clamp (by omega)] at hK
    rw [ea]
    have hs4 := slG_lt k6 (i := i) (by omega)
    simp only [and_assoc, exists_and_left, exists_eq_left, exists_eq_left', Option.some.injEq, Value.int.injEq, Value.ref.injEq, Value.long.injEq, true_and, and_true, exists_eq, exists_true_left, mw_ob, mw_ia0, mw_ia2, mw_ia5, mw_ia6, mw_ia7, mw_ia8, mw_ia9, mw_ia10, mw_ia11, mw_ia15, mw_ia16, mF_0, mF_1, mF_2, mF_3, mF_4, mF_5, mF_6, mF_7, mF_8, mF_9, mF_10, mF_11, mF_12, mF_13, mF_14, mF_15, mF_16, mF_len, mF_s1, mF_s3, mF_s4, mF_s12, mF_s13, mF_s14, mw_uob, mw_u0, mw_u2, mw_u5, mw_u6, mw_u7, mw_u8, mw_u9, mw_u10, mw_u11, mw_u15, mw_u16, Nat.reduceLT, rup_s, rup_rup]
    refine f_slot k6 (i := i) rfl (by omega) ?_
    simp only [and_assoc, exists_and_left, exists_eq_left, exists_eq_left', Option.some.injEq, Value.int.injEq, Value.ref.injEq, Value.long.injEq, true_and, and_true, exists_eq, exists_true_left, mw_ob, mw_ia0, mw_ia2, mw_ia5, mw_ia6, mw_ia7, mw_ia8, mw_ia9, mw_ia10, mw_ia11, mw_ia15, mw_ia16, mF_0, mF_1, mF_2, mF_3, mF_4, mF_5, mF_6, mF_7, mF_8, mF_9, mF_10, mF_11, mF_12, mF_13, mF_14, mF_15, mF_16, mF_len, mF_s1, mF_s3, mF_s4, mF_s12, mF_s13, mF_s14, mw_uob, mw_u0, mw_u2, mw_u5, mw_u6, mw_u7, mw_u8, mw_u9, mw_u10, mw_u11, mw_u15, mw_u16, Nat.reduceLT, rup_s, rup_rup]
    refine f_possibleNow (f := fGet s.2.2.2.1 i) rfl (by omega) (k7.2 i hi) ?_
    simp only [and_assoc, exists_and_left, exists_eq_left, exists_eq_left', Option.some.injEq, Value.int.injEq, Value.ref.injEq, Value.long.injEq, true_and, and_true, exists_eq, exists_true_left, mw_ob, mw_ia0, mw_ia2, mw_ia5, mw_ia6, mw_ia7, mw_ia8, mw_ia9, mw_ia10, mw_ia11, mw_ia15, mw_ia16, mF_0, mF_1, mF_2, mF_3, mF_4, mF_5, mF_6, mF_7, mF_8, mF_9, mF_10, mF_11, mF_12, mF_13, mF_14, mF_15, mF_16, mF_len, mF_s1, mF_s3, mF_s4, mF_s12, mF_s13, mF_s14, mw_uob, mw_u0, mw_u2, mw_u5, mw_u6, mw_u7, mw_u8, mw_u9, mw_u10, mw_u11, mw_u15, mw_u16, Nat.reduceLT, rup_s, rup_rup]
    exact hK _ (fun i hi => if_neg hi)
  · rw [if_neg z] at hK
    exact hK c (fun _ _ => rfl)
theorem f_type {x : Int32} (hI : MI c r P A s past bs) (hK0 : ¬ ((32 : Int32) ≤ x ∧ x ≤ 126) → K (mw w q c (rup r 0 P)) (some (.int (-1)))) (hK1 : (32 : Int32) ≤ x ∧ x ≤ 126 → bs.length = 40 → K (mw w q c (rup r 0 P)) (some (.int (-3)))) (hK2 : (32 : Int32) ≤ x ∧ x ≤ 126 → bs.length < 40 → ∀ c' r', MI c' r' P A s past (bs ++ [x]) → (∀ i, i ≠ 2 → r' i = r i) → K (mw w q c' (rup r' 0 P)) (some (.int (nI (bs.length + 1))))) : zcall n_M_type [.ref q, .int x] (mw w q c (rup r 0 P)) K := by
  obtain ⟨h1, h2, h3, h4, h5, f0, h6⟩ := id hI
  have h40 := h4.2.1
  refine e_M_type (b_M_type_0 (s_M_in (fun a1 a2 => ?_) (fun a => ?_)))
  · simp only [and_assoc, exists_and_left, exists_eq_left, exists_eq_left', Option.some.injEq, Value.int.injEq, Value.ref.injEq, Value.long.injEq, true_and, and_true, exists_eq, exists_true_left, mw_ob, mw_ia0, mw_ia2, mw_ia5, mw_ia6, mw_ia7, mw_ia8, mw_ia9, mw_ia10, mw_ia11, mw_ia15, mw_ia16, mF_0, mF_1, mF_2, mF_3, mF_4, mF_5, mF_6, mF_7, mF_8, mF_9, mF_10, mF_11, mF_12, mF_13, mF_14, mF_15, mF_16, mF_len, mF_s1, mF_s3, mF_s4, mF_s12, mF_s13, mF_s14, mw_uob, mw_u0, mw_u2, mw_u5, mw_u6, mw_u7, mw_u8, mw_u9, mw_u10, mw_u11, mw_u15, mw_u16, Nat.reduceLT, rup_s, rup_rup]
    refine if3 (b_M_type_1 ?_)
    simp only [and_assoc, exists_and_left, exists_eq_left, exists_eq_left', Option.some.injEq, Value.int.injEq, Value.ref.injEq, Value.long.injEq, true_and, and_true, exists_eq, exists_true_left, mw_ob, mw_ia0, mw_ia2, mw_ia5, mw_ia6, mw_ia7, mw_ia8, mw_ia9, mw_ia10, mw_ia11, mw_ia15, mw_ia16, mF_0, mF_1, mF_2, mF_3, mF_4, mF_5, mF_6, mF_7, mF_8, mF_9, mF_10, mF_11, mF_12, mF_13, mF_14, mF_15, mF_16, mF_len, mF_s1, mF_s3, mF_s4, mF_s12, mF_s13, mF_s14, mw_uob, mw_u0, mw_u2, mw_u5, mw_u6, mw_u7, mw_u8, mw_u9, mw_u10, mw_u11, mw_u15, mw_u16, Nat.reduceLT, rup_s, rup_rup]
    rw [h4.1]
    refine ⟨fun z => b_M_type_2 ?_, fun z => hK1 ⟨a1, a2⟩ ((nI_eq (by omega) (b := 40) (by decide)).mp z)⟩
    have z : ¬ bs.length = 40 := fun y => z (by rw [y]; rfl)
    simp only [and_assoc, exists_and_left, exists_eq_left, exists_eq_left', Option.some.injEq, Value.int.injEq, Value.ref.injEq, Value.long.injEq, true_and, and_true, exists_eq, exists_true_left, mw_ob, mw_ia0, mw_ia2, mw_ia5, mw_ia6, mw_ia7, mw_ia8, mw_ia9, mw_ia10, mw_ia11, mw_ia15, mw_ia16, mF_0, mF_1, mF_2, mF_3, mF_4, mF_5, mF_6, mF_7, mF_8, mF_9, mF_10, mF_11, mF_12, mF_13, mF_14, mF_15, mF_16, mF_len, mF_s1, mF_s3, mF_s4, mF_s12, mF_s13, mF_s14, mw_uob, mw_u0, mw_u2, mw_u5, mw_u6, mw_u7, mw_u8, mw_u9, mw_u10, mw_u11, mw_u15, mw_u16, Nat.reduceLT, rup_s, rup_rup]
    rw [h4.1, nI_1, nI_clamp (by omega), rup_n (j := 2) (by decide)]
    refine ⟨vp_in_nI (by omega) (by decide), ?_⟩
    have er : rup (rup r 0 P) 2 (upd (r 2) bs.length x) = rup (rup r 2 (upd (r 2) bs.length x)) 0 P := by
      funext j
      unfold rup
      by_cases j0 : j = 0
      · subst j0; rfl
      · rw [if_neg j0, if_neg j0]
    rw [er]
    have hl : (bs ++ [x]).length = bs.length + 1 := by rw [List.length_append]; rfl
    refine hK2 ⟨a1, a2⟩ (by omega) _ _ ⟨h1, h2, h3, ⟨by rw [hl]; rfl, by omega, fun i hi => ?_⟩, ⟨h5.1, h5.2⟩, f0, h6⟩ (fun i hi => if_neg hi)
    show (if i = bs.length then x else r 2 i) = _
    rw [List.getD_eq_getElem?_getD]
    by_cases hib : i = bs.length
    · rw [if_pos hib, hib, List.getElem?_append_right (Nat.le_refl _), Nat.sub_self]; rfl
    · rw [if_neg hib, List.getElem?_append_left (by omega), ← List.getD_eq_getElem?_getD]
      exact h4.2.2 i (by omega)
  · simp only [and_assoc, exists_and_left, exists_eq_left, exists_eq_left', Option.some.injEq, Value.int.injEq, Value.ref.injEq, Value.long.injEq, true_and, and_true, exists_eq, exists_true_left, mw_ob, mw_ia0, mw_ia2, mw_ia5, mw_ia6, mw_ia7, mw_ia8, mw_ia9, mw_ia10, mw_ia11, mw_ia15, mw_ia16, mF_0, mF_1, mF_2, mF_3, mF_4, mF_5, mF_6, mF_7, mF_8, mF_9, mF_10, mF_11, mF_12, mF_13, mF_14, mF_15, mF_16, mF_len, mF_s1, mF_s3, mF_s4, mF_s12, mF_s13, mF_s14, mw_uob, mw_u0, mw_u2, mw_u5, mw_u6, mw_u7, mw_u8, mw_u9, mw_u10, mw_u11, mw_u15, mw_u16, Nat.reduceLT, rup_s, rup_rup]
    exact if2 (hK0 a)
theorem f_clear (hI : MI c r P A s past bs) (hK : ∀ c', MI c' r P A s past [] → K (mw w q c' (rup r 0 P)) (some (.int (nI bs.length)))) : zcall n_M_clear [.ref q] (mw w q c (rup r 0 P)) K := by
  obtain ⟨h1, h2, h3, h4, h5, f0, h6⟩ := hI
  refine e_M_clear (b_M_clear_0 ?_)
  simp only [and_assoc, exists_and_left, exists_eq_left, exists_eq_left', Option.some.injEq, Value.int.injEq, Value.ref.injEq, Value.long.injEq, true_and, and_true, exists_eq, exists_true_left, mw_ob, mw_ia0, mw_ia2, mw_ia5, mw_ia6, mw_ia7, mw_ia8, mw_ia9, mw_ia10, mw_ia11, mw_ia15, mw_ia16, mF_0, mF_1, mF_2, mF_3, mF_4, mF_5, mF_6, mF_7, mF_8, mF_9, mF_10, mF_11, mF_12, mF_13, mF_14, mF_15, mF_16, mF_len, mF_s1, mF_s3, mF_s4, mF_s12, mF_s13, mF_s14, mw_uob, mw_u0, mw_u2, mw_u5, mw_u6, mw_u7, mw_u8, mw_u9, mw_u10, mw_u11, mw_u15, mw_u16, Nat.reduceLT, rup_s, rup_rup]
  rw [h4.1]
  exact hK _ ⟨h1, h2, h3, ⟨rfl, Nat.zero_le _, fun i hi => absurd hi (Nat.not_lt_zero _)⟩, ⟨h5.1, h5.2⟩, f0, h6⟩
end MAsk2
