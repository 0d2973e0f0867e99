/-! THE MODEL: covered(..) -/
def aCount (l : List aP) (a : Nat) : Nat := aCnt l a (aMost a l l.length - a)
def isLeast (l : List aP) (a s : Nat) : Prop := a ≤ s ∧ aAny l s = true ∧ ∀ t, a ≤ t → t < s → aAny l t = false
theorem chA_none {a pol : Nat} {l : List aP} {o : Nat} (h : a ≤ o) : chA a pol l o l.length = none ↔ aAny l o = false := by
  unfold chA
  rw [if_pos h]
  exact aChosen_none
theorem oM_none {x : Option Nat} (h : ∀ k, x = some k → k < 2 ^ 31) : oM x = -9 ↔ x = none := by
  cases x with
  | none => exact ⟨fun _ => rfl, fun _ => rfl⟩
  | some k => exact ⟨fun e => absurd e (nI_ne9 (h k rfl)), fun e => by cases e⟩
theorem chA_lt {a pol : Nat} {l : List aP} {o k j : Nat} (h : chA a pol l o k = some j) : a ≤ o ∧ j < k ∧ aCov (aPc l j) o = true := by
  unfold chA at h
  split at h
  · rename_i h1
    exact ⟨h1, aCh_lt h⟩
  · cases h
section MCov2
variable {w : jx_W} {q : Nat} {c : Nat → Int32} {r : Nat → Nat → Int32} {K : jx_Q} {P g : Nat → Int32} {b : Nat} {l : List aP}
theorem ends_le (hp : ∀ p ∈ l, aOk p) {i : Nat} (hi : i < l.length) : (aPc l i).1 + (aPc l i).2.length ≤ 1039 := by
  obtain ⟨h1, h2, h3, -⟩ := hp _ (aPc_mem hi)
  omega
theorem f_most {a : Nat} {x1 x2 : Int32} (hb : c 12 = nI b) (hf : b + 710 ≤ 22416) (hp : MP g l) (ha2 : a < 2 ^ 30) (hK : zwp n_M_covered 4 [(0, .ref q), (1, .int x1), (2, .int x2), (3, .int (nI (aMost a l l.length)))] [] 0 0 (mw w q c (rup r 0 (pgf P b 710 g))) K) : ∀ (n k : Nat), k + n = l.length → zwp n_M_covered 1 [(0, .ref q), (1, .int x1), (2, .int x2), (3, .int (nI (aMost a l k))), (4, .int (nI k))] [] 0 0 (mw w q c (rup r 0 (pgf P b 710 g))) K := by
  intro n
  have hl6 := hp.2.1
  have hB : ∀ k, k ≤ l.length → aMost a l k < 2 ^ 30 + 2000 := fun k hk => Nat.lt_of_le_of_lt (aMost_le (B := 2 ^ 30 + 1039) (by omega) (fun i hi => Nat.le_trans (ends_le hp.2.2.1 hi) (by omega)) hk) (by omega)
  induction n with
  | zero =>
    intro k hk
    refine b_M_covered_1 ?_
    simp only [and_assoc, exists_and_left, exists_eq_left, exists_eq_left', Option.some.injEq, Value.int.injEq, Value.ref.injEq, Value.long.injEq, true_and, and_true, exists_eq, exists_true_left, mw_ob, mw_ia0, mw_ia2, mw_ia5, mw_ia6, mw_ia7, mw_ia8, mw_ia9, mw_ia10, mw_ia11, mw_ia15, mw_ia16, mF_0, mF_1, mF_2, mF_3, mF_4, mF_5, mF_6, mF_7, mF_8, mF_9, mF_10, mF_11, mF_12, mF_13, mF_14, mF_15, mF_16, mF_len, mF_s1, mF_s3, mF_s4, mF_s12, mF_s13, mF_s14, mw_uob, mw_u0, mw_u2, mw_u5, mw_u6, mw_u7, mw_u8, mw_u9, mw_u10, mw_u11, mw_u15, mw_u16, Nat.reduceLT, rup_s, rup_rup]
    refine f_of hb (i := 5) rfl (by decide) hf ?_
    simp only [and_assoc, exists_and_left, exists_eq_left, exists_eq_left', Option.some.injEq, Value.int.injEq, Value.ref.injEq, Value.long.injEq, true_and, and_true, exists_eq, exists_true_left, mw_ob, mw_ia0, mw_ia2, mw_ia5, mw_ia6, mw_ia7, mw_ia8, mw_ia9, mw_ia10, mw_ia11, mw_ia15, mw_ia16, mF_0, mF_1, mF_2, mF_3, mF_4, mF_5, mF_6, mF_7, mF_8, mF_9, mF_10, mF_11, mF_12, mF_13, mF_14, mF_15, mF_16, mF_len, mF_s1, mF_s3, mF_s4, mF_s12, mF_s13, mF_s14, mw_uob, mw_u0, mw_u2, mw_u5, mw_u6, mw_u7, mw_u8, mw_u9, mw_u10, mw_u11, mw_u15, mw_u16, Nat.reduceLT, rup_s, rup_rup]
    rw [hp.1]
    refine ⟨fun _ => by rw [show k = l.length by omega]; exact hK, fun z => absurd ((nI_leI (by omega) (by omega)).mpr (by omega)) z⟩
  | succ n ih =>
    intro k hk
    have hkl : k < l.length := by omega
    obtain ⟨g1, g2, -⟩ := hp.2.2.2 k hkl
    have hen := ends_le hp.2.2.1 hkl
    have hBk := hB k (by omega)
    have e1 : pgf P b 710 g (b + 38 + 42 * k) = nI (aPc l k).1 := (pgf_at (by omega) (by omega)).trans g1
    have e2 : pgf P b 710 g (b + 38 + 42 * k + 1) = nI (aPc l k).2.length := (pgf_at (k := 38 + 42 * k + 1) (by omega) (by omega)).trans g2
    have next : ∀ m, m = aMost a l (k + 1) → zwp n_M_covered 3 [(0, .ref q), (1, .int x1), (2, .int x2), (4, .int (nI k))] [.int (nI m)] 0 0 (mw w q c (rup r 0 (pgf P b 710 g))) K := fun m hm => by
      refine b_M_covered_3 ?_
      rw [hm, nI_1]
      exact ih (k + 1) (by omega)
    refine b_M_covered_1 ?_
    simp only [and_assoc, exists_and_left, exists_eq_left, exists_eq_left', Option.some.injEq, Value.int.injEq, Value.ref.injEq, Value.long.injEq, true_and, and_true, exists_eq, exists_true_left, mw_ob, mw_ia0, mw_ia2, mw_ia5, mw_ia6, mw_ia7, mw_ia8, mw_ia9, mw_ia10, mw_ia11, mw_ia15, mw_ia16, mF_0, mF_1, mF_2, mF_3, mF_4, mF_5, mF_6, mF_7, mF_8, mF_9, mF_10, mF_11, mF_12, mF_13, mF_14, mF_15, mF_16, mF_len, mF_s1, mF_s3, mF_s4, mF_s12, mF_s13, mF_s14, mw_uob, mw_u0, mw_u2, mw_u5, mw_u6, mw_u7, mw_u8, mw_u9, mw_u10, mw_u11, mw_u15, mw_u16, Nat.reduceLT, rup_s, rup_rup]
    refine f_of hb (i := 5) rfl (by decide) hf ?_
    simp only [and_assoc, exists_and_left, exists_eq_left, exists_eq_left', Option.some.injEq, Value.int.injEq, Value.ref.injEq, Value.long.injEq, true_and, and_true, exists_eq, exists_true_left, mw_ob, mw_ia0, mw_ia2, mw_ia5, mw_ia6, mw_ia7, mw_ia8, mw_ia9, mw_ia10, mw_ia11, mw_ia15, mw_ia16, mF_0, mF_1, mF_2, mF_3, mF_4, mF_5, mF_6, mF_7, mF_8, mF_9, mF_10, mF_11, mF_12, mF_13, mF_14, mF_15, mF_16, mF_len, mF_s1, mF_s3, mF_s4, mF_s12, mF_s13, mF_s14, mw_uob, mw_u0, mw_u2, mw_u5, mw_u6, mw_u7, mw_u8, mw_u9, mw_u10, mw_u11, mw_u15, mw_u16, Nat.reduceLT, rup_s, rup_rup]
    rw [hp.1]
    refine ⟨fun z => absurd ((nI_leI (by omega) (by omega)).mp z) (by omega), fun _ => ?_⟩
    refine s_M_pieceAt hb rfl ?_
    simp only [and_assoc, exists_and_left, exists_eq_left, exists_eq_left', Option.some.injEq, Value.int.injEq, Value.ref.injEq, Value.long.injEq, true_and, and_true, exists_eq, exists_true_left, mw_ob, mw_ia0, mw_ia2, mw_ia5, mw_ia6, mw_ia7, mw_ia8, mw_ia9, mw_ia10, mw_ia11, mw_ia15, mw_ia16, mF_0, mF_1, mF_2, mF_3, mF_4, mF_5, mF_6, mF_7, mF_8, mF_9, mF_10, mF_11, mF_12, mF_13, mF_14, mF_15, mF_16, mF_len, mF_s1, mF_s3, mF_s4, mF_s12, mF_s13, mF_s14, mw_uob, mw_u0, mw_u2, mw_u5, mw_u6, mw_u7, mw_u8, mw_u9, mw_u10, mw_u11, mw_u15, mw_u16, Nat.reduceLT, rup_s, rup_rup]
    refine ⟨vp_in_nI (by omega) (by decide), ?_⟩
    refine s_M_pieceAt hb rfl ?_
    simp only [and_assoc, exists_and_left, exists_eq_left, exists_eq_left', Option.some.injEq, Value.int.injEq, Value.ref.injEq, Value.long.injEq, true_and, and_true, exists_eq, exists_true_left, mw_ob, mw_ia0, mw_ia2, mw_ia5, mw_ia6, mw_ia7, mw_ia8, mw_ia9, mw_ia10, mw_ia11, mw_ia15, mw_ia16, mF_0, mF_1, mF_2, mF_3, mF_4, mF_5, mF_6, mF_7, mF_8, mF_9, mF_10, mF_11, mF_12, mF_13, mF_14, mF_15, mF_16, mF_len, mF_s1, mF_s3, mF_s4, mF_s12, mF_s13, mF_s14, mw_uob, mw_u0, mw_u2, mw_u5, mw_u6, mw_u7, mw_u8, mw_u9, mw_u10, mw_u11, mw_u15, mw_u16, Nat.reduceLT, rup_s, rup_rup]
    rw [nI_1, nI_clamp (by omega), nI_clamp (by omega), e1, e2, nI_add]
    refine ⟨vp_in_nI (by omega) (by decide), fun z => b_M_covered_2 (next _ ?_), fun z => next _ ?_⟩
    · have z := (nI_leI (by omega) (by omega)).mp z
      exact (Nat.max_eq_left z).symm
    · have z : ¬ (aPc l k).1 + (aPc l k).2.length ≤ aMost a l k := fun y => z ((nI_leI (by omega) (by omega)).mpr y)
      exact (Nat.max_eq_right (by omega)).symm
theorem f_count_loop {a pol m : Nat} (hb : c 12 = nI b) (hf : b + 710 ≤ 22416) (hp : MP g l) (ha : g 4 = nI a) (ha2 : a < 2 ^ 30) (hpol : g 1 = nI pol) (hpol3 : pol ≤ 3) (hm : m < 2 ^ 30) (hK : K (mw w q c (rup r 0 (pgf P b 710 g))) (some (.int (nI (aCnt l a (m - a)))))) : ∀ (n o : Nat), a ≤ o → o + n = m → zwp n_M_covered 5 [(0, .ref q), (1, .int 0), (2, .int (nI (aCnt l a (o - a)))), (3, .int (nI m)), (4, .int (nI o))] [] 0 0 (mw w q c (rup r 0 (pgf P b 710 g))) K := by
  intro n
  have hl6 := hp.2.1
  induction n with
  | zero =>
    intro o h1 h2
    refine b_M_covered_5 ⟨fun _ => b_M_covered_8 ⟨fun _ => b_M_covered_9 (b_M_covered_10 ?_), fun z => absurd rfl z⟩, fun z => absurd ((nI_leI (by omega) (by omega)).mpr (by omega)) z⟩
    rw [show o = m by omega]
    exact hK
  | succ n ih =>
    intro o h1 h2
    have next : ∀ x : Nat, x = aCnt l a (o + 1 - a) → zwp n_M_covered 7 [(0, .ref q), (1, .int 0), (2, .int (nI x)), (3, .int (nI m)), (4, .int (nI o))] [] 0 0 (mw w q c (rup r 0 (pgf P b 710 g))) K := fun x hx => by
      refine b_M_covered_7 ?_
      rw [hx, nI_1]
      exact ih (o + 1) (by omega) (by omega)
    have ec : aCnt l a (o + 1 - a) = aCnt l a (o - a) + (if aAny l o then 1 else 0) := by
      rw [show o + 1 - a = (o - a) + 1 by omega]
      show aCnt l a (o - a) + (if aAny l (a + (o - a)) then 1 else 0) = _
      rw [show a + (o - a) = o by omega]
    refine b_M_covered_5 ⟨fun z => absurd ((nI_leI (by omega) (by omega)).mp z) (by omega), fun _ => ?_⟩
    simp only [and_assoc, exists_and_left, exists_eq_left, exists_eq_left', Option.some.injEq, Value.int.injEq, Value.ref.injEq, Value.long.injEq, true_and, and_true, exists_eq, exists_true_left, mw_ob, mw_ia0, mw_ia2, mw_ia5, mw_ia6, mw_ia7, mw_ia8, mw_ia9, mw_ia10, mw_ia11, mw_ia15, mw_ia16, mF_0, mF_1, mF_2, mF_3, mF_4, mF_5, mF_6, mF_7, mF_8, mF_9, mF_10, mF_11, mF_12, mF_13, mF_14, mF_15, mF_16, mF_len, mF_s1, mF_s3, mF_s4, mF_s12, mF_s13, mF_s14, mw_uob, mw_u0, mw_u2, mw_u5, mw_u6, mw_u7, mw_u8, mw_u9, mw_u10, mw_u11, mw_u15, mw_u16, Nat.reduceLT, rup_s, rup_rup]
    refine f_chosen hb hf hp rfl (by omega) ha ha2 hpol hpol3 ?_
    simp only [and_assoc, exists_and_left, exists_eq_left, exists_eq_left', Option.some.injEq, Value.int.injEq, Value.ref.injEq, Value.long.injEq, true_and, and_true, exists_eq, exists_true_left, mw_ob, mw_ia0, mw_ia2, mw_ia5, mw_ia6, mw_ia7, mw_ia8, mw_ia9, mw_ia10, mw_ia11, mw_ia15, mw_ia16, mF_0, mF_1, mF_2, mF_3, mF_4, mF_5, mF_6, mF_7, mF_8, mF_9, mF_10, mF_11, mF_12, mF_13, mF_14, mF_15, mF_16, mF_len, mF_s1, mF_s3, mF_s4, mF_s12, mF_s13, mF_s14, mw_uob, mw_u0, mw_u2, mw_u5, mw_u6, mw_u7, mw_u8, mw_u9, mw_u10, mw_u11, mw_u15, mw_u16, Nat.reduceLT, rup_s, rup_rup]
    have hx : ∀ k, chA a pol l o l.length = some k → k < 2 ^ 31 := fun k hk => by have := (chA_lt hk).2.1; omega
    refine ⟨fun z => next _ ?_, fun z => ⟨fun _ => b_M_covered_6 ?_, fun y => absurd trivial y⟩⟩
    · rw [ec, (chA_none h1).mp ((oM_none hx).mp z)]; rfl
    · rw [nI_1]
      refine next _ ?_
      have : aAny l o = true := by
        cases hc : aAny l o with
        | true => rfl
        | false => exact absurd ((oM_none hx).mpr ((chA_none h1).mpr hc)) z
      rw [ec, this]; rfl
theorem f_least_loop {a pol m s : Nat} (hb : c 12 = nI b) (hf : b + 710 ≤ 22416) (hp : MP g l) (ha : g 4 = nI a) (ha2 : a < 2 ^ 30) (hpol : g 1 = nI pol) (hpol3 : pol ≤ 3) (hm : m < 2 ^ 30) (hs : isLeast l a s) (hsm : s < m) {x2 : Int32} (hK : K (mw w q c (rup r 0 (pgf P b 710 g))) (some (.int (nI s)))) : ∀ (n o : Nat), a ≤ o → o + n = s → zwp n_M_covered 5 [(0, .ref q), (1, .int 1), (2, .int x2), (3, .int (nI m)), (4, .int (nI o))] [] 0 0 (mw w q c (rup r 0 (pgf P b 710 g))) K := by
  intro n
  have hl6 := hp.2.1
  induction n with
  | zero =>
    intro o h1 h2
    have h2 : o = s := by omega
    subst h2
    refine b_M_covered_5 ⟨fun z => absurd ((nI_leI (by omega) (by omega)).mp z) (by omega), fun _ => ?_⟩
    simp only [and_assoc, exists_and_left, exists_eq_left, exists_eq_left', Option.some.injEq, Value.int.injEq, Value.ref.injEq, Value.long.injEq, true_and, and_true, exists_eq, exists_true_left, mw_ob, mw_ia0, mw_ia2, mw_ia5, mw_ia6, mw_ia7, mw_ia8, mw_ia9, mw_ia10, mw_ia11, mw_ia15, mw_ia16, mF_0, mF_1, mF_2, mF_3, mF_4, mF_5, mF_6, mF_7, mF_8, mF_9, mF_10, mF_11, mF_12, mF_13, mF_14, mF_15, mF_16, mF_len, mF_s1, mF_s3, mF_s4, mF_s12, mF_s13, mF_s14, mw_uob, mw_u0, mw_u2, mw_u5, mw_u6, mw_u7, mw_u8, mw_u9, mw_u10, mw_u11, mw_u15, mw_u16, Nat.reduceLT, rup_s, rup_rup]
    refine f_chosen hb hf hp rfl (by omega) ha ha2 hpol hpol3 ?_
    simp only [and_assoc, exists_and_left, exists_eq_left, exists_eq_left', Option.some.injEq, Value.int.injEq, Value.ref.injEq, Value.long.injEq, true_and, and_true, exists_eq, exists_true_left, mw_ob, mw_ia0, mw_ia2, mw_ia5, mw_ia6, mw_ia7, mw_ia8, mw_ia9, mw_ia10, mw_ia11, mw_ia15, mw_ia16, mF_0, mF_1, mF_2, mF_3, mF_4, mF_5, mF_6, mF_7, mF_8, mF_9, mF_10, mF_11, mF_12, mF_13, mF_14, mF_15, mF_16, mF_len, mF_s1, mF_s3, mF_s4, mF_s12, mF_s13, mF_s14, mw_uob, mw_u0, mw_u2, mw_u5, mw_u6, mw_u7, mw_u8, mw_u9, mw_u10, mw_u11, mw_u15, mw_u16, Nat.reduceLT, rup_s, rup_rup]
    have hx : ∀ k, chA a pol l o l.length = some k → k < 2 ^ 31 := fun k hk => by have := (chA_lt hk).2.1; omega
    refine ⟨fun z => ?_, fun z => ⟨fun y => absurd y (by decide), fun _ => hK⟩⟩
    have := (chA_none h1).mp ((oM_none hx).mp z)
    rw [hs.2.1] at this
    cases this
  | succ n ih =>
    intro o h1 h2
    refine b_M_covered_5 ⟨fun z => absurd ((nI_leI (by omega) (by omega)).mp z) (by omega), fun _ => ?_⟩
    simp only [and_assoc, exists_and_left, exists_eq_left, exists_eq_left', Option.some.injEq, Value.int.injEq, Value.ref.injEq, Value.long.injEq, true_and, and_true, exists_eq, exists_true_left, mw_ob, mw_ia0, mw_ia2, mw_ia5, mw_ia6, mw_ia7, mw_ia8, mw_ia9, mw_ia10, mw_ia11, mw_ia15, mw_ia16, mF_0, mF_1, mF_2, mF_3, mF_4, mF_5, mF_6, mF_7, mF_8, mF_9, mF_10, mF_11, mF_12, mF_13, mF_14, mF_15, mF_16, mF_len, mF_s1, mF_s3, mF_s4, mF_s12, mF_s13, mF_s14, mw_uob, mw_u0, mw_u2, mw_u5, mw_u6, mw_u7, mw_u8, mw_u9, mw_u10, mw_u11, mw_u15, mw_u16, Nat.reduceLT, rup_s, rup_rup]
    refine f_chosen hb hf hp rfl (by omega) ha ha2 hpol hpol3 ?_
    simp only [and_assoc, exists_and_left, exists_eq_left, exists_eq_left', Option.some.injEq, Value.int.injEq, Value.ref.injEq, Value.long.injEq, true_and, and_true, exists_eq, exists_true_left, mw_ob, mw_ia0, mw_ia2, mw_ia5, mw_ia6, mw_ia7, mw_ia8, mw_ia9, mw_ia10, mw_ia11, mw_ia15, mw_ia16, mF_0, mF_1, mF_2, mF_3, mF_4, mF_5, mF_6, mF_7, mF_8, mF_9, mF_10, mF_11, mF_12, mF_13, mF_14, mF_15, mF_16, mF_len, mF_s1, mF_s3, mF_s4, mF_s12, mF_s13, mF_s14, mw_uob, mw_u0, mw_u2, mw_u5, mw_u6, mw_u7, mw_u8, mw_u9, mw_u10, mw_u11, mw_u15, mw_u16, Nat.reduceLT, rup_s, rup_rup]
    refine ⟨fun z => b_M_covered_7 (by rw [nI_1]; exact ih (o + 1) (by omega) (by omega)), fun z => absurd ?_ z⟩
    rw [(chA_none h1).mpr (hs.2.2 o h1 (by omega))]
    rfl
theorem f_covered0 {a pol : Nat} (hb : c 12 = nI b) (hf : b + 710 ≤ 22416) (hp : MP g l) (ha : g 4 = nI a) (ha2 : a < 2000) (hpol : g 1 = nI pol) (hpol3 : pol ≤ 3) (hK : K (mw w q c (rup r 0 (pgf P b 710 g))) (some (.int (nI (aCount l a))))) : zcall n_M_covered [.ref q, .int 0] (mw w q c (rup r 0 (pgf P b 710 g))) K := by
  refine e_M_covered (b_M_covered_0 ?_)
  simp only [and_assoc, exists_and_left, exists_eq_left, exists_eq_left', Option.some.injEq, Value.int.injEq, Value.ref.injEq, Value.long.injEq, true_and, and_true, exists_eq, exists_true_left, mw_ob, mw_ia0, mw_ia2, mw_ia5, mw_ia6, mw_ia7, mw_ia8, mw_ia9, mw_ia10, mw_ia11, mw_ia15, mw_ia16, mF_0, mF_1, mF_2, mF_3, mF_4, mF_5, mF_6, mF_7, mF_8, mF_9, mF_10, mF_11, mF_12, mF_13, mF_14, mF_15, mF_16, mF_len, mF_s1, mF_s3, mF_s4, mF_s12, mF_s13, mF_s14, mw_uob, mw_u0, mw_u2, mw_u5, mw_u6, mw_u7, mw_u8, mw_u9, mw_u10, mw_u11, mw_u15, mw_u16, Nat.reduceLT, rup_s, rup_rup]
  refine f_of hb (i := 4) rfl (by decide) hf ?_
  simp only [and_assoc, exists_and_left, exists_eq_left, exists_eq_left', Option.some.injEq, Value.int.injEq, Value.ref.injEq, Value.long.injEq, true_and, and_true, exists_eq, exists_true_left, mw_ob, mw_ia0, mw_ia2, mw_ia5, mw_ia6, mw_ia7, mw_ia8, mw_ia9, mw_ia10, mw_ia11, mw_ia15, mw_ia16, mF_0, mF_1, mF_2, mF_3, mF_4, mF_5, mF_6, mF_7, mF_8, mF_9, mF_10, mF_11, mF_12, mF_13, mF_14, mF_15, mF_16, mF_len, mF_s1, mF_s3, mF_s4, mF_s12, mF_s13, mF_s14, mw_uob, mw_u0, mw_u2, mw_u5, mw_u6, mw_u7, mw_u8, mw_u9, mw_u10, mw_u11, mw_u15, mw_u16, Nat.reduceLT, rup_s, rup_rup]
  rw [ha]
  have hmB : aMost a l l.length ≤ 3039 := aMost_le (by omega) (fun i hi => Nat.le_trans (ends_le hp.2.2.1 hi) (by omega)) (Nat.le_refl _)
  refine f_most (a := a) hb hf hp (by omega) (b_M_covered_4 ?_) l.length 0 (by omega)
  simp only [and_assoc, exists_and_left, exists_eq_left, exists_eq_left', Option.some.injEq, Value.int.injEq, Value.ref.injEq, Value.long.injEq, true_and, and_true, exists_eq, exists_true_left, mw_ob, mw_ia0, mw_ia2, mw_ia5, mw_ia6, mw_ia7, mw_ia8, mw_ia9, mw_ia10, mw_ia11, mw_ia15, mw_ia16, mF_0, mF_1, mF_2, mF_3, mF_4, mF_5, mF_6, mF_7, mF_8, mF_9, mF_10, mF_11, mF_12, mF_13, mF_14, mF_15, mF_16, mF_len, mF_s1, mF_s3, mF_s4, mF_s12, mF_s13, mF_s14, mw_uob, mw_u0, mw_u2, mw_u5, mw_u6, mw_u7, mw_u8, mw_u9, mw_u10, mw_u11, mw_u15, mw_u16, Nat.reduceLT, rup_s, rup_rup]
  refine f_of hb (i := 4) rfl (by decide) hf ?_
  simp only [and_assoc, exists_and_left, exists_eq_left, exists_eq_left', Option.some.injEq, Value.int.injEq, Value.ref.injEq, Value.long.injEq, true_and, and_true, exists_eq, exists_true_left, mw_ob, mw_ia0, mw_ia2, mw_ia5, mw_ia6, mw_ia7, mw_ia8, mw_ia9, mw_ia10, mw_ia11, mw_ia15, mw_ia16, mF_0, mF_1, mF_2, mF_3, mF_4, mF_5, mF_6, mF_7, mF_8, mF_9, mF_10, mF_11, mF_12, mF_13, mF_14, mF_15, mF_16, mF_len, mF_s1, mF_s3, mF_s4, mF_s12, mF_s13, mF_s14, mw_uob, mw_u0, mw_u2, mw_u5, mw_u6, mw_u7, mw_u8, mw_u9, mw_u10, mw_u11, mw_u15, mw_u16, Nat.reduceLT, rup_s, rup_rup]
  rw [ha]
  have h := f_count_loop (m := aMost a l l.length) hb hf hp ha (by omega) hpol hpol3 (by omega) hK (aMost a l l.length - a) a (Nat.le_refl _) (by have := aMost_ge (a := a) (l := l) (k := l.length); omega)
  rw [Nat.sub_self] at h
  exact h
theorem f_covered1 {a pol s : Nat} (hb : c 12 = nI b) (hf : b + 710 ≤ 22416) (hp : MP g l) (ha : g 4 = nI a) (ha2 : a < 2000) (hpol : g 1 = nI pol) (hpol3 : pol ≤ 3) (hs : isLeast l a s) (hK : K (mw w q c (rup r 0 (pgf P b 710 g))) (some (.int (nI s)))) : zcall n_M_covered [.ref q, .int 1] (mw w q c (rup r 0 (pgf P b 710 g))) K := by
  refine e_M_covered (b_M_covered_0 ?_)
  simp only [and_assoc, exists_and_left, exists_eq_left, exists_eq_left', Option.some.injEq, Value.int.injEq, Value.ref.injEq, Value.long.injEq, true_and, and_true, exists_eq, exists_true_left, mw_ob, mw_ia0, mw_ia2, mw_ia5, mw_ia6, mw_ia7, mw_ia8, mw_ia9, mw_ia10, mw_ia11, mw_ia15, mw_ia16, mF_0, mF_1, mF_2, mF_3, mF_4, mF_5, mF_6, mF_7, mF_8, mF_9, mF_10, mF_11, mF_12, mF_13, mF_14, mF_15, mF_16, mF_len, mF_s1, mF_s3, mF_s4, mF_s12, mF_s13, mF_s14, mw_uob, mw_u0, mw_u2, mw_u5, mw_u6, mw_u7, mw_u8, mw_u9, mw_u10, mw_u11, mw_u15, mw_u16, Nat.reduceLT, rup_s, rup_rup]
  refine f_of hb (i := 4) rfl (by decide) hf ?_
  simp only [and_assoc, exists_and_left, exists_eq_left, exists_eq_left', Option.some.injEq, Value.int.injEq, Value.ref.injEq, Value.long.injEq, true_and, and_true, exists_eq, exists_true_left, mw_ob, mw_ia0, mw_ia2, mw_ia5, mw_ia6, mw_ia7, mw_ia8, mw_ia9, mw_ia10, mw_ia11, mw_ia15, mw_ia16, mF_0, mF_1, mF_2, mF_3, mF_4, mF_5, mF_6, mF_7, mF_8, mF_9, mF_10, mF_11, mF_12, mF_13, mF_14, mF_15, mF_16, mF_len, mF_s1, mF_s3, mF_s4, mF_s12, mF_s13, mF_s14, mw_uob, mw_u0, mw_u2, mw_u5, mw_u6, mw_u7, mw_u8, mw_u9, mw_u10, mw_u11, mw_u15, mw_u16, Nat.reduceLT, rup_s, rup_rup]
  rw [ha]
  have hmB : aMost a l l.length ≤ 3039 := aMost_le (by omega) (fun i hi => Nat.le_trans (ends_le hp.2.2.1 hi) (by omega)) (Nat.le_refl _)
  refine f_most (a := a) hb hf hp (by omega) (b_M_covered_4 ?_) l.length 0 (by omega)
  simp only [and_assoc, exists_and_left, exists_eq_left, exists_eq_left', Option.some.injEq, Value.int.injEq, Value.ref.injEq, Value.long.injEq, true_and, and_true, exists_eq, exists_true_left, mw_ob, mw_ia0, mw_ia2, mw_ia5, mw_ia6, mw_ia7, mw_ia8, mw_ia9, mw_ia10, mw_ia11, mw_ia15, mw_ia16, mF_0, mF_1, mF_2, mF_3, mF_4, mF_5, mF_6, mF_7, mF_8, mF_9, mF_10, mF_11, mF_12, mF_13, mF_14, mF_15, mF_16, mF_len, mF_s1, mF_s3, mF_s4, mF_s12, mF_s13, mF_s14, mw_uob, mw_u0, mw_u2, mw_u5, mw_u6, mw_u7, mw_u8, mw_u9, mw_u10, mw_u11, mw_u15, mw_u16, Nat.reduceLT, rup_s, rup_rup]
  refine f_of hb (i := 4) rfl (by decide) hf ?_
  simp only [and_assoc, exists_and_left, exists_eq_left, exists_eq_left', Option.some.injEq, Value.int.injEq, Value.ref.injEq, Value.long.injEq, true_and, and_true, exists_eq, exists_true_left, mw_ob, mw_ia0, mw_ia2, mw_ia5, mw_ia6, mw_ia7, mw_ia8, mw_ia9, mw_ia10, mw_ia11, mw_ia15, mw_ia16, mF_0, mF_1, mF_2, mF_3, mF_4, mF_5, mF_6, mF_7, mF_8, mF_9, mF_10, mF_11, mF_12, mF_13, mF_14, mF_15, mF_16, mF_len, mF_s1, mF_s3, mF_s4, mF_s12, mF_s13, mF_s14, mw_uob, mw_u0, mw_u2, mw_u5, mw_u6, mw_u7, mw_u8, mw_u9, mw_u10, mw_u11, mw_u15, mw_u16, Nat.reduceLT, rup_s, rup_rup]
  rw [ha]
  exact f_least_loop (m := aMost a l l.length) hb hf hp ha (by omega) hpol hpol3 (by omega) hs (aAny_most hs.2.1) hK (s - a) a (Nat.le_refl _) (by have := hs.1; omega)
end MCov2
