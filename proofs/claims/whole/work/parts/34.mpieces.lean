/-! THE MODEL: which piece is chosen, conflicts, what is covered -/
def chA (a pol : Nat) (l : List aP) (o k : Nat) : Option Nat := if a ≤ o then aCh pol l o k else none
theorem chA_succ {a pol : Nat} {l : List aP} {o k : Nat} : chA a pol l o (k + 1) = if a ≤ o ∧ aCov (aPc l k) o = true then (match chA a pol l o k with | none => some k | some j => if aBet pol (aPc l k) (aPc l j) = true then some k else some j) else chA a pol l o k := by
  unfold chA
  by_cases h : a ≤ o
  · rw [if_pos h, if_pos h]
    cases hc : aCov (aPc l k) o with
    | false =>
      rw [if_neg (by simp)]
      show (match aCh pol l o k with | none => _ | some b => _) = _
      cases hb : aCh pol l o k <;> simp [hc]
    | true =>
      rw [if_pos ⟨h, rfl⟩]
      show (match aCh pol l o k with | none => _ | some b => _) = _
      cases hb : aCh pol l o k <;> simp [hc]
  · rw [if_neg h, if_neg h, if_neg (fun z => h z.1)]
/-- the last piece among the first k that covers o; whether two of them, one behind the other, have unlike bytes -/
def lastC (l : List aP) (o : Nat) : Nat → Option Nat
  | 0 => none
  | k + 1 => if aCov (aPc l k) o then some k else lastC l o k
def cfK (l : List aP) (o : Nat) : Nat → Bool
  | 0 => false
  | k + 1 => if aCov (aPc l k) o then (cfK l o k || (match lastC l o k with | none => false | some j => !(aByte (aPc l k) o == aByte (aPc l j) o))) else cfK l o k
theorem lastC_succ {l : List aP} {o k : Nat} : lastC l o (k + 1) = if aCov (aPc l k) o then some k else lastC l o k := rfl
theorem cfK_succ {l : List aP} {o k : Nat} : cfK l o (k + 1) = if aCov (aPc l k) o then (cfK l o k || (match lastC l o k with | none => false | some j => !(aByte (aPc l k) o == aByte (aPc l j) o))) else cfK l o k := rfl
theorem lastC_lt {l : List aP} {o : Nat} : ∀ {k j : Nat}, lastC l o k = some j → j < k ∧ aCov (aPc l j) o = true
  | 0, j, h => by cases h
  | k + 1, j, h => by
    unfold lastC at h
    split at h
    · cases h; exact ⟨by omega, by assumption⟩
    · have := lastC_lt h; exact ⟨by omega, this.2⟩
theorem lastC_none {l : List aP} {o : Nat} : ∀ {k : Nat}, lastC l o k = none → ∀ i, i < k → aCov (aPc l i) o = false
  | 0, _, i, h => absurd h (by omega)
  | k + 1, h, i, hi => by
    unfold lastC at h
    split at h
    · cases h
    · rename_i hc
      by_cases hik : i = k
      · rw [hik]; simpa using hc
      · exact lastC_none h i (by omega)
theorem cfK_false {l : List aP} {o : Nat} : ∀ {k : Nat}, cfK l o k = false → ∀ i j, i < k → j < k → aCov (aPc l i) o = true → aCov (aPc l j) o = true → aByte (aPc l i) o = aByte (aPc l j) o
  | 0, _, i, j, h, _, _, _ => absurd h (by omega)
  | k + 1, h, i, j, hi, hj, ci, cj => by
    unfold cfK at h
    split at h
    · rename_i hc
      simp only [Bool.or_eq_false_iff] at h
      have ih := cfK_false h.1
      have key : ∀ i, i < k → aCov (aPc l i) o = true → aByte (aPc l i) o = aByte (aPc l k) o := by
        intro i hi ci
        cases hl : lastC l o k with
        | none => rw [lastC_none hl i hi] at ci; cases ci
        | some m =>
          rw [hl] at h
          have hm := lastC_lt hl
          have e1 : aByte (aPc l k) o = aByte (aPc l m) o := by simpa using h.2
          rw [e1]
          exact ih i m hi hm.1 ci hm.2
      by_cases h1 : i = k
      · by_cases h2 : j = k
        · rw [h1, h2]
        · rw [h1]; exact (key j (by omega) cj).symm
      · by_cases h2 : j = k
        · rw [h2]; exact key i (by omega) ci
        · exact ih i j (by omega) (by omega) ci cj
    · rename_i hc
      have h1 : i ≠ k := fun e => hc (by rw [← e]; exact ci)
      have h2 : j ≠ k := fun e => hc (by rw [← e]; exact cj)
      exact cfK_false h i j (by omega) (by omega) ci cj
theorem cfK_true {l : List aP} {o : Nat} : ∀ {k : Nat}, cfK l o k = true → ∃ i j, i < k ∧ j < k ∧ aCov (aPc l i) o = true ∧ aCov (aPc l j) o = true ∧ ¬ aByte (aPc l i) o = aByte (aPc l j) o
  | 0, h => by cases h
  | k + 1, h => by
    unfold cfK at h
    split at h
    · rename_i hc
      simp only [Bool.or_eq_true] at h
      rcases h with h | h
      · obtain ⟨i, j, h1, h2, h3⟩ := cfK_true h
        exact ⟨i, j, by omega, by omega, h3⟩
      · cases hl : lastC l o k with
        | none => rw [hl] at h; cases h
        | some m =>
          rw [hl] at h
          have hm := lastC_lt hl
          exact ⟨k, m, by omega, by omega, hc, hm.2, by simpa using h⟩
    · obtain ⟨i, j, h1, h2, h3⟩ := cfK_true h
      exact ⟨i, j, by omega, by omega, h3⟩
theorem aConf_iff {l : List aP} {o : Nat} : aConf l o = true ↔ ∃ i j, i < l.length ∧ j < l.length ∧ aCov (aPc l i) o = true ∧ aCov (aPc l j) o = true ∧ ¬ aByte (aPc l i) o = aByte (aPc l j) o := by
  unfold aConf
  simp only [List.any_eq_true, Bool.and_eq_true]
  have pc : ∀ {i : Nat} (hi : i < l.length), aPc l i = l[i] := fun hi => by unfold aPc; rw [List.getD_eq_getElem?_getD, List.getElem?_eq_getElem hi]; rfl
  constructor
  · rintro ⟨p, hp, c1, q, hq, c2, hne⟩
    obtain ⟨i, hi, rfl⟩ := List.getElem_of_mem hp
    obtain ⟨j, hj, rfl⟩ := List.getElem_of_mem hq
    exact ⟨i, j, hi, hj, by rw [pc hi]; exact c1, by rw [pc hj]; exact c2, by rw [pc hi, pc hj]; simpa using hne⟩
  · rintro ⟨i, j, hi, hj, c1, c2, hne⟩
    exact ⟨_, aPc_mem hi, c1, _, aPc_mem hj, c2, by simpa using hne⟩
theorem cfK_conf {l : List aP} {o : Nat} : cfK l o l.length = aConf l o := by
  cases h : cfK l o l.length with
  | true => exact (aConf_iff.mpr (cfK_true h)).symm
  | false =>
    cases h2 : aConf l o with
    | false => rfl
    | true =>
      obtain ⟨i, j, hi, hj, c1, c2, hne⟩ := aConf_iff.mp h2
      exact absurd (cfK_false h i j hi hj c1 c2) hne
/-- how many of the n offsets from a on are covered; behind which no offset is -/
def aCnt (l : List aP) (a : Nat) : Nat → Nat
  | 0 => 0
  | n + 1 => aCnt l a n + (if aAny l (a + n) then 1 else 0)
def aMost (a : Nat) (l : List aP) : Nat → Nat
  | 0 => a
  | k + 1 => max (aMost a l k) ((aPc l k).1 + (aPc l k).2.length)
theorem aMost_ge {a : Nat} {l : List aP} : ∀ {k : Nat}, a ≤ aMost a l k
  | 0 => Nat.le_refl _
  | k + 1 => Nat.le_trans aMost_ge (Nat.le_max_left _ _)
theorem aMost_le {a : Nat} {l : List aP} {B : Nat} (ha : a ≤ B) (hl : ∀ i, i < l.length → (aPc l i).1 + (aPc l i).2.length ≤ B) : ∀ {k : Nat}, k ≤ l.length → aMost a l k ≤ B
  | 0, _ => ha
  | k + 1, h => Nat.max_le.mpr ⟨aMost_le ha hl (by omega), hl k (by omega)⟩
theorem aMost_end {a : Nat} {l : List aP} : ∀ {k i : Nat}, i < k → (aPc l i).1 + (aPc l i).2.length ≤ aMost a l k
  | 0, i, h => absurd h (by omega)
  | k + 1, i, h => by
    by_cases hik : i = k
    · rw [hik]; exact Nat.le_max_right _ _
    · exact Nat.le_trans (aMost_end (show i < k by omega)) (Nat.le_max_left _ _)
theorem aAny_most {a : Nat} {l : List aP} {o : Nat} (h : aAny l o = true) : o < aMost a l l.length := by
  obtain ⟨i, hi, hc⟩ := aAny_iff.mp h
  have := aCov_iff.mp hc
  have := aMost_end (a := a) (l := l) hi
  omega
theorem aCnt_le {l : List aP} {a : Nat} : ∀ {n : Nat}, aCnt l a n ≤ n
  | 0 => Nat.le_refl _
  | n + 1 => by
    unfold aCnt
    have := aCnt_le (l := l) (a := a) (n := n)
    split <;> omega
def oob (bo : Bool) : Int32 := match bo with
  | true => 1
  | false => 0
section MPieces
variable {w : jx_W} {q : Nat} {c : Nat → Int32} {r : Nat → Nat → Int32} {K : jx_Q} {P g : Nat → Int32} {b : Nat} {l : List aP}
theorem f_byteOf {x y : Int32} {k o : Nat} (hb : c 12 = nI b) (hf : b + 710 ≤ 22416) (hp : MP g l) (hk : k < l.length) (hx : x = nI k) (hy : y = nI o) (hc : aCov (aPc l k) o = true) (hK : K (mw w q c (rup r 0 (pgf P b 710 g))) (some (.int (aByte (aPc l k) o)))) : zcall n_M_byteOf [.ref q, .int x, .int y] (mw w q c (rup r 0 (pgf P b 710 g))) K := by
  obtain ⟨hp1, hp2, hp3, hp4⟩ := hp
  obtain ⟨g1, g2, g3⟩ := hp4 k hk
  obtain ⟨o1, o2, o3, -⟩ := hp3 _ (aPc_mem hk)
  have hcv := aCov_iff.mp hc
  subst hx hy
  have e1 : pgf P b 710 g (b + 38 + 42 * k) = nI (aPc l k).1 := (pgf_at (by omega) (by omega)).trans g1
  have e3 : pgf P b 710 g (b + 38 + 42 * k + 2 + o - (aPc l k).1) = aByte (aPc l k) o := (pgf_at (k := 38 + 42 * k + 2 + (o - (aPc l k).1)) (by omega) (by omega)).trans (g3 _ (by omega))
  refine e_M_byteOf (b_M_byteOf_0 ?_)
  simp only [and_assoc, exists_and_left, exists_eq_left, exists_eq_left', Option.some.injEq, Value.int.injEq, Value.ref.injEq, Value.long.injEq, true_and, and_true, exists_eq, exists_true_left, mw_ob, mw_ia0, mw_ia2, mw_ia5, mw_ia6, mw_ia7, mw_ia8, mw_ia9, mw_ia10, mw_ia11, mw_ia15, mw_ia16, mF_0, mF_1, mF_2, mF_3, mF_4, mF_5, mF_6, mF_7, mF_8, mF_9, mF_10, mF_11, mF_12, mF_13, mF_14, mF_15, mF_16, mF_len, mF_s1, mF_s3, mF_s4, mF_s12, mF_s13, mF_s14, mw_uob, mw_u0, mw_u2, mw_u5, mw_u6, mw_u7, mw_u8, mw_u9, mw_u10, mw_u11, mw_u15, mw_u16, Nat.reduceLT, rup_s, rup_rup]
  refine s_M_pieceAt hb rfl ?_
  simp only [and_assoc, exists_and_left, exists_eq_left, exists_eq_left', Option.some.injEq, Value.int.injEq, Value.ref.injEq, Value.long.injEq, true_and, and_true, exists_eq, exists_true_left, mw_ob, mw_ia0, mw_ia2, mw_ia5, mw_ia6, mw_ia7, mw_ia8, mw_ia9, mw_ia10, mw_ia11, mw_ia15, mw_ia16, mF_0, mF_1, mF_2, mF_3, mF_4, mF_5, mF_6, mF_7, mF_8, mF_9, mF_10, mF_11, mF_12, mF_13, mF_14, mF_15, mF_16, mF_len, mF_s1, mF_s3, mF_s4, mF_s12, mF_s13, mF_s14, mw_uob, mw_u0, mw_u2, mw_u5, mw_u6, mw_u7, mw_u8, mw_u9, mw_u10, mw_u11, mw_u15, mw_u16, Nat.reduceLT, rup_s, rup_rup]
  refine s_M_pieceAt hb rfl ?_
  simp only [and_assoc, exists_and_left, exists_eq_left, exists_eq_left', Option.some.injEq, Value.int.injEq, Value.ref.injEq, Value.long.injEq, true_and, and_true, exists_eq, exists_true_left, mw_ob, mw_ia0, mw_ia2, mw_ia5, mw_ia6, mw_ia7, mw_ia8, mw_ia9, mw_ia10, mw_ia11, mw_ia15, mw_ia16, mF_0, mF_1, mF_2, mF_3, mF_4, mF_5, mF_6, mF_7, mF_8, mF_9, mF_10, mF_11, mF_12, mF_13, mF_14, mF_15, mF_16, mF_len, mF_s1, mF_s3, mF_s4, mF_s12, mF_s13, mF_s14, mw_uob, mw_u0, mw_u2, mw_u5, mw_u6, mw_u7, mw_u8, mw_u9, mw_u10, mw_u11, mw_u15, mw_u16, Nat.reduceLT, rup_s, rup_rup]
  refine ⟨vp_in_nI (by omega) (by decide), ?_⟩
  rw [nI_clamp (show b + 38 + 42 * k < 2 ^ 31 by omega), e1, lit_2, nI_add, nI_add, pk_sub (by omega), nI_clamp (by omega), e3]
  exact ⟨vp_in_nI (by omega) (by decide), hK⟩
theorem f_isBetter {x y : Int32} {k j pol : Nat} (hb : c 12 = nI b) (hf : b + 710 ≤ 22416) (hp : MP g l) (hk : k < l.length) (hj : j < l.length) (hx : x = nI k) (hy : y = nI j) (hpol : g 1 = nI pol) (hpol3 : pol ≤ 3) (h1 : aBet pol (aPc l k) (aPc l j) = true → K (mw w q c (rup r 0 (pgf P b 710 g))) (some (.int 1))) (h0 : aBet pol (aPc l k) (aPc l j) = false → K (mw w q c (rup r 0 (pgf P b 710 g))) (some (.int 0))) : zcall n_M_isBetter [.ref q, .int x, .int y] (mw w q c (rup r 0 (pgf P b 710 g))) K := by
  obtain ⟨hp1, hp2, hp3, hp4⟩ := hp
  obtain ⟨g1, g2, -⟩ := hp4 k hk
  obtain ⟨g3, g4, -⟩ := hp4 j hj
  obtain ⟨o1, o2, o3, -⟩ := hp3 _ (aPc_mem hk)
  obtain ⟨o4, o5, o6, -⟩ := hp3 _ (aPc_mem hj)
  subst hx hy
  have e1 : pgf P b 710 g (b + 38 + 42 * k) = nI (aPc l k).1 := (pgf_at (by omega) (by omega)).trans g1
  have e2 : pgf P b 710 g (b + 38 + 42 * k + 1) = nI (aPc l k).2.length := (pgf_at (k := 38 + 42 * k + 1) (by omega) (by omega)).trans g2
  have e3 : pgf P b 710 g (b + 38 + 42 * j) = nI (aPc l j).1 := (pgf_at (by omega) (by omega)).trans g3
  have e4 : pgf P b 710 g (b + 38 + 42 * j + 1) = nI (aPc l j).2.length := (pgf_at (k := 38 + 42 * j + 1) (by omega) (by omega)).trans g4
  refine e_M_isBetter (b_M_isBetter_0 ?_)
  simp only [and_assoc, exists_and_left, exists_eq_left, exists_eq_left', Option.some.injEq, Value.int.injEq, Value.ref.injEq, Value.long.injEq, true_and, and_true, exists_eq, exists_true_left, mw_ob, mw_ia0, mw_ia2, mw_ia5, mw_ia6, mw_ia7, mw_ia8, mw_ia9, mw_ia10, mw_ia11, mw_ia15, mw_ia16, mF_0, mF_1, mF_2, mF_3, mF_4, mF_5, mF_6, mF_7, mF_8, mF_9, mF_10, mF_11, mF_12, mF_13, mF_14, mF_15, mF_16, mF_len, mF_s1, mF_s3, mF_s4, mF_s12, mF_s13, mF_s14, mw_uob, mw_u0, mw_u2, mw_u5, mw_u6, mw_u7, mw_u8, mw_u9, mw_u10, mw_u11, mw_u15, mw_u16, Nat.reduceLT, rup_s, rup_rup]
  refine f_of hb (i := 1) rfl (by decide) hf ?_
  simp only [and_assoc, exists_and_left, exists_eq_left, exists_eq_left', Option.some.injEq, Value.int.injEq, Value.ref.injEq, Value.long.injEq, true_and, and_true, exists_eq, exists_true_left, mw_ob, mw_ia0, mw_ia2, mw_ia5, mw_ia6, mw_ia7, mw_ia8, mw_ia9, mw_ia10, mw_ia11, mw_ia15, mw_ia16, mF_0, mF_1, mF_2, mF_3, mF_4, mF_5, mF_6, mF_7, mF_8, mF_9, mF_10, mF_11, mF_12, mF_13, mF_14, mF_15, mF_16, mF_len, mF_s1, mF_s3, mF_s4, mF_s12, mF_s13, mF_s14, mw_uob, mw_u0, mw_u2, mw_u5, mw_u6, mw_u7, mw_u8, mw_u9, mw_u10, mw_u11, mw_u15, mw_u16, Nat.reduceLT, rup_s, rup_rup]
  rw [hpol, nI_toInt (by omega)]
  refine ⟨fun h => ?_, fun h => ?_, fun h => ?_, fun h => ?_⟩
  · have : pol = 0 := by omega
    subst this
    exact b_M_isBetter_1 ⟨b01, h0 rfl⟩
  · have : pol = 1 := by omega
    subst this
    exact b_M_isBetter_2 ⟨b11, h1 rfl⟩
  · have : pol = 2 := by omega
    subst this
    refine b_M_isBetter_3 ?_
    simp only [and_assoc, exists_and_left, exists_eq_left, exists_eq_left', Option.some.injEq, Value.int.injEq, Value.ref.injEq, Value.long.injEq, true_and, and_true, exists_eq, exists_true_left, mw_ob, mw_ia0, mw_ia2, mw_ia5, mw_ia6, mw_ia7, mw_ia8, mw_ia9, mw_ia10, mw_ia11, mw_ia15, mw_ia16, mF_0, mF_1, mF_2, mF_3, mF_4, mF_5, mF_6, mF_7, mF_8, mF_9, mF_10, mF_11, mF_12, mF_13, mF_14, mF_15, mF_16, mF_len, mF_s1, mF_s3, mF_s4, mF_s12, mF_s13, mF_s14, mw_uob, mw_u0, mw_u2, mw_u5, mw_u6, mw_u7, mw_u8, mw_u9, mw_u10, mw_u11, mw_u15, mw_u16, Nat.reduceLT, rup_s, rup_rup]
    refine s_M_pieceAt hb rfl ?_
    simp only [and_assoc, exists_and_left, exists_eq_left, exists_eq_left', Option.some.injEq, Value.int.injEq, Value.ref.injEq, Value.long.injEq, true_and, and_true, exists_eq, exists_true_left, mw_ob, mw_ia0, mw_ia2, mw_ia5, mw_ia6, mw_ia7, mw_ia8, mw_ia9, mw_ia10, mw_ia11, mw_ia15, mw_ia16, mF_0, mF_1, mF_2, mF_3, mF_4, mF_5, mF_6, mF_7, mF_8, mF_9, mF_10, mF_11, mF_12, mF_13, mF_14, mF_15, mF_16, mF_len, mF_s1, mF_s3, mF_s4, mF_s12, mF_s13, mF_s14, mw_uob, mw_u0, mw_u2, mw_u5, mw_u6, mw_u7, mw_u8, mw_u9, mw_u10, mw_u11, mw_u15, mw_u16, Nat.reduceLT, rup_s, rup_rup]
    refine ⟨vp_in_nI (by omega) (by decide), ?_⟩
    refine s_M_pieceAt hb rfl ?_
    simp only [and_assoc, exists_and_left, exists_eq_left, exists_eq_left', Option.some.injEq, Value.int.injEq, Value.ref.injEq, Value.long.injEq, true_and, and_true, exists_eq, exists_true_left, mw_ob, mw_ia0, mw_ia2, mw_ia5, mw_ia6, mw_ia7, mw_ia8, mw_ia9, mw_ia10, mw_ia11, mw_ia15, mw_ia16, mF_0, mF_1, mF_2, mF_3, mF_4, mF_5, mF_6, mF_7, mF_8, mF_9, mF_10, mF_11, mF_12, mF_13, mF_14, mF_15, mF_16, mF_len, mF_s1, mF_s3, mF_s4, mF_s12, mF_s13, mF_s14, mw_uob, mw_u0, mw_u2, mw_u5, mw_u6, mw_u7, mw_u8, mw_u9, mw_u10, mw_u11, mw_u15, mw_u16, Nat.reduceLT, rup_s, rup_rup]
    rw [nI_clamp (by omega), nI_clamp (by omega), e1, e3]
    refine ⟨vp_in_nI (by omega) (by decide), fun z => b_M_isBetter_4 (b_M_isBetter_5 ⟨b01, h0 ?_⟩), fun z => b_M_isBetter_5 ⟨b11, h1 ?_⟩⟩
    · exact decide_eq_false (Nat.not_lt.mpr ((nI_leI (by omega) (by omega)).mp z))
    · exact decide_eq_true (Nat.not_le.mp (fun y => z ((nI_leI (by omega) (by omega)).mpr y)))
  · have : pol = 3 := by omega
    subst this
    refine b_M_isBetter_6 ?_
    simp only [and_assoc, exists_and_left, exists_eq_left, exists_eq_left', Option.some.injEq, Value.int.injEq, Value.ref.injEq, Value.long.injEq, true_and, and_true, exists_eq, exists_true_left, mw_ob, mw_ia0, mw_ia2, mw_ia5, mw_ia6, mw_ia7, mw_ia8, mw_ia9, mw_ia10, mw_ia11, mw_ia15, mw_ia16, mF_0, mF_1, mF_2, mF_3, mF_4, mF_5, mF_6, mF_7, mF_8, mF_9, mF_10, mF_11, mF_12, mF_13, mF_14, mF_15, mF_16, mF_len, mF_s1, mF_s3, mF_s4, mF_s12, mF_s13, mF_s14, mw_uob, mw_u0, mw_u2, mw_u5, mw_u6, mw_u7, mw_u8, mw_u9, mw_u10, mw_u11, mw_u15, mw_u16, Nat.reduceLT, rup_s, rup_rup]
    refine s_M_pieceAt hb rfl ?_
    simp only [and_assoc, exists_and_left, exists_eq_left, exists_eq_left', Option.some.injEq, Value.int.injEq, Value.ref.injEq, Value.long.injEq, true_and, and_true, exists_eq, exists_true_left, mw_ob, mw_ia0, mw_ia2, mw_ia5, mw_ia6, mw_ia7, mw_ia8, mw_ia9, mw_ia10, mw_ia11, mw_ia15, mw_ia16, mF_0, mF_1, mF_2, mF_3, mF_4, mF_5, mF_6, mF_7, mF_8, mF_9, mF_10, mF_11, mF_12, mF_13, mF_14, mF_15, mF_16, mF_len, mF_s1, mF_s3, mF_s4, mF_s12, mF_s13, mF_s14, mw_uob, mw_u0, mw_u2, mw_u5, mw_u6, mw_u7, mw_u8, mw_u9, mw_u10, mw_u11, mw_u15, mw_u16, Nat.reduceLT, rup_s, rup_rup]
    rw [nI_1]
    refine ⟨vp_in_nI (by omega) (by decide), ?_⟩
    refine s_M_pieceAt hb rfl ?_
    simp only [and_assoc, exists_and_left, exists_eq_left, exists_eq_left', Option.some.injEq, Value.int.injEq, Value.ref.injEq, Value.long.injEq, true_and, and_true, exists_eq, exists_true_left, mw_ob, mw_ia0, mw_ia2, mw_ia5, mw_ia6, mw_ia7, mw_ia8, mw_ia9, mw_ia10, mw_ia11, mw_ia15, mw_ia16, mF_0, mF_1, mF_2, mF_3, mF_4, mF_5, mF_6, mF_7, mF_8, mF_9, mF_10, mF_11, mF_12, mF_13, mF_14, mF_15, mF_16, mF_len, mF_s1, mF_s3, mF_s4, mF_s12, mF_s13, mF_s14, mw_uob, mw_u0, mw_u2, mw_u5, mw_u6, mw_u7, mw_u8, mw_u9, mw_u10, mw_u11, mw_u15, mw_u16, Nat.reduceLT, rup_s, rup_rup]
    rw [nI_1, nI_clamp (by omega), nI_clamp (by omega), e2, e4]
    refine ⟨vp_in_nI (by omega) (by decide), fun z => b_M_isBetter_7 (b_M_isBetter_8 ⟨b01, h0 ?_⟩), fun z => b_M_isBetter_8 ⟨b11, h1 ?_⟩⟩
    · exact decide_eq_false (Nat.not_lt.mpr ((nI_leI (by omega) (by omega)).mp z))
    · exact decide_eq_true (Nat.not_le.mp (fun y => z ((nI_leI (by omega) (by omega)).mpr y)))
theorem f_chosen_loop {o a pol : Nat} (hb : c 12 = nI b) (hf : b + 710 ≤ 22416) (hp : MP g l) (ho : o < 2 ^ 30) (ha : g 4 = nI a) (ha2 : a < 2 ^ 30) (hpol : g 1 = nI pol) (hpol3 : pol ≤ 3) (hK : K (mw w q c (rup r 0 (pgf P b 710 g))) (some (.int (oM (chA a pol l o l.length))))) : ∀ (n k : Nat), k + n = l.length → zwp n_M_chosen 1 [(0, .ref q), (1, .int (nI o)), (2, .int (oM (chA a pol l o k))), (3, .int (nI k))] [] 0 0 (mw w q c (rup r 0 (pgf P b 710 g))) K := by
  intro n
  have hl6 := hp.2.1
  induction n with
  | zero =>
    intro k hk
    refine b_M_chosen_1 ?_
    simp only [and_assoc, exists_and_left, exists_eq_left, exists_eq_left', Option.some.injEq, Value.int.injEq, Value.ref.injEq, Value.long.injEq, true_and, and_true, exists_eq, exists_true_left, mw_ob, mw_ia0, mw_ia2, mw_ia5, mw_ia6, mw_ia7, mw_ia8, mw_ia9, mw_ia10, mw_ia11, mw_ia15, mw_ia16, mF_0, mF_1, mF_2, mF_3, mF_4, mF_5, mF_6, mF_7, mF_8, mF_9, mF_10, mF_11, mF_12, mF_13, mF_14, mF_15, mF_16, mF_len, mF_s1, mF_s3, mF_s4, mF_s12, mF_s13, mF_s14, mw_uob, mw_u0, mw_u2, mw_u5, mw_u6, mw_u7, mw_u8, mw_u9, mw_u10, mw_u11, mw_u15, mw_u16, Nat.reduceLT, rup_s, rup_rup]
    refine f_of hb (i := 5) rfl (by decide) hf ?_
    simp only [and_assoc, exists_and_left, exists_eq_left, exists_eq_left', Option.some.injEq, Value.int.injEq, Value.ref.injEq, Value.long.injEq, true_and, and_true, exists_eq, exists_true_left, mw_ob, mw_ia0, mw_ia2, mw_ia5, mw_ia6, mw_ia7, mw_ia8, mw_ia9, mw_ia10, mw_ia11, mw_ia15, mw_ia16, mF_0, mF_1, mF_2, mF_3, mF_4, mF_5, mF_6, mF_7, mF_8, mF_9, mF_10, mF_11, mF_12, mF_13, mF_14, mF_15, mF_16, mF_len, mF_s1, mF_s3, mF_s4, mF_s12, mF_s13, mF_s14, mw_uob, mw_u0, mw_u2, mw_u5, mw_u6, mw_u7, mw_u8, mw_u9, mw_u10, mw_u11, mw_u15, mw_u16, Nat.reduceLT, rup_s, rup_rup]
    rw [hp.1]
    refine ⟨fun _ => b_M_chosen_4 (by rw [show k = l.length by omega]; exact hK), fun z => absurd ((nI_leI (by omega) (by omega)).mpr (by omega)) z⟩
  | succ n ih =>
    intro k hk
    have next : ∀ x : Int32, x = oM (chA a pol l o (k + 1)) → zwp n_M_chosen 3 [(0, .ref q), (1, .int (nI o)), (2, .int x), (3, .int (nI k))] [] 0 0 (mw w q c (rup r 0 (pgf P b 710 g))) K := fun x hx => by
      refine b_M_chosen_3 ?_
      rw [hx, nI_1]
      exact ih (k + 1) (by omega)
    refine b_M_chosen_1 ?_
    simp only [and_assoc, exists_and_left, exists_eq_left, exists_eq_left', Option.some.injEq, Value.int.injEq, Value.ref.injEq, Value.long.injEq, true_and, and_true, exists_eq, exists_true_left, mw_ob, mw_ia0, mw_ia2, mw_ia5, mw_ia6, mw_ia7, mw_ia8, mw_ia9, mw_ia10, mw_ia11, mw_ia15, mw_ia16, mF_0, mF_1, mF_2, mF_3, mF_4, mF_5, mF_6, mF_7, mF_8, mF_9, mF_10, mF_11, mF_12, mF_13, mF_14, mF_15, mF_16, mF_len, mF_s1, mF_s3, mF_s4, mF_s12, mF_s13, mF_s14, mw_uob, mw_u0, mw_u2, mw_u5, mw_u6, mw_u7, mw_u8, mw_u9, mw_u10, mw_u11, mw_u15, mw_u16, Nat.reduceLT, rup_s, rup_rup]
    refine f_of hb (i := 5) rfl (by decide) hf ?_
    simp only [and_assoc, exists_and_left, exists_eq_left, exists_eq_left', Option.some.injEq, Value.int.injEq, Value.ref.injEq, Value.long.injEq, true_and, and_true, exists_eq, exists_true_left, mw_ob, mw_ia0, mw_ia2, mw_ia5, mw_ia6, mw_ia7, mw_ia8, mw_ia9, mw_ia10, mw_ia11, mw_ia15, mw_ia16, mF_0, mF_1, mF_2, mF_3, mF_4, mF_5, mF_6, mF_7, mF_8, mF_9, mF_10, mF_11, mF_12, mF_13, mF_14, mF_15, mF_16, mF_len, mF_s1, mF_s3, mF_s4, mF_s12, mF_s13, mF_s14, mw_uob, mw_u0, mw_u2, mw_u5, mw_u6, mw_u7, mw_u8, mw_u9, mw_u10, mw_u11, mw_u15, mw_u16, Nat.reduceLT, rup_s, rup_rup]
    rw [hp.1]
    refine ⟨fun z => absurd ((nI_leI (by omega) (by omega)).mp z) (by omega), fun _ => ?_⟩
    refine f_covers hb hf hp (show k < l.length by omega) rfl rfl ho ha ha2 (fun h1 h2 => ?_) (fun h1 => ?_)
    · simp only [and_assoc, exists_and_left, exists_eq_left, exists_eq_left', Option.some.injEq, Value.int.injEq, Value.ref.injEq, Value.long.injEq, true_and, and_true, exists_eq, exists_true_left, mw_ob, mw_ia0, mw_ia2, mw_ia5, mw_ia6, mw_ia7, mw_ia8, mw_ia9, mw_ia10, mw_ia11, mw_ia15, mw_ia16, mF_0, mF_1, mF_2, mF_3, mF_4, mF_5, mF_6, mF_7, mF_8, mF_9, mF_10, mF_11, mF_12, mF_13, mF_14, mF_15, mF_16, mF_len, mF_s1, mF_s3, mF_s4, mF_s12, mF_s13, mF_s14, mw_uob, mw_u0, mw_u2, mw_u5, mw_u6, mw_u7, mw_u8, mw_u9, mw_u10, mw_u11, mw_u15, mw_u16, Nat.reduceLT, rup_s, rup_rup]
      refine if0 ?_
      cases hch : chA a pol l o k with
      | none =>
        refine ⟨fun _ => b_M_chosen_2 (next _ ?_), fun z => absurd rfl z⟩
        rw [chA_succ, if_pos ⟨h1, h2⟩, hch]; rfl
      | some j =>
        have hj : j < k := by
          unfold chA at hch
          rw [if_pos h1] at hch
          exact (aCh_lt hch).1
        refine ⟨fun z => absurd z (nI_ne9 (by omega)), fun _ => ?_⟩
        refine f_isBetter hb hf hp (show k < l.length by omega) (show j < l.length by omega) rfl rfl hpol hpol3 (fun h3 => ?_) (fun h3 => ?_)
        · simp only [and_assoc, exists_and_left, exists_eq_left, exists_eq_left', Option.some.injEq, Value.int.injEq, Value.ref.injEq, Value.long.injEq, true_and, and_true, exists_eq, exists_true_left, mw_ob, mw_ia0, mw_ia2, mw_ia5, mw_ia6, mw_ia7, mw_ia8, mw_ia9, mw_ia10, mw_ia11, mw_ia15, mw_ia16, mF_0, mF_1, mF_2, mF_3, mF_4, mF_5, mF_6, mF_7, mF_8, mF_9, mF_10, mF_11, mF_12, mF_13, mF_14, mF_15, mF_16, mF_len, mF_s1, mF_s3, mF_s4, mF_s12, mF_s13, mF_s14, mw_uob, mw_u0, mw_u2, mw_u5, mw_u6, mw_u7, mw_u8, mw_u9, mw_u10, mw_u11, mw_u15, mw_u16, Nat.reduceLT, rup_s, rup_rup]
          refine if0 (b_M_chosen_2 (next _ ?_))
          rw [chA_succ, if_pos ⟨h1, h2⟩, hch]
          dsimp only
          rw [if_pos h3]; rfl
        · simp only [and_assoc, exists_and_left, exists_eq_left, exists_eq_left', Option.some.injEq, Value.int.injEq, Value.ref.injEq, Value.long.injEq, true_and, and_true, exists_eq, exists_true_left, mw_ob, mw_ia0, mw_ia2, mw_ia5, mw_ia6, mw_ia7, mw_ia8, mw_ia9, mw_ia10, mw_ia11, mw_ia15, mw_ia16, mF_0, mF_1, mF_2, mF_3, mF_4, mF_5, mF_6, mF_7, mF_8, mF_9, mF_10, mF_11, mF_12, mF_13, mF_14, mF_15, mF_16, mF_len, mF_s1, mF_s3, mF_s4, mF_s12, mF_s13, mF_s14, mw_uob, mw_u0, mw_u2, mw_u5, mw_u6, mw_u7, mw_u8, mw_u9, mw_u10, mw_u11, mw_u15, mw_u16, Nat.reduceLT, rup_s, rup_rup]
          refine if1 (next _ ?_)
          rw [chA_succ, if_pos ⟨h1, h2⟩, hch]
          dsimp only
          rw [if_neg (by rw [h3]; decide)]
    · simp only [and_assoc, exists_and_left, exists_eq_left, exists_eq_left', Option.some.injEq, Value.int.injEq, Value.ref.injEq, Value.long.injEq, true_and, and_true, exists_eq, exists_true_left, mw_ob, mw_ia0, mw_ia2, mw_ia5, mw_ia6, mw_ia7, mw_ia8, mw_ia9, mw_ia10, mw_ia11, mw_ia15, mw_ia16, mF_0, mF_1, mF_2, mF_3, mF_4, mF_5, mF_6, mF_7, mF_8, mF_9, mF_10, mF_11, mF_12, mF_13, mF_14, mF_15, mF_16, mF_len, mF_s1, mF_s3, mF_s4, mF_s12, mF_s13, mF_s14, mw_uob, mw_u0, mw_u2, mw_u5, mw_u6, mw_u7, mw_u8, mw_u9, mw_u10, mw_u11, mw_u15, mw_u16, Nat.reduceLT, rup_s, rup_rup]
      refine if1 (next _ ?_)
      rw [chA_succ, if_neg h1]
theorem f_chosen {x : Int32} {o a pol : Nat} (hb : c 12 = nI b) (hf : b + 710 ≤ 22416) (hp : MP g l) (hx : x = nI o) (ho : o < 2 ^ 30) (ha : g 4 = nI a) (ha2 : a < 2 ^ 30) (hpol : g 1 = nI pol) (hpol3 : pol ≤ 3) (hK : K (mw w q c (rup r 0 (pgf P b 710 g))) (some (.int (oM (chA a pol l o l.length))))) : zcall n_M_chosen [.ref q, .int x] (mw w q c (rup r 0 (pgf P b 710 g))) K := by
  subst hx
  refine e_M_chosen (b_M_chosen_0 ?_)
  have h := f_chosen_loop hb hf hp ho ha ha2 hpol hpol3 hK l.length 0 (by omega)
  have e : oM (chA a pol l o 0) = -9 := by unfold chA; split <;> rfl
  rw [e] at h
  exact h
theorem f_isConflict_loop {o a : Nat} (hb : c 12 = nI b) (hf : b + 710 ≤ 22416) (hp : MP g l) (ho : o < 2 ^ 30) (ha : g 4 = nI a) (hao : a ≤ o) (hK : K (mw w q c (rup r 0 (pgf P b 710 g))) (some (.int (oob (aConf l o))))) : ∀ (n k : Nat), k + n = l.length → zwp n_M_isConflict 1 [(0, .ref q), (1, .int (nI o)), (2, .int (oM (lastC l o k))), (3, .int (oob (cfK l o k))), (4, .int (nI k))] [] 0 0 (mw w q c (rup r 0 (pgf P b 710 g))) K := by
  intro n
  have hl6 := hp.2.1
  induction n with
  | zero =>
    intro k hk
    refine b_M_isConflict_1 ?_
    simp only [and_assoc, exists_and_left, exists_eq_left, exists_eq_left', Option.some.injEq, Value.int.injEq, Value.ref.injEq, Value.long.injEq, true_and, and_true, exists_eq, exists_true_left, mw_ob, mw_ia0, mw_ia2, mw_ia5, mw_ia6, mw_ia7, mw_ia8, mw_ia9, mw_ia10, mw_ia11, mw_ia15, mw_ia16, mF_0, mF_1, mF_2, mF_3, mF_4, mF_5, mF_6, mF_7, mF_8, mF_9, mF_10, mF_11, mF_12, mF_13, mF_14, mF_15, mF_16, mF_len, mF_s1, mF_s3, mF_s4, mF_s12, mF_s13, mF_s14, mw_uob, mw_u0, mw_u2, mw_u5, mw_u6, mw_u7, mw_u8, mw_u9, mw_u10, mw_u11, mw_u15, mw_u16, Nat.reduceLT, rup_s, rup_rup]
    refine f_of hb (i := 5) rfl (by decide) hf ?_
    simp only [and_assoc, exists_and_left, exists_eq_left, exists_eq_left', Option.some.injEq, Value.int.injEq, Value.ref.injEq, Value.long.injEq, true_and, and_true, exists_eq, exists_true_left, mw_ob, mw_ia0, mw_ia2, mw_ia5, mw_ia6, mw_ia7, mw_ia8, mw_ia9, mw_ia10, mw_ia11, mw_ia15, mw_ia16, mF_0, mF_1, mF_2, mF_3, mF_4, mF_5, mF_6, mF_7, mF_8, mF_9, mF_10, mF_11, mF_12, mF_13, mF_14, mF_15, mF_16, mF_len, mF_s1, mF_s3, mF_s4, mF_s12, mF_s13, mF_s14, mw_uob, mw_u0, mw_u2, mw_u5, mw_u6, mw_u7, mw_u8, mw_u9, mw_u10, mw_u11, mw_u15, mw_u16, Nat.reduceLT, rup_s, rup_rup]
    rw [hp.1]
    refine ⟨fun _ => b_M_isConflict_6 ?_, fun z => absurd ((nI_leI (by omega) (by omega)).mpr (by omega)) z⟩
    rw [show k = l.length by omega, cfK_conf]
    exact ⟨by cases aConf l o <;> simp [oob], hK⟩
  | succ n ih =>
    intro k hk
    have next : ∀ x y : Int32, x = oM (lastC l o (k + 1)) → y = oob (cfK l o (k + 1)) → zwp n_M_isConflict 5 [(0, .ref q), (1, .int (nI o)), (2, .int x), (3, .int y), (4, .int (nI k))] [] 0 0 (mw w q c (rup r 0 (pgf P b 710 g))) K := fun x y hx hy => by
      refine b_M_isConflict_5 ?_
      rw [hx, hy, nI_1]
      exact ih (k + 1) (by omega)
    refine b_M_isConflict_1 ?_
    simp only [and_assoc, exists_and_left, exists_eq_left, exists_eq_left', Option.some.injEq, Value.int.injEq, Value.ref.injEq, Value.long.injEq, true_and, and_true, exists_eq, exists_true_left, mw_ob, mw_ia0, mw_ia2, mw_ia5, mw_ia6, mw_ia7, mw_ia8, mw_ia9, mw_ia10, mw_ia11, mw_ia15, mw_ia16, mF_0, mF_1, mF_2, mF_3, mF_4, mF_5, mF_6, mF_7, mF_8, mF_9, mF_10, mF_11, mF_12, mF_13, mF_14, mF_15, mF_16, mF_len, mF_s1, mF_s3, mF_s4, mF_s12, mF_s13, mF_s14, mw_uob, mw_u0, mw_u2, mw_u5, mw_u6, mw_u7, mw_u8, mw_u9, mw_u10, mw_u11, mw_u15, mw_u16, Nat.reduceLT, rup_s, rup_rup]
    refine f_of hb (i := 5) rfl (by decide) hf ?_
    simp only [and_assoc, exists_and_left, exists_eq_left, exists_eq_left', Option.some.injEq, Value.int.injEq, Value.ref.injEq, Value.long.injEq, true_and, and_true, exists_eq, exists_true_left, mw_ob, mw_ia0, mw_ia2, mw_ia5, mw_ia6, mw_ia7, mw_ia8, mw_ia9, mw_ia10, mw_ia11, mw_ia15, mw_ia16, mF_0, mF_1, mF_2, mF_3, mF_4, mF_5, mF_6, mF_7, mF_8, mF_9, mF_10, mF_11, mF_12, mF_13, mF_14, mF_15, mF_16, mF_len, mF_s1, mF_s3, mF_s4, mF_s12, mF_s13, mF_s14, mw_uob, mw_u0, mw_u2, mw_u5, mw_u6, mw_u7, mw_u8, mw_u9, mw_u10, mw_u11, mw_u15, mw_u16, Nat.reduceLT, rup_s, rup_rup]
    rw [hp.1]
    refine ⟨fun z => absurd ((nI_leI (by omega) (by omega)).mp z) (by omega), fun _ => ?_⟩
    refine f_covers hb hf hp (show k < l.length by omega) rfl rfl ho ha (by omega) (fun _ h2 => ?_) (fun h1 => ?_)
    · simp only [and_assoc, exists_and_left, exists_eq_left, exists_eq_left', Option.some.injEq, Value.int.injEq, Value.ref.injEq, Value.long.injEq, true_and, and_true, exists_eq, exists_true_left, mw_ob, mw_ia0, mw_ia2, mw_ia5, mw_ia6, mw_ia7, mw_ia8, mw_ia9, mw_ia10, mw_ia11, mw_ia15, mw_ia16, mF_0, mF_1, mF_2, mF_3, mF_4, mF_5, mF_6, mF_7, mF_8, mF_9, mF_10, mF_11, mF_12, mF_13, mF_14, mF_15, mF_16, mF_len, mF_s1, mF_s3, mF_s4, mF_s12, mF_s13, mF_s14, mw_uob, mw_u0, mw_u2, mw_u5, mw_u6, mw_u7, mw_u8, mw_u9, mw_u10, mw_u11, mw_u15, mw_u16, Nat.reduceLT, rup_s, rup_rup]
      have el : oM (lastC l o (k + 1)) = nI k := by rw [lastC_succ, if_pos h2]; rfl
      refine if0 ?_
      cases hcf : cfK l o k with
      | true =>
        refine ⟨fun _ => b_M_isConflict_2 (b_M_isConflict_4 (next _ _ el.symm ?_)), fun z => absurd z (by decide)⟩
        rw [cfK_succ, if_pos h2, hcf]; rfl
      | false =>
        refine ⟨fun z => absurd rfl z, fun _ => ?_⟩
        cases hlc : lastC l o k with
        | none =>
          refine ⟨fun _ => b_M_isConflict_3 (b_M_isConflict_4 (next _ _ el.symm ?_)), fun z => absurd rfl z⟩
          rw [cfK_succ, if_pos h2, hcf, hlc]; rfl
        | some j =>
          have hj := lastC_lt hlc
          refine ⟨fun z => absurd z (nI_ne9 (by omega)), fun _ => ?_⟩
          refine f_byteOf hb hf hp (show k < l.length by omega) rfl rfl h2 ?_
          simp only [and_assoc, exists_and_left, exists_eq_left, exists_eq_left', Option.some.injEq, Value.int.injEq, Value.ref.injEq, Value.long.injEq, true_and, and_true, exists_eq, exists_true_left, mw_ob, mw_ia0, mw_ia2, mw_ia5, mw_ia6, mw_ia7, mw_ia8, mw_ia9, mw_ia10, mw_ia11, mw_ia15, mw_ia16, mF_0, mF_1, mF_2, mF_3, mF_4, mF_5, mF_6, mF_7, mF_8, mF_9, mF_10, mF_11, mF_12, mF_13, mF_14, mF_15, mF_16, mF_len, mF_s1, mF_s3, mF_s4, mF_s12, mF_s13, mF_s14, mw_uob, mw_u0, mw_u2, mw_u5, mw_u6, mw_u7, mw_u8, mw_u9, mw_u10, mw_u11, mw_u15, mw_u16, Nat.reduceLT, rup_s, rup_rup]
          refine f_byteOf hb hf hp (show j < l.length by omega) rfl rfl hj.2 ?_
          simp only [and_assoc, exists_and_left, exists_eq_left, exists_eq_left', Option.some.injEq, Value.int.injEq, Value.ref.injEq, Value.long.injEq, true_and, and_true, exists_eq, exists_true_left, mw_ob, mw_ia0, mw_ia2, mw_ia5, mw_ia6, mw_ia7, mw_ia8, mw_ia9, mw_ia10, mw_ia11, mw_ia15, mw_ia16, mF_0, mF_1, mF_2, mF_3, mF_4, mF_5, mF_6, mF_7, mF_8, mF_9, mF_10, mF_11, mF_12, mF_13, mF_14, mF_15, mF_16, mF_len, mF_s1, mF_s3, mF_s4, mF_s12, mF_s13, mF_s14, mw_uob, mw_u0, mw_u2, mw_u5, mw_u6, mw_u7, mw_u8, mw_u9, mw_u10, mw_u11, mw_u15, mw_u16, Nat.reduceLT, rup_s, rup_rup]
          refine ⟨fun z => b_M_isConflict_3 (b_M_isConflict_4 (next _ _ el.symm ?_)), fun z => b_M_isConflict_2 (b_M_isConflict_4 (next _ _ el.symm ?_))⟩
          · rw [cfK_succ, if_pos h2, hcf, hlc]; dsimp only; rw [z]; simp [oob]
          · rw [cfK_succ, if_pos h2, hcf, hlc]; dsimp only
            rw [show (aByte (aPc l k) o == aByte (aPc l j) o) = false by simpa using z]; rfl
    · simp only [and_assoc, exists_and_left, exists_eq_left, exists_eq_left', Option.some.injEq, Value.int.injEq, Value.ref.injEq, Value.long.injEq, true_and, and_true, exists_eq, exists_true_left, mw_ob, mw_ia0, mw_ia2, mw_ia5, mw_ia6, mw_ia7, mw_ia8, mw_ia9, mw_ia10, mw_ia11, mw_ia15, mw_ia16, mF_0, mF_1, mF_2, mF_3, mF_4, mF_5, mF_6, mF_7, mF_8, mF_9, mF_10, mF_11, mF_12, mF_13, mF_14, mF_15, mF_16, mF_len, mF_s1, mF_s3, mF_s4, mF_s12, mF_s13, mF_s14, mw_uob, mw_u0, mw_u2, mw_u5, mw_u6, mw_u7, mw_u8, mw_u9, mw_u10, mw_u11, mw_u15, mw_u16, Nat.reduceLT, rup_s, rup_rup]
      have hc : aCov (aPc l k) o = false := by
        cases hc : aCov (aPc l k) o with
        | false => rfl
        | true => exact absurd ⟨hao, hc⟩ h1
      refine if1 (next _ _ ?_ ?_)
      · rw [lastC_succ, if_neg (by rw [hc]; decide)]
      · rw [cfK_succ, if_neg (by rw [hc]; decide)]
theorem f_isConflict {x : Int32} {o a : Nat} (hb : c 12 = nI b) (hf : b + 710 ≤ 22416) (hp : MP g l) (hx : x = nI o) (ho : o < 2 ^ 30) (ha : g 4 = nI a) (hao : a ≤ o) (hK : K (mw w q c (rup r 0 (pgf P b 710 g))) (some (.int (oob (aConf l o))))) : zcall n_M_isConflict [.ref q, .int x] (mw w q c (rup r 0 (pgf P b 710 g))) K := by
  subst hx
  exact e_M_isConflict (b_M_isConflict_0 (f_isConflict_loop hb hf hp ho ha hao hK l.length 0 (by omega)))
end MPieces
