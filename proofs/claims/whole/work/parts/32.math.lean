/-! THE MATHEMATICAL STATE: pieces of a flow -/
abbrev aP : Type := Nat × List Int32
def aCov (p : aP) (o : Nat) : Bool := decide (p.1 ≤ o) && decide (o < p.1 + p.2.length)
def aByte (p : aP) (o : Nat) : Int32 := p.2.getD (o - p.1) 0
/-- is the later piece p preferred to q -/
def aBet (pol : Nat) (p q : aP) : Bool := match pol with
  | 0 => false
  | 1 => true
  | 2 => decide (p.1 < q.1)
  | _ => decide (q.2.length < p.2.length)
def aPc (l : List aP) (i : Nat) : aP := l.getD i (0, [])
/-- the piece that is chosen among the first k -/
def aCh (pol : Nat) (l : List aP) (o : Nat) : Nat → Option Nat
  | 0 => none
  | k + 1 => match aCh pol l o k with
    | none => if aCov (aPc l k) o then some k else none
    | some b => if aCov (aPc l k) o && aBet pol (aPc l k) (aPc l b) then some k else some b
def aChosen (pol : Nat) (l : List aP) (o : Nat) : Option Nat := aCh pol l o l.length
def aAny (l : List aP) (o : Nat) : Bool := l.any (fun p => aCov p o)
def aConf (l : List aP) (o : Nat) : Bool := l.any (fun p => aCov p o && l.any (fun q => aCov q o && !(aByte p o == aByte q o)))
def aDrop (o : Nat) (l : List aP) : List aP := l.filter (fun p => decide (o < p.1 + p.2.length))
def aOk (p : aP) : Prop := p.1 ≤ 999 ∧ 1 ≤ p.2.length ∧ p.2.length ≤ 40 ∧ ∀ b ∈ p.2, ∃ n : Nat, b = nI n ∧ 32 ≤ n ∧ n ≤ 126
theorem aCov_iff {p : aP} {o : Nat} : aCov p o = true ↔ p.1 ≤ o ∧ o < p.1 + p.2.length := by simp [aCov]
theorem aCh_lt {pol : Nat} {l : List aP} {o : Nat} : ∀ {k b : Nat}, aCh pol l o k = some b → b < k ∧ aCov (aPc l b) o = true
  | 0, b, h => by cases h
  | k + 1, b, h => by
    unfold aCh at h
    split at h
    · split at h
      · cases h; exact ⟨by omega, by assumption⟩
      · cases h
    · rename_i b' hb
      split at h
      · rename_i hc
        cases h
        simp only [Bool.and_eq_true] at hc
        exact ⟨by omega, hc.1⟩
      · cases h
        have := aCh_lt hb
        exact ⟨by omega, this.2⟩
theorem aCh_none {pol : Nat} {l : List aP} {o : Nat} : ∀ {k : Nat}, aCh pol l o k = none ↔ ∀ i, i < k → aCov (aPc l i) o = false
  | 0 => ⟨fun _ i h => absurd h (by omega), fun _ => rfl⟩
  | k + 1 => by
    unfold aCh
    cases hb : aCh pol l o k with
    | none =>
      have ih := (aCh_none (pol := pol) (l := l) (o := o) (k := k)).mp hb
      dsimp only
      constructor
      · intro h i hi
        split at h
        · cases h
        · rename_i hc
          by_cases hik : i = k
          · rw [hik]; simpa using hc
          · exact ih i (by omega)
      · intro h
        rw [if_neg (by rw [h k (by omega)]; decide)]
    | some b =>
      have hb2 := aCh_lt hb
      dsimp only
      constructor
      · intro h
        split at h <;> cases h
      · intro h
        rw [h b (by omega)] at hb2
        exact absurd hb2.2 (by decide)
theorem aPc_mem {l : List aP} {i : Nat} (h : i < l.length) : aPc l i ∈ l := by
  unfold aPc
  rw [List.getD_eq_getElem?_getD, List.getElem?_eq_getElem h]
  exact List.getElem_mem h
theorem aAny_iff {l : List aP} {o : Nat} : aAny l o = true ↔ ∃ i, i < l.length ∧ aCov (aPc l i) o = true := by
  unfold aAny
  rw [List.any_eq_true]
  constructor
  · rintro ⟨p, hp, hc⟩
    obtain ⟨i, hi, rfl⟩ := List.getElem_of_mem hp
    exact ⟨i, hi, by unfold aPc; rw [List.getD_eq_getElem?_getD, List.getElem?_eq_getElem hi]; exact hc⟩
  · rintro ⟨i, hi, hc⟩
    exact ⟨aPc l i, aPc_mem hi, hc⟩
theorem aChosen_none {pol : Nat} {l : List aP} {o : Nat} : aChosen pol l o = none ↔ aAny l o = false := by
  unfold aChosen
  rw [aCh_none]
  constructor
  · intro h
    cases ha : aAny l o with
    | false => rfl
    | true =>
      obtain ⟨i, hi, hc⟩ := aAny_iff.mp ha
      rw [h i hi] at hc
      cases hc
  · intro h i hi
    cases hc : aCov (aPc l i) o with
    | false => rfl
    | true =>
      rw [aAny_iff.mpr ⟨i, hi, hc⟩] at h
      cases h
/-- an index or none, as the model and the class tell it -/
def oM (x : Option Nat) : Int32 := match x with
  | none => -9
  | some k => nI k
def oC (x : Option Nat) : Int32 := match x with
  | none => -1
  | some k => nI k
theorem nI_ne9 {n : Nat} (h : n < 2 ^ 31) : ¬ nI n = -9 := fun e => by
  have := congrArg Int32.toInt e
  rw [nI_toInt h] at this
  exact absurd this (by rw [show (-9 : Int32).toInt = -9 by decide]; omega)
theorem nI_ne1 {n : Nat} (h : n < 2 ^ 31) : ¬ nI n = -1 := fun e => by
  have := congrArg Int32.toInt e
  rw [nI_toInt h] at this
  exact absurd this (by rw [show (-1 : Int32).toInt = -1 by decide]; omega)
theorem rup_rup {r : Nat → Nat → Int32} {k : Nat} {f g : Nat → Int32} : rup (rup r k f) k g = rup r k g := by
  funext j
  unfold rup
  split <;> rfl
/-- a stretch of a page -/
def pgf (P : Nat → Int32) (b n : Nat) (g : Nat → Int32) : Nat → Int32 := fun i => if b ≤ i ∧ i < b + n then g (i - b) else P i
theorem pgf_in {P g : Nat → Int32} {b n k : Nat} (h : k < n) : pgf P b n g (b + k) = g k := by
  unfold pgf
  rw [if_pos ⟨by omega, by omega⟩, Nat.add_sub_cancel_left]
theorem pgf_at {P g : Nat → Int32} {b n k i : Nat} (hi : i = b + k) (h : k < n) : pgf P b n g i = g k := by
  rw [hi]; exact pgf_in h
theorem pgf_out {P g : Nat → Int32} {b n i : Nat} (h : i < b ∨ b + n ≤ i) : pgf P b n g i = P i := by
  unfold pgf
  rw [if_neg (by omega)]
theorem pgf_upd {P g : Nat → Int32} {b n k i : Nat} {v : Int32} (hi : i = b + k) (h : k < n) : upd (pgf P b n g) i v = pgf P b n (upd g k v) := by
  subst hi
  funext j
  show (if j = b + k then v else if b ≤ j ∧ j < b + n then g (j - b) else P j) = if b ≤ j ∧ j < b + n then (if j - b = k then v else g (j - b)) else P j
  by_cases h1 : j = b + k
  · rw [if_pos h1, if_pos (by omega), if_pos (by omega)]
  · rw [if_neg h1]
    by_cases h2 : b ≤ j ∧ j < b + n
    · rw [if_pos h2, if_pos h2, if_neg (by omega)]
    · rw [if_neg h2, if_neg h2]
theorem pgf_updO {P g : Nat → Int32} {b n i : Nat} {v : Int32} (h : i < b ∨ b + n ≤ i) : upd (pgf P b n g) i v = pgf (upd P i v) b n g := by
  funext j
  show (if j = i then v else if b ≤ j ∧ j < b + n then g (j - b) else P j) = if b ≤ j ∧ j < b + n then g (j - b) else (if j = i then v else P j)
  by_cases h1 : j = i
  · rw [if_pos h1, if_neg (by omega), if_pos h1]
  · rw [if_neg h1, if_neg h1]
