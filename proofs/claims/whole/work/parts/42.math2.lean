/-! THE MATHEMATICAL STATE: what reads a flow: node, possible nodes (bits), characters, whether behind a blank, all finds, its finds, its doubtful ones, words found (bits) -/
abbrev aS : Type := Nat × Nat × aHi × Bool × List aFd × Nat × Nat × Nat
def lett (cn : Nat) : Bool := decide (97 ≤ cn) && decide (cn ≤ 122)
def aNd (A : aAU) (nd cn : Nat) : Nat := if lett cn then A.2.1 nd (cn - 97) else 0
def aPs (A : aAU) (ps cn : Nat) : Nat := if lett cn then stepSet A ps (cn - 97) else 1
def aDb (A : aAU) (nd ps : Nat) : Nat := anyS A ps &&& (63 ^^^ A.2.2.1 nd)
def aRead (A : aAU) (key : Int32) (S : aS) (cn : Nat) (st e : Int32) : aS :=
  (aNd A S.1 cn, aPs A S.2.1 cn, (nI cn, st) :: S.2.2.1, S.2.2.2.1,
   fD key (aDb A (aNd A S.1 cn) (aPs A S.2.1 cn)) e (fS A key (A.2.2.1 (aNd A S.1 cn)) ((nI cn, st) :: S.2.2.1) e S.2.2.2.2.1 6) 6,
   S.2.2.2.2.2.1 + pc6 (A.2.2.1 (aNd A S.1 cn)) 6, S.2.2.2.2.2.2.1 + pc6 (aDb A (aNd A S.1 cn) (aPs A S.2.1 cn)) 6, S.2.2.2.2.2.2.2 ||| A.2.2.1 (aNd A S.1 cn))
def chLow (fl cn : Nat) : Nat := if fl.testBit 0 && decide (65 ≤ cn) && decide (cn ≤ 90) then cn + 32 else cn
def chDrop (fl : Nat) (bl : Bool) (cn : Nat) : Bool := (fl.testBit 3 && (decide (cn = 45) || decide (cn = 46))) || (fl.testBit 2 && decide (cn = 32) && bl)
def sBl (S : aS) (bl : Bool) : aS := (S.1, S.2.1, S.2.2.1, bl, S.2.2.2.2)
def aChar (A : aAU) (fl : Nat) (key : Int32) (S : aS) (cn : Nat) (st e : Int32) : aS := if chDrop fl S.2.2.2.1 (chLow fl cn) then S else aRead A key (sBl S (decide (chLow fl cn = 32))) (chLow fl cn) st e
theorem fS_len {A : aAU} {key : Int32} {sure : Nat} {hist : aHi} {e : Int32} {fh : List aFd} : ∀ {v : Nat}, (fS A key sure hist e fh v).length = fh.length + pc6 sure v
  | 0 => rfl
  | v + 1 => by
    have ih := fS_len (A := A) (key := key) (sure := sure) (hist := hist) (e := e) (fh := fh) (v := v)
    show (if sure.testBit v then _ else _ : List aFd).length = _
    rw [pc6_succ]
    split
    · rw [List.length_cons, ih]; omega
    · rw [ih]; omega
theorem fD_len {key : Int32} {d : Nat} {e : Int32} {fh : List aFd} : ∀ {v : Nat}, (fD key d e fh v).length = fh.length + pc6 d v
  | 0 => rfl
  | v + 1 => by
    have ih := fD_len (key := key) (d := d) (e := e) (fh := fh) (v := v)
    show (if d.testBit v then _ else _ : List aFd).length = _
    rw [pc6_succ]
    split
    · rw [List.length_cons, ih]; omega
    · rw [ih]; omega
theorem pc6_le {m : Nat} : ∀ {v : Nat}, pc6 m v ≤ v
  | 0 => Nat.le_refl _
  | v + 1 => by
    rw [pc6_succ]
    have := pc6_le (m := m) (v := v)
    split <;> omega
/-- how a state of reading may be: of the automaton, and its finds' first indices no NONE -/
def sOk (A : aAU) (S : aS) : Prop := S.1 < A.1 ∧ S.2.1 < 2 ^ 49 ∧ (∀ k, (hiA S.2.2.1 k).2 ≠ -9) ∧ S.2.2.2.2.2.2.2 < 64 ∧ dOk A S.2.2.1.length S.1
theorem aNd_lt {A : aAU} {nd cn : Nat} (hA : auOk A) (h : nd < A.1) : aNd A nd cn < A.1 := by
  unfold aNd
  split
  · rename_i hl
    simp only [lett, Bool.and_eq_true, decide_eq_true_eq] at hl
    exact hA.2.2.1 _ _ h (by omega)
  · exact hA.1
theorem aNd_d {A : aAU} {k nd cn : Nat} (hd : dOk A k nd) (h : nd < A.1) : dOk A (k + 1) (aNd A nd cn) := by
  unfold aNd
  split
  · rename_i hl
    simp only [lett, Bool.and_eq_true, decide_eq_true_eq] at hl
    exact hd.next h (by omega)
  · exact hd.zero _
theorem aPs_lt {A : aAU} {ps cn : Nat} (hA : auOk A) : aPs A ps cn < 2 ^ 49 := by
  unfold aPs
  split
  · rename_i hl
    simp only [lett, Bool.and_eq_true, decide_eq_true_eq] at hl
    exact stK_lt hA (by omega) (Nat.le_refl _)
  · decide
theorem hiA_ne {h : aHi} {x st : Int32} (h1 : ∀ k, (hiA h k).2 ≠ -9) (h2 : st ≠ -9) : ∀ k, (hiA ((x, st) :: h) k).2 ≠ -9
  | 0 => h2
  | k + 1 => h1 k
theorem aRead_ok {A : aAU} {key : Int32} {S : aS} {cn : Nat} {st e : Int32} (hA : auOk A) (h : sOk A S) (hst : st ≠ -9) : sOk A (aRead A key S cn st e) :=
  ⟨aNd_lt hA h.1, aPs_lt hA, hiA_ne h.2.2.1 hst, Nat.or_lt_two_pow (n := 6) h.2.2.2.1 (hA.2.2.2.1 _ (aNd_lt hA h.1)), aNd_d h.2.2.2.2 h.1⟩
theorem aChar_ok {A : aAU} {fl : Nat} {key : Int32} {S : aS} {cn : Nat} {st e : Int32} (hA : auOk A) (h : sOk A S) (hst : st ≠ -9) : sOk A (aChar A fl key S cn st e) := by
  unfold aChar
  split
  · exact h
  · exact aRead_ok hA (S := sBl S _) h hst
