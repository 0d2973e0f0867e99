/-! THE MODEL: finds -/
abbrev aFd : Type := Int32 × Int32 × Int32 × Int32
def fdc (f : aFd) : Nat → Int32
  | 0 => f.1
  | 1 => f.2.1
  | 2 => f.2.2.1
  | _ => f.2.2.2
def fdAt (fh : List aFd) (i : Nat) : aFd := fh.getD i (0, 0, 0, 0)
def isD (f : aFd) : Bool := f.2.2.1 == -9
def fdS (fh : List aFd) : Nat := fh.countP (fun f => !isD f)
def fdD (fh : List aFd) : Nat := fh.countP isD
def HFm (P : Nat → Int32) (fh : List aFd) (m : Nat) : Prop := P 62 = nI m ∧ P 63 = nI (fdS fh) ∧ P 64 = nI (fdD fh) ∧ ∀ i j, i < m → j < 4 → P (66 + 4 * (m - 1 - i) + j) = fdc (fdAt fh i) j
def HF (P : Nat → Int32) (fh : List aFd) : Prop := HFm P fh (min 30 fh.length)
def sh4 (P : Nat → Int32) (e : Nat) : Nat → Int32 := fun i => if 66 ≤ i ∧ i < e then P (i + 4) else P i
theorem sh4_step {P : Nat → Int32} {i : Nat} (h : 66 ≤ i) : upd (sh4 P i) i (sh4 P i (i + 4)) = sh4 P (i + 1) := by
  funext j
  have e : sh4 P i (i + 4) = P (i + 4) := if_neg (by omega)
  show (if j = i then sh4 P i (i + 4) else if 66 ≤ j ∧ j < i then P (j + 4) else P j) = if 66 ≤ j ∧ j < i + 1 then P (j + 4) else P j
  rw [e]
  by_cases h1 : j = i
  · rw [if_pos h1, if_pos (by omega), h1]
  · rw [if_neg h1]
    by_cases h2 : 66 ≤ j ∧ j < i
    · rw [if_pos h2, if_pos (by omega)]
    · rw [if_neg h2, if_neg (by omega)]
theorem HF_shift {P : Nat → Int32} {fh : List aFd} (h : HFm P fh 30) : HFm (upd (sh4 P 182) 62 (nI 29)) fh 29 := by
  obtain ⟨h1, h2, h3, h4⟩ := h
  refine ⟨rfl, h2, h3, fun i j hi hj => ?_⟩
  rw [← h4 i j (by omega) hj]
  show (if 66 + 4 * (29 - 1 - i) + j = 62 then _ else if 66 ≤ 66 + 4 * (29 - 1 - i) + j ∧ 66 + 4 * (29 - 1 - i) + j < 182 then P (66 + 4 * (29 - 1 - i) + j + 4) else _) = _
  rw [if_neg (by omega), if_pos (by omega)]
  congr 1
  omega
/-- the page behind a find -/
def pRec (P : Nat → Int32) (m : Nat) (f : aFd) : Nat → Int32 :=
  let P2 := upd (upd (upd (upd P (66 + 4 * m) f.1) (66 + 4 * m + 1) f.2.1) (66 + 4 * m + 2) f.2.2.1) (66 + 4 * m + 3) f.2.2.2
  let P3 := upd P2 62 (P2 62 + 1)
  let k := if isD f then 64 else 63
  upd P3 k (P3 k + 1)
theorem pRec_at {P : Nat → Int32} {m : Nat} {f : aFd} (i : Nat) : pRec P m f i = if i = (if isD f then 64 else 63) then P i + 1 else if i = 62 then P i + 1 else if i = 66 + 4 * m + 3 then f.2.2.2 else if i = 66 + 4 * m + 2 then f.2.2.1 else if i = 66 + 4 * m + 1 then f.2.1 else if i = 66 + 4 * m then f.1 else P i := by
  unfold pRec
  simp only [upd]
  cases hd : isD f
  · simp only [Bool.false_eq_true, if_false]
    by_cases h1 : i = 63
    · subst h1
      rw [if_pos rfl, if_pos rfl]
      simp only [show ¬ (63 : Nat) = 62 by decide, show ¬ (63 : Nat) = 66 + 4 * m + 3 by omega, show ¬ (63 : Nat) = 66 + 4 * m + 2 by omega, show ¬ (63 : Nat) = 66 + 4 * m + 1 by omega, show ¬ (63 : Nat) = 66 + 4 * m by omega, if_false]
    · rw [if_neg h1, if_neg h1]
      by_cases h2 : i = 62
      · subst h2
        rw [if_pos rfl, if_pos rfl]
        simp only [show ¬ (62 : Nat) = 66 + 4 * m + 3 by omega, show ¬ (62 : Nat) = 66 + 4 * m + 2 by omega, show ¬ (62 : Nat) = 66 + 4 * m + 1 by omega, show ¬ (62 : Nat) = 66 + 4 * m by omega, if_false]
      · rw [if_neg h2, if_neg h2]
  · simp only [if_true]
    by_cases h1 : i = 64
    · subst h1
      rw [if_pos rfl, if_pos rfl]
      simp only [show ¬ (64 : Nat) = 62 by decide, show ¬ (64 : Nat) = 66 + 4 * m + 3 by omega, show ¬ (64 : Nat) = 66 + 4 * m + 2 by omega, show ¬ (64 : Nat) = 66 + 4 * m + 1 by omega, show ¬ (64 : Nat) = 66 + 4 * m by omega, if_false]
    · rw [if_neg h1, if_neg h1]
      by_cases h2 : i = 62
      · subst h2
        rw [if_pos rfl, if_pos rfl]
        simp only [show ¬ (62 : Nat) = 66 + 4 * m + 3 by omega, show ¬ (62 : Nat) = 66 + 4 * m + 2 by omega, show ¬ (62 : Nat) = 66 + 4 * m + 1 by omega, show ¬ (62 : Nat) = 66 + 4 * m by omega, if_false]
      · rw [if_neg h2, if_neg h2]
theorem HF_push {P : Nat → Int32} {fh : List aFd} {m : Nat} {f : aFd} (h : HFm P fh m) (hm : m = min 29 fh.length) : HF (pRec P m f) (f :: fh) := by
  obtain ⟨h1, h2, h3, h4⟩ := h
  have hm' : min 30 (f :: fh).length = m + 1 := by simp only [List.length_cons]; omega
  unfold HF
  rw [hm']
  refine ⟨?_, ?_, ?_, fun i j hi hj => ?_⟩
  · rw [pRec_at, if_neg (by split <;> omega), if_pos rfl, h1, nI_1]
  · rw [pRec_at]
    unfold fdS
    rw [List.countP_cons]
    cases hd : isD f
    · simp only [Bool.false_eq_true, if_false, if_true, Bool.not_false]
      rw [h2, nI_1]; rfl
    · simp only [if_true, Bool.not_true, Bool.false_eq_true, if_false]
      rw [if_neg (by decide), if_neg (by decide), if_neg (by omega), if_neg (by omega), if_neg (by omega), if_neg (by omega), h2]; rfl
  · rw [pRec_at]
    unfold fdD
    rw [List.countP_cons]
    cases hd : isD f
    · simp only [Bool.false_eq_true, if_false]
      rw [if_neg (by decide), if_neg (by decide), if_neg (by omega), if_neg (by omega), if_neg (by omega), if_neg (by omega), h3]; rfl
    · simp only [if_true]
      rw [h3, nI_1]; rfl
  · have hk : ∀ x : Nat, 65 ≤ x → ¬ x = (if isD f then 64 else 63) := fun x hx => by split <;> omega
    match i, hi with
    | 0, _ =>
      rw [pRec_at, if_neg (hk _ (by omega)), if_neg (by omega)]
      match j, hj with
      | 0, _ => rw [if_neg (by omega), if_neg (by omega), if_neg (by omega), if_pos (by omega)]; rfl
      | 1, _ => rw [if_neg (by omega), if_neg (by omega), if_pos (by omega)]; rfl
      | 2, _ => rw [if_neg (by omega), if_pos (by omega)]; rfl
      | 3, _ => rw [if_pos (by omega)]; rfl
      | j + 4, h => exact absurd h (by omega)
    | i + 1, hi =>
      rw [pRec_at, if_neg (hk _ (by omega)), if_neg (by omega), if_neg (by omega), if_neg (by omega), if_neg (by omega), if_neg (by omega)]
      show _ = fdc (fdAt fh i) j
      rw [← h4 i j (by omega) hj]
      congr 1
      omega
