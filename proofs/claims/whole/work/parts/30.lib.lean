/-! CANONICAL WORLDS: the world w with the n cells from b on as C says -/
def bw (w : jx_W) (b n : Nat) (C : Nat → Option jx_E) : jx_W := (w.1, w.2.1, fun a => if b ≤ a ∧ a < b + n then C (a - b) else w.2.2 a)
theorem bw_at {w : jx_W} {b n k : Nat} {C : Nat → Option jx_E} (h : k < n) : (bw w b n C).2.2 (b + k) = C k := by
  show (if b ≤ b + k ∧ b + k < b + n then C (b + k - b) else _) = C k
  rw [if_pos ⟨by omega, by omega⟩, Nat.add_sub_cancel_left]
theorem bw_out {w : jx_W} {b n a : Nat} {C : Nat → Option jx_E} (h : a < b ∨ b + n ≤ a) : (bw w b n C).2.2 a = w.2.2 a := by
  show (if b ≤ a ∧ a < b + n then C (a - b) else _) = _
  rw [if_neg (by omega)]
theorem jx_ext {w w' : jx_W} (h1 : w.1 = w'.1) (h2 : w.2.1 = w'.2.1) (h3 : ∀ a, w.2.2 a = w'.2.2 a) : w = w' := by
  obtain ⟨a, b, c⟩ := w
  obtain ⟨a', b', c'⟩ := w'
  dsimp only at h1 h2 h3
  rw [h1, h2, funext h3]
theorem bw_congr {w : jx_W} {b n : Nat} {C C' : Nat → Option jx_E} (h : ∀ j, j < n → C j = C' j) : bw w b n C = bw w b n C' := by
  refine jx_ext rfl rfl (fun a => ?_)
  show (if b ≤ a ∧ a < b + n then C (a - b) else _) = (if b ≤ a ∧ a < b + n then C' (a - b) else _)
  by_cases ha : b ≤ a ∧ a < b + n
  · rw [if_pos ha, if_pos ha, h _ (by omega)]
  · rw [if_neg ha, if_neg ha]
theorem bw_up {w : jx_W} {b n k : Nat} {C : Nat → Option jx_E} {e : jx_E} (h : k < n) : jx_up (bw w b n C) (b + k) e = bw w b n (fun j => if j = k then some e else C j) := by
  refine jx_ext rfl rfl (fun a => ?_)
  show (if a = b + k then some e else if b ≤ a ∧ a < b + n then C (a - b) else w.2.2 a) = if b ≤ a ∧ a < b + n then (if a - b = k then some e else C (a - b)) else w.2.2 a
  by_cases h1 : a = b + k
  · rw [if_pos h1, if_pos (by omega), if_pos (by omega)]
  · rw [if_neg h1]
    by_cases h2 : b ≤ a ∧ a < b + n
    · rw [if_pos h2, if_pos h2, if_neg (by omega)]
    · rw [if_neg h2, if_neg h2]
theorem bw_bw {w : jx_W} {b n o m : Nat} {C D : Nat → Option jx_E} (h : o + m ≤ n) : bw (bw w b n C) (b + o) m D = bw w b n (fun j => if o ≤ j ∧ j < o + m then D (j - o) else C j) := by
  refine jx_ext rfl rfl (fun a => ?_)
  show (if b + o ≤ a ∧ a < b + o + m then D (a - (b + o)) else if b ≤ a ∧ a < b + n then C (a - b) else w.2.2 a) = if b ≤ a ∧ a < b + n then (if o ≤ a - b ∧ a - b < o + m then D (a - b - o) else C (a - b)) else w.2.2 a
  by_cases h1 : b + o ≤ a ∧ a < b + o + m
  · rw [if_pos h1, if_pos (by omega), if_pos (by omega), Nat.sub_sub]
  · rw [if_neg h1]
    by_cases h2 : b ≤ a ∧ a < b + n
    · rw [if_pos h2, if_pos h2, if_neg (by omega)]
    · rw [if_neg h2, if_neg h2]
theorem bw_self {w : jx_W} {b n : Nat} {C : Nat → Option jx_E} (h : ∀ j, j < n → w.2.2 (b + j) = C j) : bw w b n C = w := by
  refine jx_ext rfl rfl (fun a => ?_)
  show (if b ≤ a ∧ a < b + n then C (a - b) else _) = _
  by_cases h2 : b ≤ a ∧ a < b + n
  · rw [if_pos h2, ← h _ (by omega), show b + (a - b) = a by omega]
  · rw [if_neg h2]
theorem bw_comm {w : jx_W} {b n b' n' : Nat} {C C' : Nat → Option jx_E} (h : b + n ≤ b' ∨ b' + n' ≤ b) : bw (bw w b n C) b' n' C' = bw (bw w b' n' C') b n C := by
  refine jx_ext rfl rfl (fun a => ?_)
  show (if b' ≤ a ∧ a < b' + n' then C' (a - b') else if b ≤ a ∧ a < b + n then C (a - b) else w.2.2 a) = (if b ≤ a ∧ a < b + n then C (a - b) else if b' ≤ a ∧ a < b' + n' then C' (a - b') else w.2.2 a)
  by_cases h1 : b ≤ a ∧ a < b + n
  · rw [if_pos h1, if_neg (by omega), if_pos h1]
  · rw [if_neg h1, if_neg h1]
theorem ob_iff {w : jx_W} {a ci : Nat} {fs fs0 : List Value} (h : w.2.2 a = some (.inr (ci, fs0))) : jx_ob w a ci fs ↔ fs = fs0 := by
  unfold jx_ob
  rw [h]
  constructor
  · intro e; cases e; rfl
  · intro e; rw [e]
theorem ia_iff {w : jx_W} {a n n0 : Nat} {f f0 : Nat → Int32} (h : w.2.2 a = some (.inl (.int, n0, .inl f0))) : jx_ia w a n f ↔ n = n0 ∧ f = f0 := by
  unfold jx_ia
  rw [h]
  constructor
  · intro e; cases e; exact ⟨rfl, rfl⟩
  · intro ⟨e1, e2⟩; rw [e1, e2]
theorem ba_iff {w : jx_W} {a n n0 : Nat} {f f0 : Nat → Int32} (h : w.2.2 a = some (.inl (.byte, n0, .inl f0))) : jx_ba w a n f ↔ n = n0 ∧ f = f0 := by
  unfold jx_ba
  rw [h]
  constructor
  · intro e; cases e; exact ⟨rfl, rfl⟩
  · intro ⟨e1, e2⟩; rw [e1, e2]
theorem ra_iff {w : jx_W} {a n n0 : Nat} {C : String} {f f0 : Nat → Option Nat} (h : w.2.2 a = some (.inl (.object C, n0, .inr (.inr (.inr (.inr f0)))))) : jx_ra w a C n f ↔ n = n0 ∧ f = f0 := by
  unfold jx_ra
  rw [h]
  constructor
  · intro e; cases e; exact ⟨rfl, rfl⟩
  · intro ⟨e1, e2⟩; rw [e1, e2]
theorem ro_iff {w : jx_W} {a n n0 : Nat} {f f0 : Nat → Int32} (h : w.2.2 a = some (.inl (.short, n0, .inl f0))) : jx_ro w a n f ↔ n = n0 ∧ f = f0 := by
  unfold jx_ro
  rw [h]
  constructor
  · intro e; cases e; exact ⟨rfl, rfl⟩
  · intro ⟨e1, e2⟩; rw [e1, e2]
/-- a function at one place -/
def rup (r : Nat → Nat → Int32) (k : Nat) (f : Nat → Int32) : Nat → Nat → Int32 := fun j => if j = k then f else r j
theorem rup_s {r : Nat → Nat → Int32} {k : Nat} {f : Nat → Int32} : rup r k f k = f := if_pos rfl
theorem rup_n {r : Nat → Nat → Int32} {k j : Nat} {f : Nat → Int32} (h : j ≠ k) : rup r k f j = r j := if_neg h
/-- THE MODEL: c its int fields, r its arrays, by the numbers of their fields -/
def mF (q : Nat) (c : Nat → Int32) : List Value := [.ref (q + 1), .int (c 1), .ref (q + 2), .int (c 3), .int (c 4), .ref (q + 3), .ref (q + 4), .ref (q + 5), .ref (q + 6), .ref (q + 7), .ref (q + 8), .ref (q + 9), .int (c 12), .int (c 13), .int (c 14), .ref (q + 10), .ref (q + 11)]
theorem mF_0 (q : Nat) (c : Nat → Int32) : (mF q c)[0]? = some (.ref (q + 1)) := rfl
theorem mF_1 (q : Nat) (c : Nat → Int32) : (mF q c)[1]? = some (.int (c 1)) := rfl
theorem mF_2 (q : Nat) (c : Nat → Int32) : (mF q c)[2]? = some (.ref (q + 2)) := rfl
theorem mF_3 (q : Nat) (c : Nat → Int32) : (mF q c)[3]? = some (.int (c 3)) := rfl
theorem mF_4 (q : Nat) (c : Nat → Int32) : (mF q c)[4]? = some (.int (c 4)) := rfl
theorem mF_5 (q : Nat) (c : Nat → Int32) : (mF q c)[5]? = some (.ref (q + 3)) := rfl
theorem mF_6 (q : Nat) (c : Nat → Int32) : (mF q c)[6]? = some (.ref (q + 4)) := rfl
theorem mF_7 (q : Nat) (c : Nat → Int32) : (mF q c)[7]? = some (.ref (q + 5)) := rfl
theorem mF_8 (q : Nat) (c : Nat → Int32) : (mF q c)[8]? = some (.ref (q + 6)) := rfl
theorem mF_9 (q : Nat) (c : Nat → Int32) : (mF q c)[9]? = some (.ref (q + 7)) := rfl
theorem mF_10 (q : Nat) (c : Nat → Int32) : (mF q c)[10]? = some (.ref (q + 8)) := rfl
theorem mF_11 (q : Nat) (c : Nat → Int32) : (mF q c)[11]? = some (.ref (q + 9)) := rfl
theorem mF_12 (q : Nat) (c : Nat → Int32) : (mF q c)[12]? = some (.int (c 12)) := rfl
theorem mF_13 (q : Nat) (c : Nat → Int32) : (mF q c)[13]? = some (.int (c 13)) := rfl
theorem mF_14 (q : Nat) (c : Nat → Int32) : (mF q c)[14]? = some (.int (c 14)) := rfl
theorem mF_15 (q : Nat) (c : Nat → Int32) : (mF q c)[15]? = some (.ref (q + 10)) := rfl
theorem mF_16 (q : Nat) (c : Nat → Int32) : (mF q c)[16]? = some (.ref (q + 11)) := rfl
theorem mF_len (q : Nat) (c : Nat → Int32) : (mF q c).length = 17 := rfl
theorem mF_s1 (q : Nat) (c : Nat → Int32) (x : Int32) : (mF q c).set 1 (.int x) = mF q (upd c 1 x) := rfl
theorem mF_s3 (q : Nat) (c : Nat → Int32) (x : Int32) : (mF q c).set 3 (.int x) = mF q (upd c 3 x) := rfl
theorem mF_s4 (q : Nat) (c : Nat → Int32) (x : Int32) : (mF q c).set 4 (.int x) = mF q (upd c 4 x) := rfl
theorem mF_s12 (q : Nat) (c : Nat → Int32) (x : Int32) : (mF q c).set 12 (.int x) = mF q (upd c 12 x) := rfl
theorem mF_s13 (q : Nat) (c : Nat → Int32) (x : Int32) : (mF q c).set 13 (.int x) = mF q (upd c 13 x) := rfl
theorem mF_s14 (q : Nat) (c : Nat → Int32) (x : Int32) : (mF q c).set 14 (.int x) = mF q (upd c 14 x) := rfl
def mC (q : Nat) (c : Nat → Int32) (r : Nat → Nat → Int32) : Nat → Option jx_E
  | 0 => some (.inr (8, mF q c))
  | 1 => some (.inl (.int, 22416, .inl (r 0)))
  | 2 => some (.inl (.int, 40, .inl (r 2)))
  | 3 => some (.inl (.int, 49, .inl (r 5)))
  | 4 => some (.inl (.int, 392, .inl (r 6)))
  | 5 => some (.inl (.int, 49, .inl (r 7)))
  | 6 => some (.inl (.int, 49, .inl (r 8)))
  | 7 => some (.inl (.int, 49, .inl (r 9)))
  | 8 => some (.inl (.int, 1274, .inl (r 10)))
  | 9 => some (.inl (.int, 9, .inl (r 11)))
  | 10 => some (.inl (.int, 49, .inl (r 15)))
  | 11 => some (.inl (.int, 49, .inl (r 16)))
  | _ => none
def mw (w : jx_W) (q : Nat) (c : Nat → Int32) (r : Nat → Nat → Int32) : jx_W := bw w q 12 (mC q c r)
theorem mw_ob (w : jx_W) (q : Nat) (c : Nat → Int32) (r : Nat → Nat → Int32) (fs : List Value) : jx_ob (mw w q c r) q 8 fs ↔ fs = mF q c := ob_iff (bw_at (k := 0) (by decide))
theorem mw_ia0 (w : jx_W) (q : Nat) (c : Nat → Int32) (r : Nat → Nat → Int32) (n : Nat) (f : Nat → Int32) : jx_ia (mw w q c r) (q + 1) n f ↔ n = 22416 ∧ f = r 0 := ia_iff (bw_at (k := 1) (by decide))
theorem mw_ia2 (w : jx_W) (q : Nat) (c : Nat → Int32) (r : Nat → Nat → Int32) (n : Nat) (f : Nat → Int32) : jx_ia (mw w q c r) (q + 2) n f ↔ n = 40 ∧ f = r 2 := ia_iff (bw_at (k := 2) (by decide))
theorem mw_ia5 (w : jx_W) (q : Nat) (c : Nat → Int32) (r : Nat → Nat → Int32) (n : Nat) (f : Nat → Int32) : jx_ia (mw w q c r) (q + 3) n f ↔ n = 49 ∧ f = r 5 := ia_iff (bw_at (k := 3) (by decide))
theorem mw_ia6 (w : jx_W) (q : Nat) (c : Nat → Int32) (r : Nat → Nat → Int32) (n : Nat) (f : Nat → Int32) : jx_ia (mw w q c r) (q + 4) n f ↔ n = 392 ∧ f = r 6 := ia_iff (bw_at (k := 4) (by decide))
theorem mw_ia7 (w : jx_W) (q : Nat) (c : Nat → Int32) (r : Nat → Nat → Int32) (n : Nat) (f : Nat → Int32) : jx_ia (mw w q c r) (q + 5) n f ↔ n = 49 ∧ f = r 7 := ia_iff (bw_at (k := 5) (by decide))
theorem mw_ia8 (w : jx_W) (q : Nat) (c : Nat → Int32) (r : Nat → Nat → Int32) (n : Nat) (f : Nat → Int32) : jx_ia (mw w q c r) (q + 6) n f ↔ n = 49 ∧ f = r 8 := ia_iff (bw_at (k := 6) (by decide))
theorem mw_ia9 (w : jx_W) (q : Nat) (c : Nat → Int32) (r : Nat → Nat → Int32) (n : Nat) (f : Nat → Int32) : jx_ia (mw w q c r) (q + 7) n f ↔ n = 49 ∧ f = r 9 := ia_iff (bw_at (k := 7) (by decide))
theorem mw_ia10 (w : jx_W) (q : Nat) (c : Nat → Int32) (r : Nat → Nat → Int32) (n : Nat) (f : Nat → Int32) : jx_ia (mw w q c r) (q + 8) n f ↔ n = 1274 ∧ f = r 10 := ia_iff (bw_at (k := 8) (by decide))
theorem mw_ia11 (w : jx_W) (q : Nat) (c : Nat → Int32) (r : Nat → Nat → Int32) (n : Nat) (f : Nat → Int32) : jx_ia (mw w q c r) (q + 9) n f ↔ n = 9 ∧ f = r 11 := ia_iff (bw_at (k := 9) (by decide))
theorem mw_ia15 (w : jx_W) (q : Nat) (c : Nat → Int32) (r : Nat → Nat → Int32) (n : Nat) (f : Nat → Int32) : jx_ia (mw w q c r) (q + 10) n f ↔ n = 49 ∧ f = r 15 := ia_iff (bw_at (k := 10) (by decide))
theorem mw_ia16 (w : jx_W) (q : Nat) (c : Nat → Int32) (r : Nat → Nat → Int32) (n : Nat) (f : Nat → Int32) : jx_ia (mw w q c r) (q + 11) n f ↔ n = 49 ∧ f = r 16 := ia_iff (bw_at (k := 11) (by decide))
theorem lt12 {j : Nat} {P : Nat → Prop} (h : j < 12) (h0 : P 0) (h1 : P 1) (h2 : P 2) (h3 : P 3) (h4 : P 4) (h5 : P 5) (h6 : P 6) (h7 : P 7) (h8 : P 8) (h9 : P 9) (h10 : P 10) (h11 : P 11) : P j := by
  match j, h with
  | 0, _ => exact h0
  | 1, _ => exact h1
  | 2, _ => exact h2
  | 3, _ => exact h3
  | 4, _ => exact h4
  | 5, _ => exact h5
  | 6, _ => exact h6
  | 7, _ => exact h7
  | 8, _ => exact h8
  | 9, _ => exact h9
  | 10, _ => exact h10
  | 11, _ => exact h11
  | n + 12, h => exact absurd h (by omega)
theorem mw_uob (w : jx_W) (q : Nat) (c c' : Nat → Int32) (r : Nat → Nat → Int32) : jx_uob (mw w q c r) q 8 (mF q c') = mw w q c' r := (bw_up (k := 0) (by decide)).trans (bw_congr (fun j h => lt12 (P := fun j => (if j = 0 then some (.inr (8, mF q c')) else mC q c r j) = mC q c' r j) h rfl rfl rfl rfl rfl rfl rfl rfl rfl rfl rfl rfl))
theorem mw_u0 (w : jx_W) (q : Nat) (c : Nat → Int32) (r : Nat → Nat → Int32) (f : Nat → Int32) : jx_uia (mw w q c r) (q + 1) 22416 f = mw w q c (rup r 0 f) := (bw_up (k := 1) (by decide)).trans (bw_congr (fun j h => lt12 (P := fun j => (if j = 1 then some (.inl (.int, 22416, .inl f)) else mC q c r j) = mC q c (rup r 0 f) j) h rfl rfl rfl rfl rfl rfl rfl rfl rfl rfl rfl rfl))
theorem mw_u2 (w : jx_W) (q : Nat) (c : Nat → Int32) (r : Nat → Nat → Int32) (f : Nat → Int32) : jx_uia (mw w q c r) (q + 2) 40 f = mw w q c (rup r 2 f) := (bw_up (k := 2) (by decide)).trans (bw_congr (fun j h => lt12 (P := fun j => (if j = 2 then some (.inl (.int, 40, .inl f)) else mC q c r j) = mC q c (rup r 2 f) j) h rfl rfl rfl rfl rfl rfl rfl rfl rfl rfl rfl rfl))
theorem mw_u5 (w : jx_W) (q : Nat) (c : Nat → Int32) (r : Nat → Nat → Int32) (f : Nat → Int32) : jx_uia (mw w q c r) (q + 3) 49 f = mw w q c (rup r 5 f) := (bw_up (k := 3) (by decide)).trans (bw_congr (fun j h => lt12 (P := fun j => (if j = 3 then some (.inl (.int, 49, .inl f)) else mC q c r j) = mC q c (rup r 5 f) j) h rfl rfl rfl rfl rfl rfl rfl rfl rfl rfl rfl rfl))
theorem mw_u6 (w : jx_W) (q : Nat) (c : Nat → Int32) (r : Nat → Nat → Int32) (f : Nat → Int32) : jx_uia (mw w q c r) (q + 4) 392 f = mw w q c (rup r 6 f) := (bw_up (k := 4) (by decide)).trans (bw_congr (fun j h => lt12 (P := fun j => (if j = 4 then some (.inl (.int, 392, .inl f)) else mC q c r j) = mC q c (rup r 6 f) j) h rfl rfl rfl rfl rfl rfl rfl rfl rfl rfl rfl rfl))
theorem mw_u7 (w : jx_W) (q : Nat) (c : Nat → Int32) (r : Nat → Nat → Int32) (f : Nat → Int32) : jx_uia (mw w q c r) (q + 5) 49 f = mw w q c (rup r 7 f) := (bw_up (k := 5) (by decide)).trans (bw_congr (fun j h => lt12 (P := fun j => (if j = 5 then some (.inl (.int, 49, .inl f)) else mC q c r j) = mC q c (rup r 7 f) j) h rfl rfl rfl rfl rfl rfl rfl rfl rfl rfl rfl rfl))
theorem mw_u8 (w : jx_W) (q : Nat) (c : Nat → Int32) (r : Nat → Nat → Int32) (f : Nat → Int32) : jx_uia (mw w q c r) (q + 6) 49 f = mw w q c (rup r 8 f) := (bw_up (k := 6) (by decide)).trans (bw_congr (fun j h => lt12 (P := fun j => (if j = 6 then some (.inl (.int, 49, .inl f)) else mC q c r j) = mC q c (rup r 8 f) j) h rfl rfl rfl rfl rfl rfl rfl rfl rfl rfl rfl rfl))
theorem mw_u9 (w : jx_W) (q : Nat) (c : Nat → Int32) (r : Nat → Nat → Int32) (f : Nat → Int32) : jx_uia (mw w q c r) (q + 7) 49 f = mw w q c (rup r 9 f) := (bw_up (k := 7) (by decide)).trans (bw_congr (fun j h => lt12 (P := fun j => (if j = 7 then some (.inl (.int, 49, .inl f)) else mC q c r j) = mC q c (rup r 9 f) j) h rfl rfl rfl rfl rfl rfl rfl rfl rfl rfl rfl rfl))
theorem mw_u10 (w : jx_W) (q : Nat) (c : Nat → Int32) (r : Nat → Nat → Int32) (f : Nat → Int32) : jx_uia (mw w q c r) (q + 8) 1274 f = mw w q c (rup r 10 f) := (bw_up (k := 8) (by decide)).trans (bw_congr (fun j h => lt12 (P := fun j => (if j = 8 then some (.inl (.int, 1274, .inl f)) else mC q c r j) = mC q c (rup r 10 f) j) h rfl rfl rfl rfl rfl rfl rfl rfl rfl rfl rfl rfl))
theorem mw_u11 (w : jx_W) (q : Nat) (c : Nat → Int32) (r : Nat → Nat → Int32) (f : Nat → Int32) : jx_uia (mw w q c r) (q + 9) 9 f = mw w q c (rup r 11 f) := (bw_up (k := 9) (by decide)).trans (bw_congr (fun j h => lt12 (P := fun j => (if j = 9 then some (.inl (.int, 9, .inl f)) else mC q c r j) = mC q c (rup r 11 f) j) h rfl rfl rfl rfl rfl rfl rfl rfl rfl rfl rfl rfl))
theorem mw_u15 (w : jx_W) (q : Nat) (c : Nat → Int32) (r : Nat → Nat → Int32) (f : Nat → Int32) : jx_uia (mw w q c r) (q + 10) 49 f = mw w q c (rup r 15 f) := (bw_up (k := 10) (by decide)).trans (bw_congr (fun j h => lt12 (P := fun j => (if j = 10 then some (.inl (.int, 49, .inl f)) else mC q c r j) = mC q c (rup r 15 f) j) h rfl rfl rfl rfl rfl rfl rfl rfl rfl rfl rfl rfl))
theorem mw_u16 (w : jx_W) (q : Nat) (c : Nat → Int32) (r : Nat → Nat → Int32) (f : Nat → Int32) : jx_uia (mw w q c r) (q + 11) 49 f = mw w q c (rup r 16 f) := (bw_up (k := 11) (by decide)).trans (bw_congr (fun j h => lt12 (P := fun j => (if j = 11 then some (.inl (.int, 49, .inl f)) else mC q c r j) = mC q c (rup r 16 f) j) h rfl rfl rfl rfl rfl rfl rfl rfl rfl rfl rfl rfl))
