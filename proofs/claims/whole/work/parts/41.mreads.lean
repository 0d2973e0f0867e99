/-! THE MODEL: reads(..): the finds of a character -/
abbrev aHi : Type := List (Int32 × Int32)
def hiA (h : aHi) (k : Nat) : Int32 × Int32 := h.getD k (0, 0)
def fS (A : aAU) (key : Int32) (sure : Nat) (hist : aHi) (e : Int32) (fh : List aFd) : Nat → List aFd
  | 0 => fh
  | v + 1 => if sure.testBit v then (key, nI v, (hiA hist (A.2.2.2 v - 1)).2, e) :: fS A key sure hist e fh v else fS A key sure hist e fh v
def fD (key : Int32) (d : Nat) (e : Int32) (fh : List aFd) : Nat → List aFd
  | 0 => fh
  | v + 1 => if d.testBit v then (key, nI v, -9, e) :: fD key d e fh v else fD key d e fh v
def anyK (A : aAU) (ps : Nat) : Nat → Nat
  | 0 => 0
  | n + 1 => anyK A ps n ||| (if ps.testBit n then A.2.2.1 n else 0)
def anyS (A : aAU) (ps : Nat) : Nat := anyK A ps A.1
def lowK (m : Nat) : Nat → Nat
  | 0 => 0
  | v + 1 => lowK m v ||| (if m.testBit v then 2 ^ v else 0)
theorem lowK6 : ∀ m, m < 64 → lowK m 6 = m := by decide +kernel
theorem anyK_lt {A : aAU} {ps : Nat} (hA : auOk A) : ∀ {n : Nat}, n ≤ A.1 → anyK A ps n < 64
  | 0, _ => by show 0 < 64; decide
  | n + 1, h => by
    refine Nat.or_lt_two_pow (n := 6) (anyK_lt hA (by omega)) ?_
    split
    · exact hA.2.2.2.1 n (by omega)
    · decide
theorem and_lt64 {a : Nat} (ha : a < 64) (s : Nat) : a &&& (63 ^^^ s) < 64 := Nat.lt_of_le_of_lt Nat.and_le_left ha
theorem upd_upd {f : Nat → Int32} {k : Nat} {x y : Int32} : upd (upd f k x) k y = upd f k y := by
  funext j
  unfold upd
  split <;> rfl
theorem upd_comm {f : Nat → Int32} {k j : Nat} {x y : Int32} (h : k ≠ j) : upd (upd f k x) j y = upd (upd f j y) k x := by
  funext i
  unfold upd
  by_cases h1 : i = j
  · rw [if_pos h1, if_pos h1]
    rw [if_neg (by omega)]
  · rw [if_neg h1]
    by_cases h2 : i = k
    · rw [if_pos h2, if_pos h2]
    · rw [if_neg h2, if_neg h2, if_neg h1]
theorem upd_self {f : Nat → Int32} {k : Nat} {x : Int32} (h : f k = x) : upd f k x = f := by
  funext j
  unfold upd
  split
  · rename_i e; rw [e, h]
  · rfl
def gF (g : Nat → Int32) (k : Nat) (n : Nat) : Nat → Int32 := upd g k (g k + nI n)
def cF (c : Nat → Int32) (n m : Nat) : Nat → Int32 := upd (upd c 13 (c 13 + nI n)) 14 (c 14 ||| nI m)
theorem nI_zero_add (x : Int32) : x + nI 0 = x := by rw [nI_0, Int32.add_zero]
theorem gF0 {g : Nat → Int32} {k : Nat} : gF g k 0 = g := upd_self (nI_zero_add _).symm
theorem cF0 {c : Nat → Int32} : cF c 0 0 = c := by
  unfold cF
  rw [nI_zero_add, nI_0, Int32.or_zero, upd_self (f := c) rfl, upd_self rfl]
theorem gF_recS {g : Nat → Int32} {n : Nat} {first : Int32} (h : first ≠ -9) : gRec (gF g 19 n) first = gF g 19 (n + 1) := by
  unfold gRec gF
  rw [if_neg h, upd_upd]
  show upd g 19 (g 19 + nI n + 1) = _
  rw [Int32.add_assoc, nI_1]
theorem gF_recD {g : Nat → Int32} {n : Nat} : gRec (gF g 20 n) (-9) = gF g 20 (n + 1) := by
  unfold gRec gF
  rw [if_pos rfl, upd_upd]
  show upd g 20 (g 20 + nI n + 1) = _
  rw [Int32.add_assoc, nI_1]
theorem cF_rec {c : Nat → Int32} {n m : Nat} {x first : Int32} : cRec (cF c n m) x first = upd (upd c 13 (c 13 + nI (n + 1))) 14 (c 14 ||| (nI m ||| ((if first = -9 then 0 else (1 : Int32) <<< (x &&& 31)) : Int32))) := by
  have e1 : cF c n m 13 = c 13 + nI n := rfl
  have e2 : cF c n m 14 = c 14 ||| nI m := rfl
  show upd (upd (cF c n m) 13 (cF c n m 13 + 1)) 14 (cF c n m 14 ||| _) = _
  rw [e1, e2, Int32.add_assoc, nI_1, Int32.or_assoc]
  unfold cF
  rw [upd_comm (k := 14) (j := 13) (by decide), upd_upd, upd_upd]
theorem cF_recS {c : Nat → Int32} {n m v : Nat} {first : Int32} (h : first ≠ -9) (hv : v < 6) : cRec (cF c n m) (nI v) first = cF c (n + 1) (m ||| 2 ^ v) := by
  rw [cF_rec, if_neg h, nI_pow v (by omega), nI_or]; rfl
theorem cF_recD {c : Nat → Int32} {n : Nat} {x : Int32} : cRec (cF c n 0) x (-9) = cF c (n + 1) 0 := by
  rw [cF_rec, if_pos rfl, nI_0, Int32.or_zero]; rfl
theorem pc6_succ {m v : Nat} : pc6 m (v + 1) = pc6 m v + (if m.testBit v then 1 else 0) := rfl
theorem fD_stop {key : Int32} {d : Nat} {e : Int32} {fh : List aFd} {v : Nat} (h : ∀ u, v ≤ u → d.testBit u = false) : ∀ n, fD key d e fh (v + n) = fD key d e fh v ∧ pc6 d (v + n) = pc6 d v
  | 0 => ⟨rfl, rfl⟩
  | n + 1 => by
    obtain ⟨h1, h2⟩ := fD_stop h n
    refine ⟨?_, ?_⟩
    · show (if d.testBit (v + n) then _ else fD key d e fh (v + n)) = _
      rw [if_neg (by rw [h (v + n) (by omega)]; decide), h1]
    · show pc6 d (v + n) + (if d.testBit (v + n) then 1 else 0) = _
      rw [if_neg (by rw [h (v + n) (by omega)]; decide), h2]; rfl
def PWd (P : Nat → Int32) (A : aAU) : Prop := ∀ v, v < 6 → P (9 * v) = nI (A.2.2.2 v)
def PFr (P P' : Nat → Int32) : Prop := ∀ i, (i < 62 ∨ i = 65 ∨ 186 ≤ i) → P' i = P i
theorem PFr.rf {P : Nat → Int32} : PFr P P := fun _ _ => rfl
theorem PFr.tr {P P1 P2 : Nat → Int32} (h : PFr P P1) (h' : PFr P1 P2) : PFr P P2 := fun i hi => (h' i hi).trans (h i hi)
section MReads
variable {w : jx_W} {q : Nat} {c : Nat → Int32} {r : Nat → Nat → Int32} {K : jx_Q} {P g : Nat → Int32} {b : Nat} {A : aAU} {fh : List aFd}
theorem f_sure_loop {sure : Nat} {e x5 : Int32} {hist : aHi} (hb : c 12 = nI b) (hf : b + 710 ≤ 22416) (hb1 : 186 ≤ b) (hA : auOk A) (hW : PWd P A) (hs : sure < 64) (hwl : ∀ v, v < 6 → sure.testBit v = true → 1 ≤ A.2.2.2 v) (hh : ∀ k, k < 8 → g (30 + k) = (hiA hist k).2) (hne : ∀ k, (hiA hist k).2 ≠ -9) (hK : ∀ P', HF P' (fS A (g 0) sure hist e fh 6) → PFr P P' → zwp n_M_reads 11 [(0, .ref q), (3, .int e), (4, .int (nI sure)), (5, .int x5)] [] 0 0 (mw w q (cF c (pc6 sure 6) sure) (rup r 0 (pgf P' b 710 (gF g 19 (pc6 sure 6))))) K) : ∀ (n v : Nat), v + n = 6 → ∀ P1, HF P1 (fS A (g 0) sure hist e fh v) → PFr P P1 → zwp n_M_reads 9 [(0, .ref q), (3, .int e), (4, .int (nI sure)), (5, .int x5), (6, .int (nI v))] [] 0 0 (mw w q (cF c (pc6 sure v) (lowK sure v)) (rup r 0 (pgf P1 b 710 (gF g 19 (pc6 sure v))))) K := by
  intro n
  induction n with
  | zero =>
    intro v hv P1 h1 h2
    refine b_M_reads_9 ⟨fun _ => ?_, fun z => absurd ((nI_leI (a := 6) (by decide) (by omega)).mpr (by omega)) z⟩
    have hv : v = 6 := by omega
    subst hv
    rw [lowK6 sure hs]
    exact hK P1 h1 h2
  | succ n ih =>
    intro v hv P1 h1 h2
    have hb' : cF c (pc6 sure v) (lowK sure v) 12 = nI b := hb
    refine b_M_reads_9 ⟨fun z => absurd ((nI_leI (a := 6) (by decide) (by omega)).mp z) (by omega), fun _ => ⟨fun z => ?_, fun z => ?_⟩⟩
    · have hbit : sure.testBit v = false := by
        cases ht : sure.testBit v with
        | false => rfl
        | true => exact absurd ((nI_bit1 (by omega) (by omega)).mpr ht) z
      refine b_M_reads_10 ?_
      rw [nI_1]
      have := ih (v + 1) (by omega) P1 (by show HF P1 (if _ then _ else _); rw [if_neg (by rw [hbit]; decide)]; exact h1) h2
      rw [pc6_succ, show lowK sure (v + 1) = lowK sure v from (by show _ ||| (if _ then _ else _) = _; rw [if_neg (by rw [hbit]; decide), Nat.or_zero]), if_neg (by rw [hbit]; decide)] at this
      exact this
    · have hbit : sure.testBit v = true := (nI_bit1 (by omega) (by omega)).mp z
      have hw1 := hwl v (by omega) hbit
      have hw8 := hA.2.2.2.2.2.1 v (by omega)
      simp only [and_assoc, exists_and_left, exists_eq_left, exists_eq_left', Option.some.injEq, Value.int.injEq, Value.ref.injEq, Value.long.injEq, true_and, and_true, exists_eq, exists_true_left, mw_ob, mw_ia0, mw_ia2, mw_ia5, mw_ia6, mw_ia7, mw_ia8, mw_ia9, mw_ia10, mw_ia11, mw_ia15, mw_ia16, mF_0, mF_1, mF_2, mF_3, mF_4, mF_5, mF_6, mF_7, mF_8, mF_9, mF_10, mF_11, mF_12, mF_13, mF_14, mF_15, mF_16, mF_len, mF_s1, mF_s3, mF_s4, mF_s12, mF_s13, mF_s14, mw_uob, mw_u0, mw_u2, mw_u5, mw_u6, mw_u7, mw_u8, mw_u9, mw_u10, mw_u11, mw_u15, mw_u16, Nat.reduceLT, rup_s, rup_rup]
      refine s_M_wordLength rfl (by omega) ?_
      simp only [and_assoc, exists_and_left, exists_eq_left, exists_eq_left', Option.some.injEq, Value.int.injEq, Value.ref.injEq, Value.long.injEq, true_and, and_true, exists_eq, exists_true_left, mw_ob, mw_ia0, mw_ia2, mw_ia5, mw_ia6, mw_ia7, mw_ia8, mw_ia9, mw_ia10, mw_ia11, mw_ia15, mw_ia16, mF_0, mF_1, mF_2, mF_3, mF_4, mF_5, mF_6, mF_7, mF_8, mF_9, mF_10, mF_11, mF_12, mF_13, mF_14, mF_15, mF_16, mF_len, mF_s1, mF_s3, mF_s4, mF_s12, mF_s13, mF_s14, mw_uob, mw_u0, mw_u2, mw_u5, mw_u6, mw_u7, mw_u8, mw_u9, mw_u10, mw_u11, mw_u15, mw_u16, Nat.reduceLT, rup_s, rup_rup]
      rw [pgf_out (by omega), h2 _ (by omega), hW v (by omega), lit_30, lit_1, nI_add, pk_sub (by omega)]
      refine f_of hb' (i := 30 + A.2.2.2 v - 1) rfl (by omega) hf ?_
      simp only [and_assoc, exists_and_left, exists_eq_left, exists_eq_left', Option.some.injEq, Value.int.injEq, Value.ref.injEq, Value.long.injEq, true_and, and_true, exists_eq, exists_true_left, mw_ob, mw_ia0, mw_ia2, mw_ia5, mw_ia6, mw_ia7, mw_ia8, mw_ia9, mw_ia10, mw_ia11, mw_ia15, mw_ia16, mF_0, mF_1, mF_2, mF_3, mF_4, mF_5, mF_6, mF_7, mF_8, mF_9, mF_10, mF_11, mF_12, mF_13, mF_14, mF_15, mF_16, mF_len, mF_s1, mF_s3, mF_s4, mF_s12, mF_s13, mF_s14, mw_uob, mw_u0, mw_u2, mw_u5, mw_u6, mw_u7, mw_u8, mw_u9, mw_u10, mw_u11, mw_u15, mw_u16, Nat.reduceLT, rup_s, rup_rup]
      have e30 : gF g 19 (pc6 sure v) (30 + A.2.2.2 v - 1) = (hiA hist (A.2.2.2 v - 1)).2 := by
        rw [show 30 + A.2.2.2 v - 1 = 30 + (A.2.2.2 v - 1) by omega]
        exact (if_neg (by omega)).trans (hh _ (by omega))
      rw [e30]
      refine f_records hb' hf hb1 h1 (fun P' h3 h4 => ?_)
      simp only [and_assoc, exists_and_left, exists_eq_left, exists_eq_left', Option.some.injEq, Value.int.injEq, Value.ref.injEq, Value.long.injEq, true_and, and_true, exists_eq, exists_true_left, mw_ob, mw_ia0, mw_ia2, mw_ia5, mw_ia6, mw_ia7, mw_ia8, mw_ia9, mw_ia10, mw_ia11, mw_ia15, mw_ia16, mF_0, mF_1, mF_2, mF_3, mF_4, mF_5, mF_6, mF_7, mF_8, mF_9, mF_10, mF_11, mF_12, mF_13, mF_14, mF_15, mF_16, mF_len, mF_s1, mF_s3, mF_s4, mF_s12, mF_s13, mF_s14, mw_uob, mw_u0, mw_u2, mw_u5, mw_u6, mw_u7, mw_u8, mw_u9, mw_u10, mw_u11, mw_u15, mw_u16, Nat.reduceLT, rup_s, rup_rup]
      refine b_M_reads_10 ?_
      rw [nI_1, gF_recS (hne _), cF_recS (hne _) (by omega)]
      have := ih (v + 1) (by omega) P' (by show HF P' (if _ then _ else _); rw [if_pos hbit]; exact h3) (h2.tr h4)
      rw [pc6_succ, show lowK sure (v + 1) = lowK sure v ||| 2 ^ v from (by show _ ||| (if _ then _ else _) = _; rw [if_pos hbit]), if_pos hbit] at this
      exact this
theorem f_doubt_loop {sure any d : Nat} {e : Int32} (hb : c 12 = nI b) (hf : b + 710 ≤ 22416) (hb1 : 186 ≤ b) (hs : sure < 64) (ha : any < 64) (hd : d = any &&& (63 ^^^ sure)) (hK : ∀ P', HF P' (fD (g 0) d e fh 6) → PFr P P' → K (mw w q (cF c (pc6 d 6) 0) (rup r 0 (pgf P' b 710 (gF g 20 (pc6 d 6))))) none) : ∀ (n v : Nat), v + n = 6 → ∀ P1, HF P1 (fD (g 0) d e fh v) → PFr P P1 → zwp n_M_reads 12 [(0, .ref q), (3, .int e), (4, .int (nI sure)), (5, .int (nI any)), (6, .int (nI v))] [] 0 0 (mw w q (cF c (pc6 d v) 0) (rup r 0 (pgf P1 b 710 (gF g 20 (pc6 d v))))) K := by
  have hd64 : d < 64 := by rw [hd]; exact and_lt64 ha _
  intro n
  induction n with
  | zero =>
    intro v hv P1 h1 h2
    refine b_M_reads_12 ⟨fun _ => b_M_reads_15 ?_, fun z => absurd ((nI_leI (a := 6) (by decide) (by omega)).mpr (by omega)) z⟩
    have hv : v = 6 := by omega
    subst hv
    exact hK P1 h1 h2
  | succ n ih =>
    intro v hv P1 h1 h2
    have hb' : cF c (pc6 d v) 0 12 = nI b := hb
    have hdif : nI any &&& (nI sure ^^^ -1) = nI d := by rw [nI_dif any ha sure hs, ← hd]
    refine b_M_reads_12 ⟨fun z => absurd ((nI_leI (a := 6) (by decide) (by omega)).mp z) (by omega), fun _ => ⟨fun z => ?_, fun z => ?_⟩⟩
    · refine b_M_reads_13 ⟨fun y => ?_, fun y => ?_⟩
      · rw [hdif] at y
        have hbit : d.testBit v = false := by
          cases ht : d.testBit v with
          | false => rfl
          | true => exact absurd ((nI_bit1 (by omega) (by omega)).mpr ht) y
        refine b_M_reads_14 ?_
        rw [nI_1]
        have := ih (v + 1) (by omega) P1 (by show HF P1 (if _ then _ else _); rw [if_neg (by rw [hbit]; decide)]; exact h1) h2
        rw [pc6_succ, if_neg (by rw [hbit]; decide)] at this
        exact this
      · rw [hdif] at y
        have hbit : d.testBit v = true := (nI_bit1 (by omega) (by omega)).mp y
        simp only [and_assoc, exists_and_left, exists_eq_left, exists_eq_left', Option.some.injEq, Value.int.injEq, Value.ref.injEq, Value.long.injEq, true_and, and_true, exists_eq, exists_true_left, mw_ob, mw_ia0, mw_ia2, mw_ia5, mw_ia6, mw_ia7, mw_ia8, mw_ia9, mw_ia10, mw_ia11, mw_ia15, mw_ia16, mF_0, mF_1, mF_2, mF_3, mF_4, mF_5, mF_6, mF_7, mF_8, mF_9, mF_10, mF_11, mF_12, mF_13, mF_14, mF_15, mF_16, mF_len, mF_s1, mF_s3, mF_s4, mF_s12, mF_s13, mF_s14, mw_uob, mw_u0, mw_u2, mw_u5, mw_u6, mw_u7, mw_u8, mw_u9, mw_u10, mw_u11, mw_u15, mw_u16, Nat.reduceLT, rup_s, rup_rup]
        refine f_records hb' hf hb1 h1 (fun P' h3 h4 => ?_)
        simp only [and_assoc, exists_and_left, exists_eq_left, exists_eq_left', Option.some.injEq, Value.int.injEq, Value.ref.injEq, Value.long.injEq, true_and, and_true, exists_eq, exists_true_left, mw_ob, mw_ia0, mw_ia2, mw_ia5, mw_ia6, mw_ia7, mw_ia8, mw_ia9, mw_ia10, mw_ia11, mw_ia15, mw_ia16, mF_0, mF_1, mF_2, mF_3, mF_4, mF_5, mF_6, mF_7, mF_8, mF_9, mF_10, mF_11, mF_12, mF_13, mF_14, mF_15, mF_16, mF_len, mF_s1, mF_s3, mF_s4, mF_s12, mF_s13, mF_s14, mw_uob, mw_u0, mw_u2, mw_u5, mw_u6, mw_u7, mw_u8, mw_u9, mw_u10, mw_u11, mw_u15, mw_u16, Nat.reduceLT, rup_s, rup_rup]
        refine b_M_reads_14 ?_
        rw [nI_1, gF_recD, cF_recD]
        have := ih (v + 1) (by omega) P' (by show HF P' (if _ then _ else _); rw [if_pos hbit]; exact h3) (h2.tr h4)
        rw [pc6_succ, if_pos hbit] at this
        exact this
    · rw [hdif] at z
      obtain ⟨s1, s2⟩ := fD_stop (key := g 0) (e := e) (fh := fh) (fun u hu => shr0 (by omega) (by omega) z hu) (n + 1)
      rw [show v + (n + 1) = 6 by omega] at s1 s2
      rw [s1, s2] at hK
      exact hK P1 h1 h2
theorem f_any_loop {ps : Nat} {e x4 : Int32} (hb : c 12 = nI b) (hf : b + 710 ≤ 22416) (hA : auOk A) (hm : MA c r A) (hp : PM g ps) (hK : zwp n_M_reads 8 [(0, .ref q), (3, .int e), (4, .int x4), (5, .int (nI (anyS A ps)))] [] 0 0 (mw w q c (rup r 0 (pgf P b 710 g))) K) : ∀ (n k : Nat), k + n = A.1 → zwp n_M_reads 5 [(0, .ref q), (3, .int e), (4, .int x4), (5, .int (nI (anyK A ps k))), (6, .int (nI k))] [] 0 0 (mw w q c (rup r 0 (pgf P b 710 g))) K := by
  obtain ⟨m1, m2, m3⟩ := hm
  have h49 := hA.2.1
  intro n
  induction n with
  | zero =>
    intro k hk
    refine b_M_reads_5 ?_
    simp only [and_assoc, exists_and_left, exists_eq_left, exists_eq_left', Option.some.injEq, Value.int.injEq, Value.ref.injEq, Value.long.injEq, true_and, and_true, exists_eq, exists_true_left, mw_ob, mw_ia0, mw_ia2, mw_ia5, mw_ia6, mw_ia7, mw_ia8, mw_ia9, mw_ia10, mw_ia11, mw_ia15, mw_ia16, mF_0, mF_1, mF_2, mF_3, mF_4, mF_5, mF_6, mF_7, mF_8, mF_9, mF_10, mF_11, mF_12, mF_13, mF_14, mF_15, mF_16, mF_len, mF_s1, mF_s3, mF_s4, mF_s12, mF_s13, mF_s14, mw_uob, mw_u0, mw_u2, mw_u5, mw_u6, mw_u7, mw_u8, mw_u9, mw_u10, mw_u11, mw_u15, mw_u16, Nat.reduceLT, rup_s, rup_rup]
    rw [m1]
    refine ⟨fun _ => ?_, fun z => absurd ((nI_leI (by omega) (by omega)).mpr (by omega)) z⟩
    rw [show k = A.1 by omega]
    exact hK
  | succ n ih =>
    intro k hk
    have hkA : k < A.1 := by omega
    refine b_M_reads_5 ?_
    simp only [and_assoc, exists_and_left, exists_eq_left, exists_eq_left', Option.some.injEq, Value.int.injEq, Value.ref.injEq, Value.long.injEq, true_and, and_true, exists_eq, exists_true_left, mw_ob, mw_ia0, mw_ia2, mw_ia5, mw_ia6, mw_ia7, mw_ia8, mw_ia9, mw_ia10, mw_ia11, mw_ia15, mw_ia16, mF_0, mF_1, mF_2, mF_3, mF_4, mF_5, mF_6, mF_7, mF_8, mF_9, mF_10, mF_11, mF_12, mF_13, mF_14, mF_15, mF_16, mF_len, mF_s1, mF_s3, mF_s4, mF_s12, mF_s13, mF_s14, mw_uob, mw_u0, mw_u2, mw_u5, mw_u6, mw_u7, mw_u8, mw_u9, mw_u10, mw_u11, mw_u15, mw_u16, Nat.reduceLT, rup_s, rup_rup]
    rw [m1]
    refine ⟨fun z => absurd ((nI_leI (by omega) (by omega)).mp z) (by omega), fun _ => ?_⟩
    refine f_isPossible hb hf hp rfl (by omega) (fun ht => ?_) (fun ht => ?_)
    · simp only [and_assoc, exists_and_left, exists_eq_left, exists_eq_left', Option.some.injEq, Value.int.injEq, Value.ref.injEq, Value.long.injEq, true_and, and_true, exists_eq, exists_true_left, mw_ob, mw_ia0, mw_ia2, mw_ia5, mw_ia6, mw_ia7, mw_ia8, mw_ia9, mw_ia10, mw_ia11, mw_ia15, mw_ia16, mF_0, mF_1, mF_2, mF_3, mF_4, mF_5, mF_6, mF_7, mF_8, mF_9, mF_10, mF_11, mF_12, mF_13, mF_14, mF_15, mF_16, mF_len, mF_s1, mF_s3, mF_s4, mF_s12, mF_s13, mF_s14, mw_uob, mw_u0, mw_u2, mw_u5, mw_u6, mw_u7, mw_u8, mw_u9, mw_u10, mw_u11, mw_u15, mw_u16, Nat.reduceLT, rup_s, rup_rup]
      refine if0 ?_
      have e9 : rup r 0 (pgf P b 710 g) 9 = r 9 := rup_n (by decide)
      rw [e9, nI_clamp (by omega), m2 k hkA]
      refine ⟨vp_in_nI (by omega) (by decide), b_M_reads_7 ?_⟩
      rw [nI_or, nI_1]
      have := ih (k + 1) (by omega)
      rw [show anyK A ps (k + 1) = anyK A ps k ||| A.2.2.1 k from (by show _ ||| (if _ then _ else _) = _; rw [if_pos ht])] at this
      exact this
    · simp only [and_assoc, exists_and_left, exists_eq_left, exists_eq_left', Option.some.injEq, Value.int.injEq, Value.ref.injEq, Value.long.injEq, true_and, and_true, exists_eq, exists_true_left, mw_ob, mw_ia0, mw_ia2, mw_ia5, mw_ia6, mw_ia7, mw_ia8, mw_ia9, mw_ia10, mw_ia11, mw_ia15, mw_ia16, mF_0, mF_1, mF_2, mF_3, mF_4, mF_5, mF_6, mF_7, mF_8, mF_9, mF_10, mF_11, mF_12, mF_13, mF_14, mF_15, mF_16, mF_len, mF_s1, mF_s3, mF_s4, mF_s12, mF_s13, mF_s14, mw_uob, mw_u0, mw_u2, mw_u5, mw_u6, mw_u7, mw_u8, mw_u9, mw_u10, mw_u11, mw_u15, mw_u16, Nat.reduceLT, rup_s, rup_rup]
      refine if1 (b_M_reads_6 (b_M_reads_7 ?_))
      rw [nI_1, Int32.or_zero]
      have := ih (k + 1) (by omega)
      rw [show anyK A ps (k + 1) = anyK A ps k from (by show _ ||| (if _ then _ else _) = _; rw [if_neg (by rw [ht]; decide), Nat.or_zero])] at this
      exact this
end MReads
