/-! THE CLASS: Segments -/
def SGr (n : Nat) (c : Nat → Int32) (r : Nat → Nat → Int32) (l : List aP) : Prop := c 0 = nI l.length ∧ l.length ≤ n ∧ (∀ p ∈ l, aOk p) ∧ ∀ i, i < l.length → r 1 i = nI (aPc l i).1 ∧ r 2 i = nI (aPc l i).2.length ∧ ∀ j, j < (aPc l i).2.length → r 3 (40 * i + j) = (aPc l i).2.getD j 0
theorem fit_b : ∀ n, n < 128 → fits .byte (.int (nI n)) = true := by decide +kernel
/-- counting -/
def cntR (p : Nat → Bool) (a : Nat) : Nat → Nat
  | 0 => 0
  | n + 1 => cntR p a n + (if p (a + n) then 1 else 0)
theorem aCnt_R {l : List aP} {a : Nat} : ∀ {n : Nat}, aCnt l a n = cntR (aAny l) a n
  | 0 => rfl
  | n + 1 => by
    show aCnt l a n + _ = cntR (aAny l) a n + _
    rw [aCnt_R]
theorem cntR_le {p : Nat → Bool} {a : Nat} : ∀ {n : Nat}, cntR p a n ≤ n
  | 0 => Nat.le_refl _
  | n + 1 => by
    unfold cntR
    have := cntR_le (p := p) (a := a) (n := n)
    split <;> omega
theorem cntR_congr {p q : Nat → Bool} {a : Nat} : ∀ {n : Nat}, (∀ t, a ≤ t → t < a + n → p t = q t) → cntR p a n = cntR q a n
  | 0, _ => rfl
  | n + 1, h => by
    unfold cntR
    rw [cntR_congr (fun t h1 h2 => h t h1 (by omega)), h (a + n) (by omega) (by omega)]
theorem cntR_zero {p : Nat → Bool} {a n : Nat} (h : ∀ t, a ≤ t → t < a + n → p t = false) : cntR p a n = 0 := by
  rw [cntR_congr (q := fun _ => false) h]
  induction n with
  | zero => rfl
  | succ n ih => exact ih (fun t h1 h2 => h t h1 (by omega))
theorem cntR_add {p : Nat → Bool} {a m : Nat} : ∀ {n : Nat}, cntR p a (m + n) = cntR p a m + cntR p (a + m) n
  | 0 => rfl
  | n + 1 => by
    show cntR p a (m + n) + (if p (a + (m + n)) then 1 else 0) = cntR p a m + (cntR p (a + m) n + (if p (a + m + n) then 1 else 0))
    rw [cntR_add, Nat.add_assoc a m n]
    omega
theorem cntR_or {p q s : Nat → Bool} {a : Nat} : ∀ {n : Nat}, (∀ t, a ≤ t → t < a + n → s t = (p t || q t) ∧ (p t && q t) = false) → cntR s a n = cntR p a n + cntR q a n
  | 0, _ => rfl
  | n + 1, h => by
    unfold cntR
    rw [cntR_or (fun t h1 h2 => h t h1 (by omega))]
    obtain ⟨h1, h2⟩ := h (a + n) (by omega) (by omega)
    rw [h1]
    cases hp : p (a + n) <;> cases hq : q (a + n) <;> simp_all <;> omega
/-- covered by one of the first pieces -/
def anyF (l : List aP) (t : Nat) : Nat → Bool
  | 0 => false
  | i + 1 => anyF l t i || aCov (aPc l i) t
theorem anyF_iff {l : List aP} {t : Nat} : ∀ {k : Nat}, anyF l t k = true ↔ ∃ i, i < k ∧ aCov (aPc l i) t = true
  | 0 => ⟨fun h => (by cases h), fun ⟨i, h, _⟩ => absurd h (Nat.not_lt_zero _)⟩
  | k + 1 => by
    unfold anyF
    rw [Bool.or_eq_true, anyF_iff]
    constructor
    · rintro (⟨i, h1, h2⟩ | h)
      · exact ⟨i, by omega, h2⟩
      · exact ⟨k, by omega, h⟩
    · rintro ⟨i, h1, h2⟩
      by_cases e : i = k
      · rw [e] at h2; exact Or.inr h2
      · exact Or.inl ⟨i, by omega, h2⟩
theorem anyF_all {l : List aP} {t : Nat} : anyF l t l.length = aAny l t := by
  cases h : aAny l t with
  | true => exact anyF_iff.mpr (aAny_iff.mp h)
  | false =>
    cases h2 : anyF l t l.length with
    | false => rfl
    | true => rw [aAny_iff.mpr (anyF_iff.mp h2)] at h; cases h
def cvK (l : List aP) (o i : Nat) : Nat := cntR (fun t => anyF l t i) o (1040 - o)
theorem cvK_all {l : List aP} {o : Nat} (hl : ∀ p ∈ l, aOk p) (ho : o ≤ 1040) : cvK l o l.length = aCount l o := by
  unfold cvK aCount
  have hm : aMost o l l.length ≤ 1040 := aMost_le ho (fun i hi => Nat.le_trans (ends_le hl hi) (by omega)) (Nat.le_refl _)
  have hg := aMost_ge (a := o) (l := l) (k := l.length)
  rw [aCnt_R, cntR_congr (q := aAny l) (fun t _ _ => anyF_all), show 1040 - o = (aMost o l l.length - o) + (1040 - aMost o l l.length) by omega, cntR_add, cntR_zero (a := o + (aMost o l l.length - o)) (fun t h1 h2 => ?_), Nat.add_zero]
  cases h : aAny l t with
  | false => rfl
  | true => have := aAny_most (a := o) h; omega
theorem cvK_step {l : List aP} {o i : Nat} (ho : o ≤ 1040) (he : (aPc l i).1 + (aPc l i).2.length ≤ 1040) : cvK l o (i + 1) = cvK l o i + cntR (fun t => !anyF l t i) (max o (aPc l i).1) ((aPc l i).1 + (aPc l i).2.length - max o (aPc l i).1) := by
  unfold cvK
  rw [cntR_or (p := fun t => anyF l t i) (q := fun t => aCov (aPc l i) t && !anyF l t i) (s := fun t => anyF l t (i + 1)) (fun t _ _ => ?_)]
  · congr 1
    by_cases hle : (aPc l i).1 + (aPc l i).2.length ≤ max o (aPc l i).1
    · rw [show (aPc l i).1 + (aPc l i).2.length - max o (aPc l i).1 = 0 by omega]
      refine cntR_zero (fun t h1 h2 => ?_)
      cases hc : aCov (aPc l i) t with
      | false => rfl
      | true =>
        have := aCov_iff.mp hc
        omega
    · have e : 1040 - o = (max o (aPc l i).1 - o) + (((aPc l i).1 + (aPc l i).2.length - max o (aPc l i).1) + (1040 - ((aPc l i).1 + (aPc l i).2.length))) := by omega
      rw [e, cntR_add, cntR_add, cntR_zero (a := o) (fun t h1 h2 => ?_), Nat.zero_add, show o + (max o (aPc l i).1 - o) = max o (aPc l i).1 by omega, cntR_zero (a := max o (aPc l i).1 + ((aPc l i).1 + (aPc l i).2.length - max o (aPc l i).1)) (fun t h1 h2 => ?_), Nat.add_zero]
      · refine cntR_congr (fun t h1 h2 => ?_)
        rw [aCov_iff.mpr ⟨by omega, by omega⟩, Bool.true_and]
      · cases hc : aCov (aPc l i) t with
        | false => rfl
        | true =>
          have := aCov_iff.mp hc
          omega
      · cases hc : aCov (aPc l i) t with
        | false => rfl
        | true =>
          have := aCov_iff.mp hc
          omega
  · show (anyF l t i || aCov (aPc l i) t) = _ ∧ _
    cases anyF l t i <;> cases aCov (aPc l i) t <;> simp
def minS (l : List aP) : Nat → Nat
  | 0 => 1040
  | k + 1 => min (minS l k) (aPc l k).1
theorem minS_le {l : List aP} : ∀ {k i : Nat}, i < k → minS l k ≤ (aPc l i).1
  | 0, i, h => absurd h (by omega)
  | k + 1, i, h => by
    unfold minS
    by_cases e : i = k
    · rw [e]; exact Nat.min_le_right _ _
    · exact Nat.le_trans (Nat.min_le_left _ _) (minS_le (by omega))
theorem minS_at {l : List aP} : ∀ {k : Nat}, minS l k = 1040 ∨ ∃ i, i < k ∧ minS l k = (aPc l i).1
  | 0 => Or.inl rfl
  | k + 1 => by
    unfold minS
    by_cases h : minS l k ≤ (aPc l k).1
    · rw [Nat.min_eq_left h]
      rcases minS_at (l := l) (k := k) with h1 | ⟨i, h1, h2⟩
      · exact Or.inl h1
      · exact Or.inr ⟨i, by omega, h2⟩
    · rw [Nat.min_eq_right (by omega)]
      exact Or.inr ⟨k, by omega, rfl⟩
theorem minS_bd {l : List aP} : ∀ {k : Nat}, minS l k ≤ 1040
  | 0 => Nat.le_refl _
  | k + 1 => Nat.le_trans (Nat.min_le_left _ _) minS_bd
theorem isLeast_inj {l : List aP} {a s t : Nat} (h1 : isLeast l a s) (h2 : isLeast l a t) : s = t := by
  rcases Nat.lt_trichotomy s t with h | h | h
  · have := h2.2.2 s h1.1 h
    rw [h1.2.1] at this; cases this
  · exact h
  · have := h1.2.2 t h2.1 h
    rw [h2.2.1] at this; cases this
theorem minS_least {l : List aP} {a : Nat} (hok : ∀ p ∈ l, aOk p) (hno : aAny l a = false) (hend : ∀ p ∈ l, a < p.1 + p.2.length) (hc : 0 < aCount l a) : minS l l.length = aLeast l a := by
  obtain ⟨hL, hlt⟩ := aLeast_ok hok hc
  obtain ⟨i, hi, hci⟩ := aAny_iff.mp hL.2.1
  have hst : ∀ j, j < l.length → a < (aPc l j).1 := fun j hj => by
    have h1 := hend _ (aPc_mem hj)
    rcases Nat.lt_or_ge a (aPc l j).1 with h | h
    · exact h
    · have : aAny l a = true := aAny_iff.mpr ⟨j, hj, aCov_iff.mpr ⟨h, h1⟩⟩
      rw [hno] at this; cases this
  refine isLeast_inj ?_ hL
  have hmin := minS_le (l := l) (k := l.length) hi
  have hci := aCov_iff.mp hci
  rcases minS_at (l := l) (k := l.length) with h | ⟨j, hj, e⟩
  · omega
  · refine ⟨by rw [e]; have := hst j hj; omega, aAny_iff.mpr ⟨j, hj, aCov_iff.mpr ⟨by omega, ?_⟩⟩, fun t h1 h2 => ?_⟩
    · have := (hok _ (aPc_mem hj)).2.1
      omega
    · cases ht : aAny l t with
      | false => rfl
      | true =>
        obtain ⟨k, hk, hck⟩ := aAny_iff.mp ht
        have := aCov_iff.mp hck
        have := minS_le (l := l) (k := l.length) hk
        omega
theorem Sgw_eq {W : jx_W} {s n : Nat} {c : Nat → Int32} {r : Nat → Nat → Int32} (h : At W s 4 (SgC s n c r)) : Sgw W s n c r = W := bw_self h
theorem Sgw_out {W : jx_W} {s n : Nat} {c : Nat → Int32} {r : Nat → Nat → Int32} {b : Nat} (h : b < s ∨ s + 4 ≤ b) : (Sgw W s n c r).2.2 b = W.2.2 b := bw_out h
theorem Sgw_same {W : jx_W} {s n n' : Nat} {c c' : Nat → Int32} {r r' : Nat → Nat → Int32} : Sgw (Sgw W s n c r) s n' c' r' = Sgw W s n' c' r' := bw_same
section CSegs
variable {W : jx_W} {s n : Nat} {c : Nat → Int32} {r : Nat → Nat → Int32} {K : jx_Q} {l : List aP}
theorem c_covers {x y : Int32} {k o : Nat} (hW : At W s 4 (SgC s n c r)) (hS : SGr n c r l) (hn : n ≤ 10) (hk : k < l.length) (hx : x = nI k) (hy : y = nI o) (ho : o < 2 ^ 30) (h1 : aCov (aPc l k) o = true → K W (some (.int 1))) (h0 : aCov (aPc l k) o = false → K W (some (.int 0))) : zcall n_Sg_covers [.ref s, .int x, .int y] W K := by
  subst hx hy
  rw [← Sgw_eq hW] at h1 h0 ⊢
  obtain ⟨s1, s2, s3, s4⟩ := hS
  obtain ⟨q1, q2, -⟩ := s4 k hk
  obtain ⟨o1, o2, o3, -⟩ := s3 _ (aPc_mem hk)
  have z0 : aCov (aPc l k) o = false → zwp n_Sg_covers 1 [] [] 0 0 (Sgw W s n c r) K := fun h => b_Sg_covers_1 (b_Sg_covers_2 ⟨b01, h0 h⟩)
  have f : ¬ ((aPc l k).1 ≤ o ∧ o < (aPc l k).1 + (aPc l k).2.length) → aCov (aPc l k) o = false := fun h => by
    cases hc : aCov (aPc l k) o with
    | false => rfl
    | true => exact absurd (aCov_iff.mp hc) h
  refine e_Sg_covers (b_Sg_covers_0 ⟨fun z => absurd z (nI_pos (by omega)), fun _ => ?_⟩)
  simp only [and_assoc, exists_and_left, exists_eq_left, exists_eq_left', Option.some.injEq, Value.int.injEq, Value.ref.injEq, Value.long.injEq, true_and, and_true, exists_eq, exists_true_left, FdF_0, FdF_s0, FdF_1, FdF_s1, FdF_2, FdF_s2, FdF_3, FdF_s3, FdF_4, FdF_5, FdF_6, FdF_7, FdF_len, Fdw_ob, Fdw_uob, Fdw_4, Fdw_g4, Fdw_v4, Fdw_u4, Fdw_5, Fdw_g5, Fdw_v5, Fdw_u5, Fdw_6, Fdw_g6, Fdw_v6, Fdw_u6, Fdw_7, Fdw_g7, Fdw_v7, Fdw_u7, WdF_0, WdF_1, WdF_len, Wdw_ob, Wdw_0, Wdw_g0, Wdw_v0, Wdw_u0, Wdw_1, Wdw_g1, Wdw_v1, Wdw_u1, AuF_0, AuF_s0, AuF_1, AuF_2, AuF_3, AuF_4, AuF_5, AuF_6, AuF_7, AuF_8, AuF_len, Auw_ob, Auw_uob, Auw_1, Auw_g1, Auw_v1, Auw_u1, Auw_2, Auw_g2, Auw_v2, Auw_u2, Auw_3, Auw_g3, Auw_v3, Auw_u3, Auw_4, Auw_g4, Auw_v4, Auw_u4, Auw_5, Auw_g5, Auw_v5, Auw_u5, Auw_6, Auw_g6, Auw_v6, Auw_u6, Auw_7, Auw_g7, Auw_v7, Auw_u7, Auw_8, Auw_g8, Auw_v8, Auw_u8, SgF_0, SgF_s0, SgF_1, SgF_2, SgF_3, SgF_len, Sgw_ob, Sgw_uob, Sgw_1, Sgw_g1, Sgw_v1, Sgw_u1, Sgw_2, Sgw_g2, Sgw_v2, Sgw_u2, Sgw_3, Sgw_g3, Sgw_v3, Sgw_u3, RdF_0, RdF_1, RdF_2, RdF_s2, RdF_3, RdF_s3, RdF_4, RdF_s4, RdF_5, RdF_s5, RdF_6, RdF_s6, RdF_7, RdF_s7, RdF_8, RdF_s8, RdF_9, RdF_10, RdF_11, RdF_s11, RdF_12, RdF_s12, RdF_13, RdF_s13, RdF_14, RdF_s14, RdF_len, Rdw_ob, Rdw_uob, Rdw_9, Rdw_g9, Rdw_v9, Rdw_u9, Rdw_10, Rdw_g10, Rdw_v10, Rdw_u10, FlF_0, FlF_s0, FlF_1, FlF_s1, FlF_2, FlF_s2, FlF_3, FlF_s3, FlF_4, FlF_5, FlF_6, FlF_7, FlF_s7, FlF_8, FlF_s8, FlF_9, FlF_s9, FlF_10, FlF_s10, FlF_11, FlF_s11, FlF_len, Flw_ob, Flw_uob, Flw_pob, Flw_upob, Flw_p1, Flw_p2, Flw_p3, Flw_lob, Flw_ulob, Flw_l1, Flw_l2, Flw_l3, Flw_rob, Nat.reduceLT, rup_s, rup_rup]
  rw [s1, nI_clamp (by omega), q1, q2, nI_add]
  refine ⟨fun z => absurd ((nI_leI (by omega) (by omega)).mp z) (by omega), fun _ => ⟨vp_in_nI (by omega) (by omega), fun z => z0 (f ?_), fun z => ⟨vp_in_nI (by omega) (by omega), vp_in_nI (by omega) (by omega), fun y => z0 (f ?_), fun y => b_Sg_covers_2 ⟨b11, h1 (aCov_iff.mpr ⟨?_, ?_⟩)⟩⟩⟩⟩
  · have := (nI_ltI (by omega) (by omega)).mp z; omega
  · have := (nI_leI (by omega) (by omega)).mp y; omega
  · exact Nat.not_lt.mp (fun t => z ((nI_ltI (by omega) (by omega)).mpr t))
  · exact Nat.not_le.mp (fun t => y ((nI_leI (by omega) (by omega)).mpr t))
theorem c_coversNeg {y : Int32} (h0 : K W (some (.int 0))) : zcall n_Sg_covers [.ref s, .int (-1), .int y] W K :=
  e_Sg_covers (b_Sg_covers_0 ⟨fun _ => b_Sg_covers_1 (b_Sg_covers_2 ⟨b01, h0⟩), fun z => absurd (by decide) z⟩)
theorem c_byteFor {x y : Int32} {k o : Nat} (hW : At W s 4 (SgC s n c r)) (hS : SGr n c r l) (hn : n ≤ 10) (hk : k < l.length) (hx : x = nI k) (hy : y = nI o) (ho : o < 2 ^ 30) (h1 : aCov (aPc l k) o = true → K W (some (.int (aByte (aPc l k) o)))) (h0 : aCov (aPc l k) o = false → K W (some (.int (-9)))) : zcall n_Sg_byteFor [.ref s, .int x, .int y] W K := by
  subst hx hy
  have hob : ∃ fs, jx_ob W s 4 fs := ⟨_, hW 0 (by decide)⟩
  refine e_Sg_byteFor (b_Sg_byteFor_0 ⟨hob, c_covers hW hS hn hk rfl rfl ho (fun h => ⟨_, rfl, fun z => absurd z (by decide), fun _ => ?_⟩) (fun h => ⟨_, rfl, fun _ => b_Sg_byteFor_1 (b_Sg_byteFor_2 (h0 h)), fun z => absurd rfl z⟩)⟩)
  have h1 := h1 h
  rw [← Sgw_eq hW] at h1 ⊢
  obtain ⟨s1, s2, s3, s4⟩ := hS
  obtain ⟨q1, q2, q3⟩ := s4 k hk
  obtain ⟨o1, o2, o3, -⟩ := s3 _ (aPc_mem hk)
  have hcv := aCov_iff.mp h
  simp only [and_assoc, exists_and_left, exists_eq_left, exists_eq_left', Option.some.injEq, Value.int.injEq, Value.ref.injEq, Value.long.injEq, true_and, and_true, exists_eq, exists_true_left, FdF_0, FdF_s0, FdF_1, FdF_s1, FdF_2, FdF_s2, FdF_3, FdF_s3, FdF_4, FdF_5, FdF_6, FdF_7, FdF_len, Fdw_ob, Fdw_uob, Fdw_4, Fdw_g4, Fdw_v4, Fdw_u4, Fdw_5, Fdw_g5, Fdw_v5, Fdw_u5, Fdw_6, Fdw_g6, Fdw_v6, Fdw_u6, Fdw_7, Fdw_g7, Fdw_v7, Fdw_u7, WdF_0, WdF_1, WdF_len, Wdw_ob, Wdw_0, Wdw_g0, Wdw_v0, Wdw_u0, Wdw_1, Wdw_g1, Wdw_v1, Wdw_u1, AuF_0, AuF_s0, AuF_1, AuF_2, AuF_3, AuF_4, AuF_5, AuF_6, AuF_7, AuF_8, AuF_len, Auw_ob, Auw_uob, Auw_1, Auw_g1, Auw_v1, Auw_u1, Auw_2, Auw_g2, Auw_v2, Auw_u2, Auw_3, Auw_g3, Auw_v3, Auw_u3, Auw_4, Auw_g4, Auw_v4, Auw_u4, Auw_5, Auw_g5, Auw_v5, Auw_u5, Auw_6, Auw_g6, Auw_v6, Auw_u6, Auw_7, Auw_g7, Auw_v7, Auw_u7, Auw_8, Auw_g8, Auw_v8, Auw_u8, SgF_0, SgF_s0, SgF_1, SgF_2, SgF_3, SgF_len, Sgw_ob, Sgw_uob, Sgw_1, Sgw_g1, Sgw_v1, Sgw_u1, Sgw_2, Sgw_g2, Sgw_v2, Sgw_u2, Sgw_3, Sgw_g3, Sgw_v3, Sgw_u3, RdF_0, RdF_1, RdF_2, RdF_s2, RdF_3, RdF_s3, RdF_4, RdF_s4, RdF_5, RdF_s5, RdF_6, RdF_s6, RdF_7, RdF_s7, RdF_8, RdF_s8, RdF_9, RdF_10, RdF_11, RdF_s11, RdF_12, RdF_s12, RdF_13, RdF_s13, RdF_14, RdF_s14, RdF_len, Rdw_ob, Rdw_uob, Rdw_9, Rdw_g9, Rdw_v9, Rdw_u9, Rdw_10, Rdw_g10, Rdw_v10, Rdw_u10, FlF_0, FlF_s0, FlF_1, FlF_s1, FlF_2, FlF_s2, FlF_3, FlF_s3, FlF_4, FlF_5, FlF_6, FlF_7, FlF_s7, FlF_8, FlF_s8, FlF_9, FlF_s9, FlF_10, FlF_s10, FlF_11, FlF_s11, FlF_len, Flw_ob, Flw_uob, Flw_pob, Flw_upob, Flw_p1, Flw_p2, Flw_p3, Flw_lob, Flw_ulob, Flw_l1, Flw_l2, Flw_l3, Flw_rob, Nat.reduceLT, rup_s, rup_rup]
  rw [nI_clamp (show k < 2 ^ 31 by omega), q1, lit_40, pk_mul, nI_add, pk_sub (by omega), nI_clamp (by omega), show k * 40 + o - (aPc l k).1 = 40 * k + (o - (aPc l k).1) by omega, q3 _ (by omega)]
  exact ⟨vp_in_nI (by omega) (by omega), vp_in_nI (by omega) (by omega), b_Sg_byteFor_2 h1⟩
theorem c_byteForNeg {y : Int32} (hW : At W s 4 (SgC s n c r)) (h0 : K W (some (.int (-9)))) : zcall n_Sg_byteFor [.ref s, .int (-1), .int y] W K :=
  e_Sg_byteFor (b_Sg_byteFor_0 ⟨⟨_, hW 0 (by decide)⟩, c_coversNeg ⟨_, rfl, fun _ => b_Sg_byteFor_1 (b_Sg_byteFor_2 h0), fun z => absurd rfl z⟩⟩)
theorem c_isFull (hW : At W s 4 (SgC s n c r)) (hS : SGr n c r l) (hn : n ≤ 10) (h1 : l.length = n → K W (some (.int 1))) (h0 : l.length < n → K W (some (.int 0))) : zcall n_Sg_isFull [.ref s] W K := by
  rw [← Sgw_eq hW] at h1 h0 ⊢
  obtain ⟨s1, s2, s3, s4⟩ := hS
  refine e_Sg_isFull (b_Sg_isFull_0 ?_)
  simp only [and_assoc, exists_and_left, exists_eq_left, exists_eq_left', Option.some.injEq, Value.int.injEq, Value.ref.injEq, Value.long.injEq, true_and, and_true, exists_eq, exists_true_left, FdF_0, FdF_s0, FdF_1, FdF_s1, FdF_2, FdF_s2, FdF_3, FdF_s3, FdF_4, FdF_5, FdF_6, FdF_7, FdF_len, Fdw_ob, Fdw_uob, Fdw_4, Fdw_g4, Fdw_v4, Fdw_u4, Fdw_5, Fdw_g5, Fdw_v5, Fdw_u5, Fdw_6, Fdw_g6, Fdw_v6, Fdw_u6, Fdw_7, Fdw_g7, Fdw_v7, Fdw_u7, WdF_0, WdF_1, WdF_len, Wdw_ob, Wdw_0, Wdw_g0, Wdw_v0, Wdw_u0, Wdw_1, Wdw_g1, Wdw_v1, Wdw_u1, AuF_0, AuF_s0, AuF_1, AuF_2, AuF_3, AuF_4, AuF_5, AuF_6, AuF_7, AuF_8, AuF_len, Auw_ob, Auw_uob, Auw_1, Auw_g1, Auw_v1, Auw_u1, Auw_2, Auw_g2, Auw_v2, Auw_u2, Auw_3, Auw_g3, Auw_v3, Auw_u3, Auw_4, Auw_g4, Auw_v4, Auw_u4, Auw_5, Auw_g5, Auw_v5, Auw_u5, Auw_6, Auw_g6, Auw_v6, Auw_u6, Auw_7, Auw_g7, Auw_v7, Auw_u7, Auw_8, Auw_g8, Auw_v8, Auw_u8, SgF_0, SgF_s0, SgF_1, SgF_2, SgF_3, SgF_len, Sgw_ob, Sgw_uob, Sgw_1, Sgw_g1, Sgw_v1, Sgw_u1, Sgw_2, Sgw_g2, Sgw_v2, Sgw_u2, Sgw_3, Sgw_g3, Sgw_v3, Sgw_u3, RdF_0, RdF_1, RdF_2, RdF_s2, RdF_3, RdF_s3, RdF_4, RdF_s4, RdF_5, RdF_s5, RdF_6, RdF_s6, RdF_7, RdF_s7, RdF_8, RdF_s8, RdF_9, RdF_10, RdF_11, RdF_s11, RdF_12, RdF_s12, RdF_13, RdF_s13, RdF_14, RdF_s14, RdF_len, Rdw_ob, Rdw_uob, Rdw_9, Rdw_g9, Rdw_v9, Rdw_u9, Rdw_10, Rdw_g10, Rdw_v10, Rdw_u10, FlF_0, FlF_s0, FlF_1, FlF_s1, FlF_2, FlF_s2, FlF_3, FlF_s3, FlF_4, FlF_5, FlF_6, FlF_7, FlF_s7, FlF_8, FlF_s8, FlF_9, FlF_s9, FlF_10, FlF_s10, FlF_11, FlF_s11, FlF_len, Flw_ob, Flw_uob, Flw_pob, Flw_upob, Flw_p1, Flw_p2, Flw_p3, Flw_lob, Flw_ulob, Flw_l1, Flw_l2, Flw_l3, Flw_rob, Nat.reduceLT, rup_s, rup_rup]
  rw [s1]
  refine ⟨fun z => b_Sg_isFull_1 (b_Sg_isFull_2 ⟨b01, h0 ((nI_ltI (b := n) (by omega) (by omega)).mp z)⟩), fun z => b_Sg_isFull_2 ⟨b11, h1 ?_⟩⟩
  have : ¬ l.length < n := fun y => z ((nI_ltI (b := n) (by omega) (by omega)).mpr y)
  omega
def ptR (r : Nat → Nat → Int32) (f : Nat → Int32) (k fr : Nat) (p : aP) : Nat → Nat → Int32 := rup (rup (rup r 1 (upd (r 1) k (nI p.1))) 2 (upd (r 2) k (nI p.2.length))) 3 (va_cpy f (r 3) fr (40 * k) p.2.length)
theorem ptR_1 {f : Nat → Int32} {k fr : Nat} {p : aP} : ptR r f k fr p 1 = upd (r 1) k (nI p.1) := rfl
theorem ptR_2 {f : Nat → Int32} {k fr : Nat} {p : aP} : ptR r f k fr p 2 = upd (r 2) k (nI p.2.length) := rfl
theorem ptR_3 {f : Nat → Int32} {k fr : Nat} {p : aP} : ptR r f k fr p 3 = va_cpy f (r 3) fr (40 * k) p.2.length := rfl
theorem c_put {x1 x3 x4 x5 : Int32} {src m k fr : Nat} {f : Nat → Int32} {p : aP} (hn : n ≤ 10) (hk : k < n) (hsrc : ∀ r', r' 3 = r 3 → (Sgw W s n c r').2.2 src = some (.inl (.byte, m, .inl f))) (hm : fr + p.2.length ≤ m) (hm2 : m < 10000) (hp : aOk p) (hf : ∀ j, j < p.2.length → f (fr + j) = p.2.getD j 0) (h1 : x1 = nI k) (h3 : x3 = nI fr) (h4 : x4 = nI p.2.length) (h5 : x5 = nI p.1) (hK : K (Sgw W s n c (ptR r f k fr p)) none) : zcall n_Sg_put [.ref s, .int x1, .ref src, .int x3, .int x4, .int x5] (Sgw W s n c r) K := by
  subst h1 h3 h4 h5
  have h40 := hp.2.2.1
  refine e_Sg_put (b_Sg_put_0 ?_)
  simp only [and_assoc, exists_and_left, exists_eq_left, exists_eq_left', Option.some.injEq, Value.int.injEq, Value.ref.injEq, Value.long.injEq, true_and, and_true, exists_eq, exists_true_left, FdF_0, FdF_s0, FdF_1, FdF_s1, FdF_2, FdF_s2, FdF_3, FdF_s3, FdF_4, FdF_5, FdF_6, FdF_7, FdF_len, Fdw_ob, Fdw_uob, Fdw_4, Fdw_g4, Fdw_v4, Fdw_u4, Fdw_5, Fdw_g5, Fdw_v5, Fdw_u5, Fdw_6, Fdw_g6, Fdw_v6, Fdw_u6, Fdw_7, Fdw_g7, Fdw_v7, Fdw_u7, WdF_0, WdF_1, WdF_len, Wdw_ob, Wdw_0, Wdw_g0, Wdw_v0, Wdw_u0, Wdw_1, Wdw_g1, Wdw_v1, Wdw_u1, AuF_0, AuF_s0, AuF_1, AuF_2, AuF_3, AuF_4, AuF_5, AuF_6, AuF_7, AuF_8, AuF_len, Auw_ob, Auw_uob, Auw_1, Auw_g1, Auw_v1, Auw_u1, Auw_2, Auw_g2, Auw_v2, Auw_u2, Auw_3, Auw_g3, Auw_v3, Auw_u3, Auw_4, Auw_g4, Auw_v4, Auw_u4, Auw_5, Auw_g5, Auw_v5, Auw_u5, Auw_6, Auw_g6, Auw_v6, Auw_u6, Auw_7, Auw_g7, Auw_v7, Auw_u7, Auw_8, Auw_g8, Auw_v8, Auw_u8, SgF_0, SgF_s0, SgF_1, SgF_2, SgF_3, SgF_len, Sgw_ob, Sgw_uob, Sgw_1, Sgw_g1, Sgw_v1, Sgw_u1, Sgw_2, Sgw_g2, Sgw_v2, Sgw_u2, Sgw_3, Sgw_g3, Sgw_v3, Sgw_u3, RdF_0, RdF_1, RdF_2, RdF_s2, RdF_3, RdF_s3, RdF_4, RdF_s4, RdF_5, RdF_s5, RdF_6, RdF_s6, RdF_7, RdF_s7, RdF_8, RdF_s8, RdF_9, RdF_10, RdF_11, RdF_s11, RdF_12, RdF_s12, RdF_13, RdF_s13, RdF_14, RdF_s14, RdF_len, Rdw_ob, Rdw_uob, Rdw_9, Rdw_g9, Rdw_v9, Rdw_u9, Rdw_10, Rdw_g10, Rdw_v10, Rdw_u10, FlF_0, FlF_s0, FlF_1, FlF_s1, FlF_2, FlF_s2, FlF_3, FlF_s3, FlF_4, FlF_5, FlF_6, FlF_7, FlF_s7, FlF_8, FlF_s8, FlF_9, FlF_s9, FlF_10, FlF_s10, FlF_11, FlF_s11, FlF_len, Flw_ob, Flw_uob, Flw_pob, Flw_upob, Flw_p1, Flw_p2, Flw_p3, Flw_lob, Flw_ulob, Flw_l1, Flw_l2, Flw_l3, Flw_rob, Nat.reduceLT, rup_s, rup_rup]
  rw [nI_clamp (show k < 2 ^ 31 by omega), lit_40, pk_mul, nI_clamp (show fr < 2 ^ 31 by omega), nI_clamp (show p.2.length < 2 ^ 31 by omega), nI_clamp (show k * 40 < 2 ^ 31 by omega)]
  refine ⟨vp_in_nI (by omega) (by omega), vp_in_nI (by omega) (by omega), m, 40 * n, f, ?_, r 3, ?_, nI_pos (by omega), nI_pos (by omega), nI_pos (by omega), by omega, by omega, fun i hi => ?_, ?_⟩
  · rw [← hsrc (rup (rup r 1 (upd (r 1) k (nI p.1))) 2 (upd (r 2) k (nI p.2.length))) rfl]
    rfl
  · rfl
  · rw [hf i hi]
    have hmem : p.2.getD i 0 ∈ p.2 := by
      rw [List.getD_eq_getElem?_getD, List.getElem?_eq_getElem hi]
      exact List.getElem_mem _
    obtain ⟨b, hb, b1, b2⟩ := hp.2.2.2 _ hmem
    rw [hb]
    exact fit_b b (by omega)
  · rw [Nat.mul_comm k 40]
    simp only [Sgw_v3]
    exact hK
theorem SGr_put {f : Nat → Int32} {k fr : Nat} {p : aP} {l1 : List aP} (hp : aOk p) (hl : l1.length = k) (hkn : k < n) (h1 : ∀ q ∈ l1, aOk q) (h4 : ∀ i, i < l1.length → r 1 i = nI (aPc l1 i).1 ∧ r 2 i = nI (aPc l1 i).2.length ∧ ∀ j, j < (aPc l1 i).2.length → r 3 (40 * i + j) = (aPc l1 i).2.getD j 0) (hf : ∀ j, j < p.2.length → f (fr + j) = p.2.getD j 0) : (∀ q ∈ l1 ++ [p], aOk q) ∧ (∀ i, i < (l1 ++ [p]).length → ptR r f k fr p 1 i = nI (aPc (l1 ++ [p]) i).1 ∧ ptR r f k fr p 2 i = nI (aPc (l1 ++ [p]) i).2.length ∧ ∀ j, j < (aPc (l1 ++ [p]) i).2.length → ptR r f k fr p 3 (40 * i + j) = (aPc (l1 ++ [p]) i).2.getD j 0) := by
  refine ⟨fun q hq => ?_, fun i hi => ?_⟩
  · rcases List.mem_append.mp hq with hq | hq
    · exact h1 q hq
    · rw [List.mem_singleton.mp hq]; exact hp
  · rw [List.length_append] at hi
    have hi : i < l1.length + 1 := hi
    rw [ptR_1, ptR_2, ptR_3]
    by_cases e : i = l1.length
    · have ea : aPc (l1 ++ [p]) i = p := by
        unfold aPc
        rw [e, List.getD_eq_getElem?_getD, List.getElem?_append_right (Nat.le_refl _), Nat.sub_self]
        rfl
      rw [ea]
      refine ⟨if_pos (by omega), if_pos (by omega), fun j hj => ?_⟩
      rw [pk_cpy_in (by omega) (by omega), ← hf j hj]
      congr 1
      omega
    · have ea : aPc (l1 ++ [p]) i = aPc l1 i := by
        unfold aPc
        rw [List.getD_eq_getElem?_getD, List.getD_eq_getElem?_getD, List.getElem?_append_left (by omega)]
      rw [ea]
      obtain ⟨g1, g2, g3⟩ := h4 i (by omega)
      have := (h1 _ (aPc_mem (show i < l1.length by omega))).2.2.1
      refine ⟨(if_neg (by omega)).trans g1, (if_neg (by omega)).trans g2, fun j hj => ?_⟩
      rw [pk_cpy_out (by omega)]
      exact g3 j hj
def addL (n : Nat) (l : List aP) (p : aP) : List aP := if l.length < n then l ++ [p] else l
theorem c_add {x2 x3 x4 : Int32} {src m fr : Nat} {f : Nat → Int32} {p : aP} (hW : At W s 4 (SgC s n c r)) (hS : SGr n c r l) (hn : n ≤ 10) (hsrc : W.2.2 src = some (.inl (.byte, m, .inl f))) (hout : src < s ∨ s + 4 ≤ src) (hm : fr + p.2.length ≤ m) (hm2 : m < 10000) (hp : aOk p) (hf : ∀ j, j < p.2.length → f (fr + j) = p.2.getD j 0) (h2 : x2 = nI fr) (h3 : x3 = nI p.2.length) (h4 : x4 = nI p.1) (hK : ∀ c' r', SGr n c' r' (addL n l p) → K (Sgw W s n c' r') none) : zcall n_Sg_add [.ref s, .ref src, .int x2, .int x3, .int x4] W K := by
  subst h2 h3 h4
  have h40 := hp.2.2.1
  have hob : ∃ fs, jx_ob W s 4 fs := ⟨_, hW 0 (by decide)⟩
  refine e_Sg_add (b_Sg_add_0 ⟨hob, c_isFull hW hS hn (fun h => ⟨_, rfl, fun _ => b_Sg_add_1 ?_, fun z => absurd z (by decide)⟩) (fun h => ⟨_, rfl, fun z => absurd rfl z, fun _ => ⟨fun z => absurd z (nI_pos (by omega)), fun _ => ⟨fun z => absurd ((nI_ltI (a := 40) (by decide) (by omega)).mp z) (by omega), fun _ => ⟨fun z => absurd z (nI_pos (by omega)), fun _ => ⟨m, f, hsrc, fun _ => b_Sg_add_2 ?_, fun z => absurd ?_ z⟩⟩⟩⟩⟩)⟩)
  · have := hK c r (by rw [addL, if_neg (by omega)]; exact hS)
    rw [Sgw_eq hW] at this
    exact this
  · rw [← Sgw_eq hW]
    simp only [and_assoc, exists_and_left, exists_eq_left, exists_eq_left', Option.some.injEq, Value.int.injEq, Value.ref.injEq, Value.long.injEq, true_and, and_true, exists_eq, exists_true_left, FdF_0, FdF_s0, FdF_1, FdF_s1, FdF_2, FdF_s2, FdF_3, FdF_s3, FdF_4, FdF_5, FdF_6, FdF_7, FdF_len, Fdw_ob, Fdw_uob, Fdw_4, Fdw_g4, Fdw_v4, Fdw_u4, Fdw_5, Fdw_g5, Fdw_v5, Fdw_u5, Fdw_6, Fdw_g6, Fdw_v6, Fdw_u6, Fdw_7, Fdw_g7, Fdw_v7, Fdw_u7, WdF_0, WdF_1, WdF_len, Wdw_ob, Wdw_0, Wdw_g0, Wdw_v0, Wdw_u0, Wdw_1, Wdw_g1, Wdw_v1, Wdw_u1, AuF_0, AuF_s0, AuF_1, AuF_2, AuF_3, AuF_4, AuF_5, AuF_6, AuF_7, AuF_8, AuF_len, Auw_ob, Auw_uob, Auw_1, Auw_g1, Auw_v1, Auw_u1, Auw_2, Auw_g2, Auw_v2, Auw_u2, Auw_3, Auw_g3, Auw_v3, Auw_u3, Auw_4, Auw_g4, Auw_v4, Auw_u4, Auw_5, Auw_g5, Auw_v5, Auw_u5, Auw_6, Auw_g6, Auw_v6, Auw_u6, Auw_7, Auw_g7, Auw_v7, Auw_u7, Auw_8, Auw_g8, Auw_v8, Auw_u8, SgF_0, SgF_s0, SgF_1, SgF_2, SgF_3, SgF_len, Sgw_ob, Sgw_uob, Sgw_1, Sgw_g1, Sgw_v1, Sgw_u1, Sgw_2, Sgw_g2, Sgw_v2, Sgw_u2, Sgw_3, Sgw_g3, Sgw_v3, Sgw_u3, RdF_0, RdF_1, RdF_2, RdF_s2, RdF_3, RdF_s3, RdF_4, RdF_s4, RdF_5, RdF_s5, RdF_6, RdF_s6, RdF_7, RdF_s7, RdF_8, RdF_s8, RdF_9, RdF_10, RdF_11, RdF_s11, RdF_12, RdF_s12, RdF_13, RdF_s13, RdF_14, RdF_s14, RdF_len, Rdw_ob, Rdw_uob, Rdw_9, Rdw_g9, Rdw_v9, Rdw_u9, Rdw_10, Rdw_g10, Rdw_v10, Rdw_u10, FlF_0, FlF_s0, FlF_1, FlF_s1, FlF_2, FlF_s2, FlF_3, FlF_s3, FlF_4, FlF_5, FlF_6, FlF_7, FlF_s7, FlF_8, FlF_s8, FlF_9, FlF_s9, FlF_10, FlF_s10, FlF_11, FlF_s11, FlF_len, Flw_ob, Flw_uob, Flw_pob, Flw_upob, Flw_p1, Flw_p2, Flw_p3, Flw_lob, Flw_ulob, Flw_l1, Flw_l2, Flw_l3, Flw_rob, Nat.reduceLT, rup_s, rup_rup]
    obtain ⟨s1, s2, s3, s4⟩ := hS
    rw [s1]
    refine c_put (src := src) (m := m) (k := l.length) (fr := fr) (f := f) (p := p) hn h (fun r' _ => (Sgw_out hout).trans hsrc) hm hm2 hp hf rfl rfl rfl rfl ?_
    simp only [and_assoc, exists_and_left, exists_eq_left, exists_eq_left', Option.some.injEq, Value.int.injEq, Value.ref.injEq, Value.long.injEq, true_and, and_true, exists_eq, exists_true_left, FdF_0, FdF_s0, FdF_1, FdF_s1, FdF_2, FdF_s2, FdF_3, FdF_s3, FdF_4, FdF_5, FdF_6, FdF_7, FdF_len, Fdw_ob, Fdw_uob, Fdw_4, Fdw_g4, Fdw_v4, Fdw_u4, Fdw_5, Fdw_g5, Fdw_v5, Fdw_u5, Fdw_6, Fdw_g6, Fdw_v6, Fdw_u6, Fdw_7, Fdw_g7, Fdw_v7, Fdw_u7, WdF_0, WdF_1, WdF_len, Wdw_ob, Wdw_0, Wdw_g0, Wdw_v0, Wdw_u0, Wdw_1, Wdw_g1, Wdw_v1, Wdw_u1, AuF_0, AuF_s0, AuF_1, AuF_2, AuF_3, AuF_4, AuF_5, AuF_6, AuF_7, AuF_8, AuF_len, Auw_ob, Auw_uob, Auw_1, Auw_g1, Auw_v1, Auw_u1, Auw_2, Auw_g2, Auw_v2, Auw_u2, Auw_3, Auw_g3, Auw_v3, Auw_u3, Auw_4, Auw_g4, Auw_v4, Auw_u4, Auw_5, Auw_g5, Auw_v5, Auw_u5, Auw_6, Auw_g6, Auw_v6, Auw_u6, Auw_7, Auw_g7, Auw_v7, Auw_u7, Auw_8, Auw_g8, Auw_v8, Auw_u8, SgF_0, SgF_s0, SgF_1, SgF_2, SgF_3, SgF_len, Sgw_ob, Sgw_uob, Sgw_1, Sgw_g1, Sgw_v1, Sgw_u1, Sgw_2, Sgw_g2, Sgw_v2, Sgw_u2, Sgw_3, Sgw_g3, Sgw_v3, Sgw_u3, RdF_0, RdF_1, RdF_2, RdF_s2, RdF_3, RdF_s3, RdF_4, RdF_s4, RdF_5, RdF_s5, RdF_6, RdF_s6, RdF_7, RdF_s7, RdF_8, RdF_s8, RdF_9, RdF_10, RdF_11, RdF_s11, RdF_12, RdF_s12, RdF_13, RdF_s13, RdF_14, RdF_s14, RdF_len, Rdw_ob, Rdw_uob, Rdw_9, Rdw_g9, Rdw_v9, Rdw_u9, Rdw_10, Rdw_g10, Rdw_v10, Rdw_u10, FlF_0, FlF_s0, FlF_1, FlF_s1, FlF_2, FlF_s2, FlF_3, FlF_s3, FlF_4, FlF_5, FlF_6, FlF_7, FlF_s7, FlF_8, FlF_s8, FlF_9, FlF_s9, FlF_10, FlF_s10, FlF_11, FlF_s11, FlF_len, Flw_ob, Flw_uob, Flw_pob, Flw_upob, Flw_p1, Flw_p2, Flw_p3, Flw_lob, Flw_ulob, Flw_l1, Flw_l2, Flw_l3, Flw_rob, Nat.reduceLT, rup_s, rup_rup]
    rw [s1, nI_1]
    obtain ⟨g1, g2⟩ := SGr_put (n := n) (r := r) (f := f) (fr := fr) (p := p) hp rfl h s3 s4 hf
    refine hK _ _ ?_
    rw [addL, if_pos h]
    exact ⟨by rw [List.length_append]; rfl, by rw [List.length_append]; exact h, g1, g2⟩
  · show nI fr ≤ nI m - nI p.2.length
    rw [pk_sub (by omega)]
    exact (nI_leI (by omega) (by omega)).mpr (by omega)
theorem c_isCoveredBefore {x y : Int32} {k o : Nat} (hW : At W s 4 (SgC s n c r)) (hS : SGr n c r l) (hn : n ≤ 10) (hk : k ≤ l.length) (hx : x = nI k) (hy : y = nI o) (ho : o < 2 ^ 30) (h1 : anyF l o k = true → K W (some (.int 1))) (h0 : anyF l o k = false → K W (some (.int 0))) : zcall n_Sg_isCoveredBefore [.ref s, .int x, .int y] W K := by
  subst hx hy
  have hob : ∃ fs, jx_ob W s 4 fs := ⟨_, hW 0 (by decide)⟩
  have hl := hS.2.1
  have loop : ∀ (m i : Nat), i + m = k → anyF l o i = false → zwp n_Sg_isCoveredBefore 1 [(0, .ref s), (1, .int (nI k)), (2, .int (nI o)), (3, .int (nI i))] [] 0 0 W K := by
    intro m
    induction m with
    | zero =>
      intro i hi hf
      obtain rfl : i = k := by omega
      exact b_Sg_isCoveredBefore_1 ⟨fun _ => b_Sg_isCoveredBefore_3 ⟨b01, h0 hf⟩, fun z => absurd (Int32.le_refl _) z⟩
    | succ m ih =>
      intro i hi hf
      refine b_Sg_isCoveredBefore_1 ⟨fun z => absurd ((nI_leI (by omega) (by omega)).mp z) (by omega), fun _ => ⟨hob, c_covers hW hS hn (show i < l.length by omega) rfl rfl ho (fun h => ⟨_, rfl, fun z => absurd z (by decide), fun _ => ⟨b11, h1 ?_⟩⟩) (fun h => ⟨_, rfl, fun _ => b_Sg_isCoveredBefore_2 ?_, fun z => absurd rfl z⟩)⟩⟩
      · exact anyF_iff.mpr ⟨i, by omega, h⟩
      · rw [nI_1]
        refine ih (i + 1) (by omega) ?_
        show (anyF l o i || aCov (aPc l i) o) = false
        rw [hf, h]; rfl
  exact e_Sg_isCoveredBefore (b_Sg_isCoveredBefore_0 (loop k 0 (Nat.zero_add _) rfl))
theorem c_coveredFrom {x : Int32} {o : Nat} (hW : At W s 4 (SgC s n c r)) (hS : SGr n c r l) (hn : n ≤ 10) (hx : x = nI o) (ho : o ≤ 1040) (hK : K W (some (.int (nI (aCount l o))))) : zcall n_Sg_coveredFrom [.ref s, .int x] W K := by
  subst hx
  have hob : ∃ fs, jx_ob W s 4 fs := ⟨_, hW 0 (by decide)⟩
  obtain ⟨s1, s2, s3, s4⟩ := id hS
  rw [← cvK_all s3 ho] at hK
  have inner : ∀ (i B : Nat) (hi : i < l.length) (hB : B = max o (aPc l i).1), zwp n_Sg_coveredFrom 4 [(0, .ref s), (1, .int (nI o)), (2, .int (nI (cvK l o (i + 1)))), (3, .int (nI i))] [] 0 0 W K → ∀ (m t : Nat), t = B ∧ m = (aPc l i).1 + (aPc l i).2.length - B ∨ B ≤ t ∧ t + m = (aPc l i).1 + (aPc l i).2.length → zwp n_Sg_coveredFrom 2 [(0, .ref s), (1, .int (nI o)), (2, .int (nI (cvK l o i + cntR (fun t => !anyF l t i) B (t - B)))), (3, .int (nI i)), (4, .int (nI ((aPc l i).1 + (aPc l i).2.length))), (5, .int (nI t))] [] 0 0 W K := by
    intro i B hi hB hk m
    have hen := ends_le s3 hi
    have hst := (s3 _ (aPc_mem hi)).1
    have hstep := cvK_step (l := l) (o := o) (i := i) ho (by omega)
    rw [← hB] at hstep
    induction m with
    | zero =>
      intro t ht
      refine b_Sg_coveredFrom_2 ⟨fun _ => ?_, fun z => absurd ((nI_leI (by omega) (by omega)).mpr (by omega)) z⟩
      rw [hstep] at hk
      rw [show t - B = (aPc l i).1 + (aPc l i).2.length - B by omega]
      exact hk
    | succ m ih =>
      intro t ht
      have ec : ∀ b : Nat, b = (if !anyF l t i then 1 else 0) → cntR (fun t => !anyF l t i) B (t + 1 - B) = cntR (fun t => !anyF l t i) B (t - B) + b := fun b hb => by
        rw [show t + 1 - B = (t - B) + 1 by omega]
        show cntR _ B (t - B) + (if !anyF l (B + (t - B)) i then 1 else 0) = _
        rw [show B + (t - B) = t by omega, hb]
      refine b_Sg_coveredFrom_2 ⟨fun z => absurd ((nI_leI (by omega) (by omega)).mp z) (by omega), fun _ => ⟨hob, c_isCoveredBefore hW hS hn (show i ≤ l.length by omega) rfl rfl (by omega) (fun h => ⟨_, rfl, fun _ => b_Sg_coveredFrom_3 ?_, fun z => absurd z (by decide)⟩) (fun h => ⟨_, rfl, fun z => absurd rfl z, fun _ => b_Sg_coveredFrom_3 ?_⟩)⟩⟩
      · have := ih (t + 1) (by omega)
        rw [ec 0 (by rw [h]; rfl), Nat.add_zero] at this
        rw [nI_1]
        exact this
      · have := ih (t + 1) (by omega)
        rw [ec 1 (by rw [h]; rfl)] at this
        rw [nI_1, nI_1]
        exact this
  have loop : ∀ (m i : Nat), i + m = l.length → zwp n_Sg_coveredFrom 1 [(0, .ref s), (1, .int (nI o)), (2, .int (nI (cvK l o i))), (3, .int (nI i))] [] 0 0 W K := by
    intro m
    induction m with
    | zero =>
      intro i hi
      obtain rfl : i = l.length := by omega
      have hK2 := hK
      rw [← Sgw_eq hW] at hK2 ⊢
      refine b_Sg_coveredFrom_1 ?_
      simp only [and_assoc, exists_and_left, exists_eq_left, exists_eq_left', Option.some.injEq, Value.int.injEq, Value.ref.injEq, Value.long.injEq, true_and, and_true, exists_eq, exists_true_left, FdF_0, FdF_s0, FdF_1, FdF_s1, FdF_2, FdF_s2, FdF_3, FdF_s3, FdF_4, FdF_5, FdF_6, FdF_7, FdF_len, Fdw_ob, Fdw_uob, Fdw_4, Fdw_g4, Fdw_v4, Fdw_u4, Fdw_5, Fdw_g5, Fdw_v5, Fdw_u5, Fdw_6, Fdw_g6, Fdw_v6, Fdw_u6, Fdw_7, Fdw_g7, Fdw_v7, Fdw_u7, WdF_0, WdF_1, WdF_len, Wdw_ob, Wdw_0, Wdw_g0, Wdw_v0, Wdw_u0, Wdw_1, Wdw_g1, Wdw_v1, Wdw_u1, AuF_0, AuF_s0, AuF_1, AuF_2, AuF_3, AuF_4, AuF_5, AuF_6, AuF_7, AuF_8, AuF_len, Auw_ob, Auw_uob, Auw_1, Auw_g1, Auw_v1, Auw_u1, Auw_2, Auw_g2, Auw_v2, Auw_u2, Auw_3, Auw_g3, Auw_v3, Auw_u3, Auw_4, Auw_g4, Auw_v4, Auw_u4, Auw_5, Auw_g5, Auw_v5, Auw_u5, Auw_6, Auw_g6, Auw_v6, Auw_u6, Auw_7, Auw_g7, Auw_v7, Auw_u7, Auw_8, Auw_g8, Auw_v8, Auw_u8, SgF_0, SgF_s0, SgF_1, SgF_2, SgF_3, SgF_len, Sgw_ob, Sgw_uob, Sgw_1, Sgw_g1, Sgw_v1, Sgw_u1, Sgw_2, Sgw_g2, Sgw_v2, Sgw_u2, Sgw_3, Sgw_g3, Sgw_v3, Sgw_u3, RdF_0, RdF_1, RdF_2, RdF_s2, RdF_3, RdF_s3, RdF_4, RdF_s4, RdF_5, RdF_s5, RdF_6, RdF_s6, RdF_7, RdF_s7, RdF_8, RdF_s8, RdF_9, RdF_10, RdF_11, RdF_s11, RdF_12, RdF_s12, RdF_13, RdF_s13, RdF_14, RdF_s14, RdF_len, Rdw_ob, Rdw_uob, Rdw_9, Rdw_g9, Rdw_v9, Rdw_u9, Rdw_10, Rdw_g10, Rdw_v10, Rdw_u10, FlF_0, FlF_s0, FlF_1, FlF_s1, FlF_2, FlF_s2, FlF_3, FlF_s3, FlF_4, FlF_5, FlF_6, FlF_7, FlF_s7, FlF_8, FlF_s8, FlF_9, FlF_s9, FlF_10, FlF_s10, FlF_11, FlF_s11, FlF_len, Flw_ob, Flw_uob, Flw_pob, Flw_upob, Flw_p1, Flw_p2, Flw_p3, Flw_lob, Flw_ulob, Flw_l1, Flw_l2, Flw_l3, Flw_rob, Nat.reduceLT, rup_s, rup_rup]
      rw [s1]
      exact ⟨fun _ => b_Sg_coveredFrom_5 hK2, fun z => absurd (Int32.le_refl _) z⟩
    | succ m ih =>
      intro i hi
      have hil : i < l.length := by omega
      obtain ⟨q1, q2, -⟩ := s4 i hil
      have hen := ends_le s3 hil
      have h2 := inner i (max o (aPc l i).1) hil rfl (b_Sg_coveredFrom_4 (by rw [nI_1]; exact ih (i + 1) (by omega))) ((aPc l i).1 + (aPc l i).2.length - max o (aPc l i).1) (max o (aPc l i).1) (Or.inl ⟨rfl, rfl⟩)
      rw [Nat.sub_self] at h2
      rw [← Sgw_eq hW] at h2 ⊢
      refine b_Sg_coveredFrom_1 ?_
      simp only [and_assoc, exists_and_left, exists_eq_left, exists_eq_left', Option.some.injEq, Value.int.injEq, Value.ref.injEq, Value.long.injEq, true_and, and_true, exists_eq, exists_true_left, FdF_0, FdF_s0, FdF_1, FdF_s1, FdF_2, FdF_s2, FdF_3, FdF_s3, FdF_4, FdF_5, FdF_6, FdF_7, FdF_len, Fdw_ob, Fdw_uob, Fdw_4, Fdw_g4, Fdw_v4, Fdw_u4, Fdw_5, Fdw_g5, Fdw_v5, Fdw_u5, Fdw_6, Fdw_g6, Fdw_v6, Fdw_u6, Fdw_7, Fdw_g7, Fdw_v7, Fdw_u7, WdF_0, WdF_1, WdF_len, Wdw_ob, Wdw_0, Wdw_g0, Wdw_v0, Wdw_u0, Wdw_1, Wdw_g1, Wdw_v1, Wdw_u1, AuF_0, AuF_s0, AuF_1, AuF_2, AuF_3, AuF_4, AuF_5, AuF_6, AuF_7, AuF_8, AuF_len, Auw_ob, Auw_uob, Auw_1, Auw_g1, Auw_v1, Auw_u1, Auw_2, Auw_g2, Auw_v2, Auw_u2, Auw_3, Auw_g3, Auw_v3, Auw_u3, Auw_4, Auw_g4, Auw_v4, Auw_u4, Auw_5, Auw_g5, Auw_v5, Auw_u5, Auw_6, Auw_g6, Auw_v6, Auw_u6, Auw_7, Auw_g7, Auw_v7, Auw_u7, Auw_8, Auw_g8, Auw_v8, Auw_u8, SgF_0, SgF_s0, SgF_1, SgF_2, SgF_3, SgF_len, Sgw_ob, Sgw_uob, Sgw_1, Sgw_g1, Sgw_v1, Sgw_u1, Sgw_2, Sgw_g2, Sgw_v2, Sgw_u2, Sgw_3, Sgw_g3, Sgw_v3, Sgw_u3, RdF_0, RdF_1, RdF_2, RdF_s2, RdF_3, RdF_s3, RdF_4, RdF_s4, RdF_5, RdF_s5, RdF_6, RdF_s6, RdF_7, RdF_s7, RdF_8, RdF_s8, RdF_9, RdF_10, RdF_11, RdF_s11, RdF_12, RdF_s12, RdF_13, RdF_s13, RdF_14, RdF_s14, RdF_len, Rdw_ob, Rdw_uob, Rdw_9, Rdw_g9, Rdw_v9, Rdw_u9, Rdw_10, Rdw_g10, Rdw_v10, Rdw_u10, FlF_0, FlF_s0, FlF_1, FlF_s1, FlF_2, FlF_s2, FlF_3, FlF_s3, FlF_4, FlF_5, FlF_6, FlF_7, FlF_s7, FlF_8, FlF_s8, FlF_9, FlF_s9, FlF_10, FlF_s10, FlF_11, FlF_s11, FlF_len, Flw_ob, Flw_uob, Flw_pob, Flw_upob, Flw_p1, Flw_p2, Flw_p3, Flw_lob, Flw_ulob, Flw_l1, Flw_l2, Flw_l3, Flw_rob, Nat.reduceLT, rup_s, rup_rup]
      rw [s1, nI_clamp (by omega), q1, q2, nI_add]
      refine ⟨fun z => absurd ((nI_leI (by omega) (by omega)).mp z) (by omega), fun _ => ⟨vp_in_nI (by omega) (by omega), vp_in_nI (by omega) (by omega), vp_in_nI (by omega) (by omega), ?_⟩⟩
      have em : (if nI o < nI (aPc l i).1 then nI (aPc l i).1 else nI o) = nI (max o (aPc l i).1) := by
        by_cases hlt : o < (aPc l i).1
        · rw [if_pos ((nI_ltI (by omega) (by omega)).mpr hlt), Nat.max_eq_right (by omega)]
        · rw [if_neg (fun z => hlt ((nI_ltI (by omega) (by omega)).mp z)), Nat.max_eq_left (by omega)]
      rw [em]
      exact h2
  have h0 := loop l.length 0 (Nat.zero_add _)
  rw [show cvK l o 0 = 0 from cntR_zero (fun _ _ _ => rfl)] at h0
  exact e_Sg_coveredFrom (b_Sg_coveredFrom_0 h0)
theorem c_smallestStart (hW : At W s 4 (SgC s n c r)) (hS : SGr n c r l) (hn : n ≤ 10) (hK : K W (some (.int (nI (minS l l.length))))) : zcall n_Sg_smallestStart [.ref s] W K := by
  obtain ⟨s1, s2, s3, s4⟩ := id hS
  rw [← Sgw_eq hW] at hK ⊢
  have loop : ∀ (m i : Nat), i + m = l.length → zwp n_Sg_smallestStart 1 [(0, .ref s), (1, .int (nI (minS l i))), (2, .int (nI i))] [] 0 0 (Sgw W s n c r) K := by
    intro m
    induction m with
    | zero =>
      intro i hi
      obtain rfl : i = l.length := by omega
      refine b_Sg_smallestStart_1 ?_
      simp only [and_assoc, exists_and_left, exists_eq_left, exists_eq_left', Option.some.injEq, Value.int.injEq, Value.ref.injEq, Value.long.injEq, true_and, and_true, exists_eq, exists_true_left, FdF_0, FdF_s0, FdF_1, FdF_s1, FdF_2, FdF_s2, FdF_3, FdF_s3, FdF_4, FdF_5, FdF_6, FdF_7, FdF_len, Fdw_ob, Fdw_uob, Fdw_4, Fdw_g4, Fdw_v4, Fdw_u4, Fdw_5, Fdw_g5, Fdw_v5, Fdw_u5, Fdw_6, Fdw_g6, Fdw_v6, Fdw_u6, Fdw_7, Fdw_g7, Fdw_v7, Fdw_u7, WdF_0, WdF_1, WdF_len, Wdw_ob, Wdw_0, Wdw_g0, Wdw_v0, Wdw_u0, Wdw_1, Wdw_g1, Wdw_v1, Wdw_u1, AuF_0, AuF_s0, AuF_1, AuF_2, AuF_3, AuF_4, AuF_5, AuF_6, AuF_7, AuF_8, AuF_len, Auw_ob, Auw_uob, Auw_1, Auw_g1, Auw_v1, Auw_u1, Auw_2, Auw_g2, Auw_v2, Auw_u2, Auw_3, Auw_g3, Auw_v3, Auw_u3, Auw_4, Auw_g4, Auw_v4, Auw_u4, Auw_5, Auw_g5, Auw_v5, Auw_u5, Auw_6, Auw_g6, Auw_v6, Auw_u6, Auw_7, Auw_g7, Auw_v7, Auw_u7, Auw_8, Auw_g8, Auw_v8, Auw_u8, SgF_0, SgF_s0, SgF_1, SgF_2, SgF_3, SgF_len, Sgw_ob, Sgw_uob, Sgw_1, Sgw_g1, Sgw_v1, Sgw_u1, Sgw_2, Sgw_g2, Sgw_v2, Sgw_u2, Sgw_3, Sgw_g3, Sgw_v3, Sgw_u3, RdF_0, RdF_1, RdF_2, RdF_s2, RdF_3, RdF_s3, RdF_4, RdF_s4, RdF_5, RdF_s5, RdF_6, RdF_s6, RdF_7, RdF_s7, RdF_8, RdF_s8, RdF_9, RdF_10, RdF_11, RdF_s11, RdF_12, RdF_s12, RdF_13, RdF_s13, RdF_14, RdF_s14, RdF_len, Rdw_ob, Rdw_uob, Rdw_9, Rdw_g9, Rdw_v9, Rdw_u9, Rdw_10, Rdw_g10, Rdw_v10, Rdw_u10, FlF_0, FlF_s0, FlF_1, FlF_s1, FlF_2, FlF_s2, FlF_3, FlF_s3, FlF_4, FlF_5, FlF_6, FlF_7, FlF_s7, FlF_8, FlF_s8, FlF_9, FlF_s9, FlF_10, FlF_s10, FlF_11, FlF_s11, FlF_len, Flw_ob, Flw_uob, Flw_pob, Flw_upob, Flw_p1, Flw_p2, Flw_p3, Flw_lob, Flw_ulob, Flw_l1, Flw_l2, Flw_l3, Flw_rob, Nat.reduceLT, rup_s, rup_rup]
      rw [s1]
      exact ⟨fun _ => b_Sg_smallestStart_2 hK, fun z => absurd (Int32.le_refl _) z⟩
    | succ m ih =>
      intro i hi
      obtain ⟨q1, -⟩ := s4 i (by omega)
      have o1 := (s3 _ (aPc_mem (show i < l.length by omega))).1
      have hb := minS_bd (l := l) (k := i)
      refine b_Sg_smallestStart_1 ?_
      simp only [and_assoc, exists_and_left, exists_eq_left, exists_eq_left', Option.some.injEq, Value.int.injEq, Value.ref.injEq, Value.long.injEq, true_and, and_true, exists_eq, exists_true_left, FdF_0, FdF_s0, FdF_1, FdF_s1, FdF_2, FdF_s2, FdF_3, FdF_s3, FdF_4, FdF_5, FdF_6, FdF_7, FdF_len, Fdw_ob, Fdw_uob, Fdw_4, Fdw_g4, Fdw_v4, Fdw_u4, Fdw_5, Fdw_g5, Fdw_v5, Fdw_u5, Fdw_6, Fdw_g6, Fdw_v6, Fdw_u6, Fdw_7, Fdw_g7, Fdw_v7, Fdw_u7, WdF_0, WdF_1, WdF_len, Wdw_ob, Wdw_0, Wdw_g0, Wdw_v0, Wdw_u0, Wdw_1, Wdw_g1, Wdw_v1, Wdw_u1, AuF_0, AuF_s0, AuF_1, AuF_2, AuF_3, AuF_4, AuF_5, AuF_6, AuF_7, AuF_8, AuF_len, Auw_ob, Auw_uob, Auw_1, Auw_g1, Auw_v1, Auw_u1, Auw_2, Auw_g2, Auw_v2, Auw_u2, Auw_3, Auw_g3, Auw_v3, Auw_u3, Auw_4, Auw_g4, Auw_v4, Auw_u4, Auw_5, Auw_g5, Auw_v5, Auw_u5, Auw_6, Auw_g6, Auw_v6, Auw_u6, Auw_7, Auw_g7, Auw_v7, Auw_u7, Auw_8, Auw_g8, Auw_v8, Auw_u8, SgF_0, SgF_s0, SgF_1, SgF_2, SgF_3, SgF_len, Sgw_ob, Sgw_uob, Sgw_1, Sgw_g1, Sgw_v1, Sgw_u1, Sgw_2, Sgw_g2, Sgw_v2, Sgw_u2, Sgw_3, Sgw_g3, Sgw_v3, Sgw_u3, RdF_0, RdF_1, RdF_2, RdF_s2, RdF_3, RdF_s3, RdF_4, RdF_s4, RdF_5, RdF_s5, RdF_6, RdF_s6, RdF_7, RdF_s7, RdF_8, RdF_s8, RdF_9, RdF_10, RdF_11, RdF_s11, RdF_12, RdF_s12, RdF_13, RdF_s13, RdF_14, RdF_s14, RdF_len, Rdw_ob, Rdw_uob, Rdw_9, Rdw_g9, Rdw_v9, Rdw_u9, Rdw_10, Rdw_g10, Rdw_v10, Rdw_u10, FlF_0, FlF_s0, FlF_1, FlF_s1, FlF_2, FlF_s2, FlF_3, FlF_s3, FlF_4, FlF_5, FlF_6, FlF_7, FlF_s7, FlF_8, FlF_s8, FlF_9, FlF_s9, FlF_10, FlF_s10, FlF_11, FlF_s11, FlF_len, Flw_ob, Flw_uob, Flw_pob, Flw_upob, Flw_p1, Flw_p2, Flw_p3, Flw_lob, Flw_ulob, Flw_l1, Flw_l2, Flw_l3, Flw_rob, Nat.reduceLT, rup_s, rup_rup]
      rw [s1, nI_clamp (by omega), q1, nI_1]
      refine ⟨fun z => absurd ((nI_leI (by omega) (by omega)).mp z) (by omega), fun _ => ⟨vp_in_nI (by omega) (by omega), ?_⟩⟩
      have em : (if nI (aPc l i).1 < nI (minS l i) then nI (aPc l i).1 else nI (minS l i)) = nI (minS l (i + 1)) := by
        show _ = nI (min (minS l i) (aPc l i).1)
        by_cases hlt : (aPc l i).1 < minS l i
        · rw [if_pos ((nI_ltI (by omega) (by omega)).mpr hlt), Nat.min_eq_right (by omega)]
        · rw [if_neg (fun z => hlt ((nI_ltI (by omega) (by omega)).mp z)), Nat.min_eq_left (by omega)]
      rw [em]
      exact ih (i + 1) (by omega)
  exact e_Sg_smallestStart (b_Sg_smallestStart_0 (loop l.length 0 (Nat.zero_add _)))
end CSegs
