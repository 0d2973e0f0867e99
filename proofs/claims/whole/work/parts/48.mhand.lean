/-! THE MODEL: handles(..) -/
def leastF (l : List aP) : Nat → Nat → Nat
  | 0, a => a
  | n + 1, a => if aAny l a then a else leastF l n (a + 1)
def aLeast (l : List aP) (a : Nat) : Nat := leastF l (1040 - a) a
theorem leastF_ok {l : List aP} : ∀ {n a t : Nat}, a ≤ t → t < a + n → aAny l t = true → isLeast l a (leastF l n a)
  | 0, a, t, h1, h2, _ => absurd h2 (by omega)
  | n + 1, a, t, h1, h2, h3 => by
    unfold leastF
    split
    · rename_i h
      exact ⟨Nat.le_refl _, h, fun u a1 a2 => absurd a2 (by omega)⟩
    · rename_i h
      have hne : a ≠ t := fun e => h (by rw [e]; exact h3)
      obtain ⟨i1, i2, i3⟩ := leastF_ok (l := l) (n := n) (a := a + 1) (t := t) (by omega) (by omega) h3
      refine ⟨by omega, i2, fun u a1 a2 => ?_⟩
      by_cases hu : u = a
      · rw [hu]; simpa using h
      · exact i3 u (by omega) a2
theorem aCnt_pos {l : List aP} {a : Nat} : ∀ {n : Nat}, 0 < aCnt l a n → ∃ t, a ≤ t ∧ aAny l t = true
  | 0, h => absurd h (by show ¬ 0 < 0; decide)
  | n + 1, h => by
    unfold aCnt at h
    split at h
    · exact ⟨a + n, by omega, by assumption⟩
    · exact aCnt_pos (n := n) (by omega)
theorem aLeast_ok {l : List aP} {a : Nat} (hl : ∀ p ∈ l, aOk p) (h : 0 < aCount l a) : isLeast l a (aLeast l a) ∧ aLeast l a < 1040 := by
  obtain ⟨t, h1, h2⟩ := aCnt_pos h
  have ht : t < 1040 := by
    rcases Nat.lt_or_ge t 1040 with h3 | h3
    · exact h3
    · rw [no_cov hl h3] at h2; cases h2
  have hL := leastF_ok (l := l) (n := 1040 - a) h1 (by omega) h2
  refine ⟨hL, ?_⟩
  rcases Nat.lt_or_ge (aLeast l a) 1040 with h3 | h3
  · exact h3
  · have := hL.2.1
    rw [show leastF l (1040 - a) a = aLeast l a from rfl, no_cov hl h3] at this
    cases this
def aGaps (A : aAU) (ky : aKy) : Nat → aF → aF
  | 0, F => F
  | n + 1, F => if aCount F.2.2.1 F.2.1 ≤ ky.2.2.2 then F else aGaps A ky n (aDeliver A ky (aGap A ky F (aLeast F.2.2.1 F.2.1)))
def aHandle (A : aAU) (ky : aKy) (F : aF) (p : aP) : aF :=
  if p.1 + p.2.length ≤ F.2.1 then (F.1, F.2.1, F.2.2.1, F.2.2.2.1, F.2.2.2.2.1, F.2.2.2.2.2.1, F.2.2.2.2.2.2.1 + 1, F.2.2.2.2.2.2.2 + 1)
  else aGaps A ky 6 (aDeliver A ky (F.1, F.2.1, F.2.2.1 ++ [p], F.2.2.2.1, F.2.2.2.2.1, F.2.2.2.2.2.1, F.2.2.2.2.2.2.1 + 1, F.2.2.2.2.2.2.2))
/-- how a flow may be -/
def fOk (A : aAU) (F : aF) : Prop := sOk A F.1.1 ∧ F.2.1 ≤ 1040 ∧ (∀ p ∈ F.2.2.1, aOk p) ∧ F.2.2.1.length ≤ 6
theorem aDeliver_ok {A : aAU} {ky : aKy} {F : aF} (hA : auOk A) (h : fOk A F) : fOk A (aDeliver A ky F) := by
  obtain ⟨h1, h2, h3, h4⟩ := h
  refine ⟨aDel_ok hA (by show F.2.1 + _ ≤ 1040; omega) h1, (aDel_off (by show F.2.1 + _ ≤ 1040; omega)).2, fun p hp => h3 p (List.mem_filter.mp hp).1, Nat.le_trans (List.length_filter_le _ _) h4⟩
theorem aGap_fok {A : aAU} {ky : aKy} {F : aF} (hA : auOk A) (h : fOk A F) (hc : 0 < aCount F.2.2.1 F.2.1) : fOk A (aGap A ky F (aLeast F.2.2.1 F.2.1)) :=
  ⟨aGap_ok hA h.1 (by have := h.2.1; omega), Nat.le_of_lt (aLeast_ok h.2.2.1 hc).2, h.2.2.1, h.2.2.2⟩
/-- behind a gap at least one piece goes -/
theorem aGap_less {A : aAU} {ky : aKy} {F : aF} (h : fOk A F) (hc : 0 < aCount F.2.2.1 F.2.1) : (aDeliver A ky (aGap A ky F (aLeast F.2.2.1 F.2.1))).2.2.1.length < F.2.2.1.length := by
  obtain ⟨⟨l1, l2, l3⟩, l4⟩ := aLeast_ok h.2.2.1 hc
  obtain ⟨i, hi, hcov⟩ := aAny_iff.mp l2
  have hcv := aCov_iff.mp hcov
  obtain ⟨s, hs⟩ : ∃ s, s = aDel A ky F.2.2.1 (1040 - aLeast F.2.2.1 F.2.1) ((aGap A ky F (aLeast F.2.2.1 F.2.1)).1, aLeast F.2.2.1 F.2.1, F.2.2.2.1) := ⟨_, rfl⟩
  have o1 : aLeast F.2.2.1 F.2.1 ≤ s.2.1 := by rw [hs]; exact (aDel_off (A := A) (ky := ky) (ps := F.2.2.1) (n := 1040 - aLeast F.2.2.1 F.2.1) (s := ((aGap A ky F (aLeast F.2.2.1 F.2.1)).1, aLeast F.2.2.1 F.2.1, F.2.2.2.1)) (by show aLeast F.2.2.1 F.2.1 + (1040 - aLeast F.2.2.1 F.2.1) ≤ 1040; omega)).1
  have o2 : aAny F.2.2.1 s.2.1 = false := by rw [hs]; exact aDel_end (A := A) (ky := ky) (ps := F.2.2.1) h.2.2.1 (n := 1040 - aLeast F.2.2.1 F.2.1) (s := ((aGap A ky F (aLeast F.2.2.1 F.2.1)).1, aLeast F.2.2.1 F.2.1, F.2.2.2.1)) (by show aLeast F.2.2.1 F.2.1 + (1040 - aLeast F.2.2.1 F.2.1) = 1040; omega)
  have hend : ¬ s.2.1 < (aPc F.2.2.1 i).1 + (aPc F.2.2.1 i).2.length := fun hlt => by
    have : aAny F.2.2.1 s.2.1 = true := aAny_iff.mpr ⟨i, hi, aCov_iff.mpr ⟨by omega, hlt⟩⟩
    rw [o2] at this
    cases this
  show (aDrop (aDel A ky F.2.2.1 (1040 - aLeast F.2.2.1 F.2.1) ((aGap A ky F (aLeast F.2.2.1 F.2.1)).1, aLeast F.2.2.1 F.2.1, F.2.2.2.1)).2.1 F.2.2.1).length < _
  rw [← hs]
  exact List.length_filter_lt_length_iff_exists.mpr ⟨_, aPc_mem hi, by simpa using Nat.not_lt.mp hend⟩
theorem aCount_nil {a : Nat} : aCount [] a = 0 := by
  unfold aCount
  show aCnt [] a (a - a) = 0
  rw [Nat.sub_self]; rfl
def cpb (g : Nat → Int32) (base : Nat) (bs : List Int32) (i : Nat) : Nat → Int32 := fun k => if base ≤ k ∧ k < base + i then bs.getD (k - base) 0 else g k
theorem cpb_step {g : Nat → Int32} {base i : Nat} {bs : List Int32} : upd (cpb g base bs i) (base + i) (bs.getD i 0) = cpb g base bs (i + 1) := by
  funext k
  show (if k = base + i then bs.getD i 0 else if base ≤ k ∧ k < base + i then bs.getD (k - base) 0 else g k) = if base ≤ k ∧ k < base + (i + 1) then bs.getD (k - base) 0 else g k
  by_cases h1 : k = base + i
  · rw [if_pos h1, if_pos (by omega), h1, Nat.add_sub_cancel_left]
  · rw [if_neg h1]
    by_cases h2 : base ≤ k ∧ k < base + i
    · rw [if_pos h2, if_pos (by omega)]
    · rw [if_neg h2, if_neg (by omega)]
theorem MP_add {g g' : Nat → Int32} {l : List aP} {p : aP} (h : MP g l) (hl : l.length < 6) (hp : aOk p) (h5 : g' 5 = nI (l.length + 1)) (e : ∀ i, 38 ≤ i → i < 38 + 42 * l.length → g' i = g i) (hpc : PC g' (38 + 42 * l.length) p) : MP g' (l ++ [p]) := by
  obtain ⟨h1, h2, h3, h4⟩ := h
  refine ⟨by rw [List.length_append]; exact h5, by rw [List.length_append]; show l.length + 1 ≤ 6; omega, fun q hq => ?_, fun i hi => ?_⟩
  · rcases List.mem_append.mp hq with hq | hq
    · exact h3 q hq
    · rw [List.mem_singleton.mp hq]; exact hp
  · rw [List.length_append] at hi
    have hi : i < l.length + 1 := hi
    by_cases hil : i < l.length
    · have ea : aPc (l ++ [p]) i = aPc l i := by
        unfold aPc
        rw [List.getD_eq_getElem?_getD, List.getD_eq_getElem?_getD, List.getElem?_append_left hil]
      rw [ea]
      refine PC_congr (h4 i hil) (fun j hj => e _ (by omega) ?_)
      have := (h3 _ (aPc_mem hil)).2.2.1
      omega
    · have : i = l.length := by omega
      subst this
      have ea : aPc (l ++ [p]) l.length = p := by
        unfold aPc
        rw [List.getD_eq_getElem?_getD, List.getElem?_append_right (Nat.le_refl _), Nat.sub_self]
        rfl
      rw [ea]
      exact hpc
section MHand
variable {w : jx_W} {q : Nat} {c : Nat → Int32} {r : Nat → Nat → Int32} {K : jx_Q} {P g : Nat → Int32} {b : Nat} {A : aAU}
theorem f_gaps_loop {f0 n0 : Nat} {ky : aKy} (hf : b + 710 ≤ 22416) (hb1 : 186 ≤ b) (hA : auOk A) (hky : kyOk ky) : ∀ (n : Nat) (F : aF) (c P g : Nat → Int32), F.2.2.1.length ≤ n → c 12 = nI b → MA c r A → PWd P A → fOk A F → MFw f0 n0 c P g ky F →
    (∀ c' P' g', MFw f0 n0 c' P' g' ky (aGaps A ky n F) → CFr c c' → PFr P P' → GLg g g' → K (mw w q c' (rup r 0 (pgf P' b 710 g'))) none) →
    zwp n_M_handles 4 [(0, .ref q)] [] 0 0 (mw w q c (rup r 0 (pgf P b 710 g))) K := by
  intro n
  induction n with
  | zero =>
    intro F c P g hn hb hm hW hO hF hK
    have hnil : F.2.2.1 = [] := List.length_eq_zero_iff.mp (by omega)
    refine b_M_handles_4 ?_
    simp only [and_assoc, exists_and_left, exists_eq_left, exists_eq_left', Option.some.injEq, Value.int.injEq, Value.ref.injEq, Value.long.injEq, true_and, and_true, exists_eq, exists_true_left, mw_ob, mw_ia0, mw_ia2, mw_ia5, mw_ia6, mw_ia7, mw_ia8, mw_ia9, mw_ia10, mw_ia11, mw_ia15, mw_ia16, mF_0, mF_1, mF_2, mF_3, mF_4, mF_5, mF_6, mF_7, mF_8, mF_9, mF_10, mF_11, mF_12, mF_13, mF_14, mF_15, mF_16, mF_len, mF_s1, mF_s3, mF_s4, mF_s12, mF_s13, mF_s14, mw_uob, mw_u0, mw_u2, mw_u5, mw_u6, mw_u7, mw_u8, mw_u9, mw_u10, mw_u11, mw_u15, mw_u16, Nat.reduceLT, rup_s, rup_rup]
    have ho := hO.2.1
    refine f_covered0 (a := F.2.1) (pol := ky.2.1) hb hf hF.2.2.2.1 hF.2.2.1 (by omega) hF.2.2.2.2.2.2.2.2.2.2.1 hky.1 ?_
    simp only [and_assoc, exists_and_left, exists_eq_left, exists_eq_left', Option.some.injEq, Value.int.injEq, Value.ref.injEq, Value.long.injEq, true_and, and_true, exists_eq, exists_true_left, mw_ob, mw_ia0, mw_ia2, mw_ia5, mw_ia6, mw_ia7, mw_ia8, mw_ia9, mw_ia10, mw_ia11, mw_ia15, mw_ia16, mF_0, mF_1, mF_2, mF_3, mF_4, mF_5, mF_6, mF_7, mF_8, mF_9, mF_10, mF_11, mF_12, mF_13, mF_14, mF_15, mF_16, mF_len, mF_s1, mF_s3, mF_s4, mF_s12, mF_s13, mF_s14, mw_uob, mw_u0, mw_u2, mw_u5, mw_u6, mw_u7, mw_u8, mw_u9, mw_u10, mw_u11, mw_u15, mw_u16, Nat.reduceLT, rup_s, rup_rup]
    refine f_of hb (i := 3) rfl (by decide) hf ?_
    simp only [and_assoc, exists_and_left, exists_eq_left, exists_eq_left', Option.some.injEq, Value.int.injEq, Value.ref.injEq, Value.long.injEq, true_and, and_true, exists_eq, exists_true_left, mw_ob, mw_ia0, mw_ia2, mw_ia5, mw_ia6, mw_ia7, mw_ia8, mw_ia9, mw_ia10, mw_ia11, mw_ia15, mw_ia16, mF_0, mF_1, mF_2, mF_3, mF_4, mF_5, mF_6, mF_7, mF_8, mF_9, mF_10, mF_11, mF_12, mF_13, mF_14, mF_15, mF_16, mF_len, mF_s1, mF_s3, mF_s4, mF_s12, mF_s13, mF_s14, mw_uob, mw_u0, mw_u2, mw_u5, mw_u6, mw_u7, mw_u8, mw_u9, mw_u10, mw_u11, mw_u15, mw_u16, Nat.reduceLT, rup_s, rup_rup]
    rw [hnil, aCount_nil, hF.2.2.2.2.2.2.2.2.2.2.2.2]
    have := hky.2.2.2
    exact ⟨fun _ => b_M_handles_5 (hK c P g hF CFr.rf PFr.rf GLg.rf), fun z => absurd ((nI_leI (by decide) (by omega)).mpr (Nat.zero_le _)) z⟩
  | succ n ih =>
    intro F c P g hn hb hm hW hO hF hK
    have ho := hO.2.1
    have hbn := hky.2.2
    have hcl : aCount F.2.2.1 F.2.1 < 4000 := by
      have h1 := aCnt_le (l := F.2.2.1) (a := F.2.1) (n := aMost F.2.1 F.2.2.1 F.2.2.1.length - F.2.1)
      have h2 : aMost F.2.1 F.2.2.1 F.2.2.1.length ≤ 1040 := aMost_le (by omega) (fun i hi => Nat.le_trans (ends_le hO.2.2.1 hi) (by omega)) (Nat.le_refl _)
      unfold aCount
      omega
    refine b_M_handles_4 ?_
    simp only [and_assoc, exists_and_left, exists_eq_left, exists_eq_left', Option.some.injEq, Value.int.injEq, Value.ref.injEq, Value.long.injEq, true_and, and_true, exists_eq, exists_true_left, mw_ob, mw_ia0, mw_ia2, mw_ia5, mw_ia6, mw_ia7, mw_ia8, mw_ia9, mw_ia10, mw_ia11, mw_ia15, mw_ia16, mF_0, mF_1, mF_2, mF_3, mF_4, mF_5, mF_6, mF_7, mF_8, mF_9, mF_10, mF_11, mF_12, mF_13, mF_14, mF_15, mF_16, mF_len, mF_s1, mF_s3, mF_s4, mF_s12, mF_s13, mF_s14, mw_uob, mw_u0, mw_u2, mw_u5, mw_u6, mw_u7, mw_u8, mw_u9, mw_u10, mw_u11, mw_u15, mw_u16, Nat.reduceLT, rup_s, rup_rup]
    refine f_covered0 (a := F.2.1) (pol := ky.2.1) hb hf hF.2.2.2.1 hF.2.2.1 (by omega) hF.2.2.2.2.2.2.2.2.2.2.1 hky.1 ?_
    simp only [and_assoc, exists_and_left, exists_eq_left, exists_eq_left', Option.some.injEq, Value.int.injEq, Value.ref.injEq, Value.long.injEq, true_and, and_true, exists_eq, exists_true_left, mw_ob, mw_ia0, mw_ia2, mw_ia5, mw_ia6, mw_ia7, mw_ia8, mw_ia9, mw_ia10, mw_ia11, mw_ia15, mw_ia16, mF_0, mF_1, mF_2, mF_3, mF_4, mF_5, mF_6, mF_7, mF_8, mF_9, mF_10, mF_11, mF_12, mF_13, mF_14, mF_15, mF_16, mF_len, mF_s1, mF_s3, mF_s4, mF_s12, mF_s13, mF_s14, mw_uob, mw_u0, mw_u2, mw_u5, mw_u6, mw_u7, mw_u8, mw_u9, mw_u10, mw_u11, mw_u15, mw_u16, Nat.reduceLT, rup_s, rup_rup]
    refine f_of hb (i := 3) rfl (by decide) hf ?_
    simp only [and_assoc, exists_and_left, exists_eq_left, exists_eq_left', Option.some.injEq, Value.int.injEq, Value.ref.injEq, Value.long.injEq, true_and, and_true, exists_eq, exists_true_left, mw_ob, mw_ia0, mw_ia2, mw_ia5, mw_ia6, mw_ia7, mw_ia8, mw_ia9, mw_ia10, mw_ia11, mw_ia15, mw_ia16, mF_0, mF_1, mF_2, mF_3, mF_4, mF_5, mF_6, mF_7, mF_8, mF_9, mF_10, mF_11, mF_12, mF_13, mF_14, mF_15, mF_16, mF_len, mF_s1, mF_s3, mF_s4, mF_s12, mF_s13, mF_s14, mw_uob, mw_u0, mw_u2, mw_u5, mw_u6, mw_u7, mw_u8, mw_u9, mw_u10, mw_u11, mw_u15, mw_u16, Nat.reduceLT, rup_s, rup_rup]
    rw [hF.2.2.2.2.2.2.2.2.2.2.2.2]
    refine ⟨fun z => b_M_handles_5 (hK c P g ?_ CFr.rf PFr.rf GLg.rf), fun z => ?_⟩
    · have z := (nI_leI (by omega) (by omega)).mp z
      show MFw f0 n0 c P g ky (if _ then _ else _)
      rw [if_pos z]
      exact hF
    · have z : ¬ aCount F.2.2.1 F.2.1 ≤ ky.2.2.2 := fun y => z ((nI_leI (by omega) (by omega)).mpr y)
      have hpos : 0 < aCount F.2.2.1 F.2.1 := by omega
      obtain ⟨l1, l2⟩ := aLeast_ok hO.2.2.1 hpos
      have eG : aGaps A ky (n + 1) F = aGaps A ky n (aDeliver A ky (aGap A ky F (aLeast F.2.2.1 F.2.1))) := by
        show (if _ then _ else _) = _
        rw [if_neg z]
      rw [eG] at hK
      refine f_covered1 (a := F.2.1) (pol := ky.2.1) hb hf hF.2.2.2.1 hF.2.2.1 (by omega) hF.2.2.2.2.2.2.2.2.2.2.1 hky.1 l1 ?_
      simp only [and_assoc, exists_and_left, exists_eq_left, exists_eq_left', Option.some.injEq, Value.int.injEq, Value.ref.injEq, Value.long.injEq, true_and, and_true, exists_eq, exists_true_left, mw_ob, mw_ia0, mw_ia2, mw_ia5, mw_ia6, mw_ia7, mw_ia8, mw_ia9, mw_ia10, mw_ia11, mw_ia15, mw_ia16, mF_0, mF_1, mF_2, mF_3, mF_4, mF_5, mF_6, mF_7, mF_8, mF_9, mF_10, mF_11, mF_12, mF_13, mF_14, mF_15, mF_16, mF_len, mF_s1, mF_s3, mF_s4, mF_s12, mF_s13, mF_s14, mw_uob, mw_u0, mw_u2, mw_u5, mw_u6, mw_u7, mw_u8, mw_u9, mw_u10, mw_u11, mw_u15, mw_u16, Nat.reduceLT, rup_s, rup_rup]
      have hO1 := aGap_fok (ky := ky) hA hO hpos
      refine f_gap (ky := ky) hb hf hb1 hA hky hm hW hO.1 l1.1 (by omega) rfl hF (fun c1 P1 g1 m1 m2 m3 m4 => ?_)
      simp only [and_assoc, exists_and_left, exists_eq_left, exists_eq_left', Option.some.injEq, Value.int.injEq, Value.ref.injEq, Value.long.injEq, true_and, and_true, exists_eq, exists_true_left, mw_ob, mw_ia0, mw_ia2, mw_ia5, mw_ia6, mw_ia7, mw_ia8, mw_ia9, mw_ia10, mw_ia11, mw_ia15, mw_ia16, mF_0, mF_1, mF_2, mF_3, mF_4, mF_5, mF_6, mF_7, mF_8, mF_9, mF_10, mF_11, mF_12, mF_13, mF_14, mF_15, mF_16, mF_len, mF_s1, mF_s3, mF_s4, mF_s12, mF_s13, mF_s14, mw_uob, mw_u0, mw_u2, mw_u5, mw_u6, mw_u7, mw_u8, mw_u9, mw_u10, mw_u11, mw_u15, mw_u16, Nat.reduceLT, rup_s, rup_rup]
      refine f_deliversAll (m2.b hb) hf hb1 hA hky (hm.fr m2) (hW.fr m3) hO1.1 hO1.2.1 m1 (fun c2 P2 g2 t1 t2 t3 t4 => ?_)
      simp only [and_assoc, exists_and_left, exists_eq_left, exists_eq_left', Option.some.injEq, Value.int.injEq, Value.ref.injEq, Value.long.injEq, true_and, and_true, exists_eq, exists_true_left, mw_ob, mw_ia0, mw_ia2, mw_ia5, mw_ia6, mw_ia7, mw_ia8, mw_ia9, mw_ia10, mw_ia11, mw_ia15, mw_ia16, mF_0, mF_1, mF_2, mF_3, mF_4, mF_5, mF_6, mF_7, mF_8, mF_9, mF_10, mF_11, mF_12, mF_13, mF_14, mF_15, mF_16, mF_len, mF_s1, mF_s3, mF_s4, mF_s12, mF_s13, mF_s14, mw_uob, mw_u0, mw_u2, mw_u5, mw_u6, mw_u7, mw_u8, mw_u9, mw_u10, mw_u11, mw_u15, mw_u16, Nat.reduceLT, rup_s, rup_rup]
      have hless := aGap_less (ky := ky) hO hpos
      exact ih _ c2 P2 g2 (by omega) (t2.b (m2.b hb)) ((hm.fr m2).fr t2) ((hW.fr m3).fr t3) (aDeliver_ok hA hO1) t1 (fun c3 P3 g3 u1 u2 u3 u4 => hK c3 P3 g3 u1 ((m2.tr t2).tr u2) ((m3.tr t3).tr u3) ((m4.tr t4).tr u4))
theorem f_cpb_loop {n src L : Nat} {bs : List Int32} (hb : c 12 = nI b) (hf : b + 710 ≤ 22416) (hn : n < 6) (hL : L ≤ 40) (hsrc : src + L ≤ b ∨ b + 710 ≤ src) (hs2 : src + L ≤ 22416) (hbs : ∀ i, i < L → P (src + i) = bs.getD i 0) (hK : zwp n_M_handles 3 [(0, .ref q)] [] 0 0 (mw w q c (rup r 0 (pgf P b 710 (cpb g (40 + 42 * n) bs L)))) K) : ∀ (m i : Nat), i + m = L → zwp n_M_handles 2 [(0, .ref q), (2, .int (nI L)), (3, .int (nI src)), (4, .int (nI (b + 38 + 42 * n))), (5, .int (nI i))] [] 0 0 (mw w q c (rup r 0 (pgf P b 710 (cpb g (40 + 42 * n) bs i)))) K := by
  intro m
  induction m with
  | zero =>
    intro i hi
    refine b_M_handles_2 ⟨fun _ => ?_, fun z => absurd ((nI_leI (by omega) (by omega)).mpr (by omega)) z⟩
    rw [show i = L by omega]
    exact hK
  | succ m ih =>
    intro i hi
    refine b_M_handles_2 ⟨fun z => absurd ((nI_leI (by omega) (by omega)).mp z) (by omega), fun _ => ?_⟩
    simp only [and_assoc, exists_and_left, exists_eq_left, exists_eq_left', Option.some.injEq, Value.int.injEq, Value.ref.injEq, Value.long.injEq, true_and, and_true, exists_eq, exists_true_left, mw_ob, mw_ia0, mw_ia2, mw_ia5, mw_ia6, mw_ia7, mw_ia8, mw_ia9, mw_ia10, mw_ia11, mw_ia15, mw_ia16, mF_0, mF_1, mF_2, mF_3, mF_4, mF_5, mF_6, mF_7, mF_8, mF_9, mF_10, mF_11, mF_12, mF_13, mF_14, mF_15, mF_16, mF_len, mF_s1, mF_s3, mF_s4, mF_s12, mF_s13, mF_s14, mw_uob, mw_u0, mw_u2, mw_u5, mw_u6, mw_u7, mw_u8, mw_u9, mw_u10, mw_u11, mw_u15, mw_u16, Nat.reduceLT, rup_s, rup_rup]
    rw [lit_2, nI_add, nI_add, nI_add, nI_clamp (by omega), nI_clamp (by omega), pgf_out (i := src + i) (by omega), hbs i (by omega), pgf_upd (k := 40 + 42 * n + i) (by omega) (by omega), cpb_step, nI_1]
    exact ⟨vp_in_nI (by omega) (by decide), vp_in_nI (by omega) (by decide), ih (i + 1) (by omega)⟩
theorem f_handles {f0 n0 src : Nat} {x y z : Int32} {ky : aKy} {F : aF} {p : aP} (hb : c 12 = nI b) (hf : b + 710 ≤ 22416) (hb1 : 186 ≤ b) (hA : auOk A) (hky : kyOk ky) (hm : MA c r A) (hW : PWd P A) (hO : fOk A F) (hn6 : F.2.2.1.length < 6) (hp : aOk p) (hx : x = nI p.1) (hy : y = nI p.2.length) (hz : z = nI src) (hsrc : src + p.2.length ≤ b ∨ b + 710 ≤ src) (hs2 : src + p.2.length ≤ 22416) (hbs : ∀ i, i < p.2.length → P (src + i) = p.2.getD i 0) (hF : MFw f0 n0 c P g ky F)
    (hK : ∀ c' P' g', MFw f0 n0 c' P' g' ky (aHandle A ky F p) → CFr c c' → PFr P P' → GLg g g' → K (mw w q c' (rup r 0 (pgf P' b 710 g'))) none) : zcall n_M_handles [.ref q, .int x, .int y, .int z] (mw w q c (rup r 0 (pgf P b 710 g))) K := by
  subst hx hy hz
  obtain ⟨o1, o2, o3, o4⟩ := hO
  obtain ⟨r1, r2, r3, r4, r5, r6, r7, r8, r9, r10, r11, r12, r13⟩ := hF
  obtain ⟨p1, p2, p3, -⟩ := id hp
  unfold aHandle at hK
  refine e_M_handles (b_M_handles_0 ?_)
  simp only [and_assoc, exists_and_left, exists_eq_left, exists_eq_left', Option.some.injEq, Value.int.injEq, Value.ref.injEq, Value.long.injEq, true_and, and_true, exists_eq, exists_true_left, mw_ob, mw_ia0, mw_ia2, mw_ia5, mw_ia6, mw_ia7, mw_ia8, mw_ia9, mw_ia10, mw_ia11, mw_ia15, mw_ia16, mF_0, mF_1, mF_2, mF_3, mF_4, mF_5, mF_6, mF_7, mF_8, mF_9, mF_10, mF_11, mF_12, mF_13, mF_14, mF_15, mF_16, mF_len, mF_s1, mF_s3, mF_s4, mF_s12, mF_s13, mF_s14, mw_uob, mw_u0, mw_u2, mw_u5, mw_u6, mw_u7, mw_u8, mw_u9, mw_u10, mw_u11, mw_u15, mw_u16, Nat.reduceLT, rup_s, rup_rup]
  refine f_adds hb (i := 13) rfl (by decide) hf ?_
  simp only [and_assoc, exists_and_left, exists_eq_left, exists_eq_left', Option.some.injEq, Value.int.injEq, Value.ref.injEq, Value.long.injEq, true_and, and_true, exists_eq, exists_true_left, mw_ob, mw_ia0, mw_ia2, mw_ia5, mw_ia6, mw_ia7, mw_ia8, mw_ia9, mw_ia10, mw_ia11, mw_ia15, mw_ia16, mF_0, mF_1, mF_2, mF_3, mF_4, mF_5, mF_6, mF_7, mF_8, mF_9, mF_10, mF_11, mF_12, mF_13, mF_14, mF_15, mF_16, mF_len, mF_s1, mF_s3, mF_s4, mF_s12, mF_s13, mF_s14, mw_uob, mw_u0, mw_u2, mw_u5, mw_u6, mw_u7, mw_u8, mw_u9, mw_u10, mw_u11, mw_u15, mw_u16, Nat.reduceLT, rup_s, rup_rup]
  refine f_of hb (i := 4) rfl (by decide) hf ?_
  simp only [and_assoc, exists_and_left, exists_eq_left, exists_eq_left', Option.some.injEq, Value.int.injEq, Value.ref.injEq, Value.long.injEq, true_and, and_true, exists_eq, exists_true_left, mw_ob, mw_ia0, mw_ia2, mw_ia5, mw_ia6, mw_ia7, mw_ia8, mw_ia9, mw_ia10, mw_ia11, mw_ia15, mw_ia16, mF_0, mF_1, mF_2, mF_3, mF_4, mF_5, mF_6, mF_7, mF_8, mF_9, mF_10, mF_11, mF_12, mF_13, mF_14, mF_15, mF_16, mF_len, mF_s1, mF_s3, mF_s4, mF_s12, mF_s13, mF_s14, mw_uob, mw_u0, mw_u2, mw_u5, mw_u6, mw_u7, mw_u8, mw_u9, mw_u10, mw_u11, mw_u15, mw_u16, Nat.reduceLT, rup_s, rup_rup]
  rw [show upd g 13 (g 13 + 1) 4 = nI F.2.1 from r3, nI_add]
  refine ⟨fun z => ?_, fun z => ?_⟩
  · have z := (nI_ltI (by omega) (by omega)).mp z
    rw [if_neg (by omega)] at hK
    refine b_M_handles_1 ?_
    simp only [and_assoc, exists_and_left, exists_eq_left, exists_eq_left', Option.some.injEq, Value.int.injEq, Value.ref.injEq, Value.long.injEq, true_and, and_true, exists_eq, exists_true_left, mw_ob, mw_ia0, mw_ia2, mw_ia5, mw_ia6, mw_ia7, mw_ia8, mw_ia9, mw_ia10, mw_ia11, mw_ia15, mw_ia16, mF_0, mF_1, mF_2, mF_3, mF_4, mF_5, mF_6, mF_7, mF_8, mF_9, mF_10, mF_11, mF_12, mF_13, mF_14, mF_15, mF_16, mF_len, mF_s1, mF_s3, mF_s4, mF_s12, mF_s13, mF_s14, mw_uob, mw_u0, mw_u2, mw_u5, mw_u6, mw_u7, mw_u8, mw_u9, mw_u10, mw_u11, mw_u15, mw_u16, Nat.reduceLT, rup_s, rup_rup]
    refine f_of hb (i := 5) rfl (by decide) hf ?_
    simp only [and_assoc, exists_and_left, exists_eq_left, exists_eq_left', Option.some.injEq, Value.int.injEq, Value.ref.injEq, Value.long.injEq, true_and, and_true, exists_eq, exists_true_left, mw_ob, mw_ia0, mw_ia2, mw_ia5, mw_ia6, mw_ia7, mw_ia8, mw_ia9, mw_ia10, mw_ia11, mw_ia15, mw_ia16, mF_0, mF_1, mF_2, mF_3, mF_4, mF_5, mF_6, mF_7, mF_8, mF_9, mF_10, mF_11, mF_12, mF_13, mF_14, mF_15, mF_16, mF_len, mF_s1, mF_s3, mF_s4, mF_s12, mF_s13, mF_s14, mw_uob, mw_u0, mw_u2, mw_u5, mw_u6, mw_u7, mw_u8, mw_u9, mw_u10, mw_u11, mw_u15, mw_u16, Nat.reduceLT, rup_s, rup_rup]
    rw [show upd g 13 (g 13 + 1) 5 = nI F.2.2.1.length from r4.1]
    refine s_M_pieceAt hb rfl ?_
    simp only [and_assoc, exists_and_left, exists_eq_left, exists_eq_left', Option.some.injEq, Value.int.injEq, Value.ref.injEq, Value.long.injEq, true_and, and_true, exists_eq, exists_true_left, mw_ob, mw_ia0, mw_ia2, mw_ia5, mw_ia6, mw_ia7, mw_ia8, mw_ia9, mw_ia10, mw_ia11, mw_ia15, mw_ia16, mF_0, mF_1, mF_2, mF_3, mF_4, mF_5, mF_6, mF_7, mF_8, mF_9, mF_10, mF_11, mF_12, mF_13, mF_14, mF_15, mF_16, mF_len, mF_s1, mF_s3, mF_s4, mF_s12, mF_s13, mF_s14, mw_uob, mw_u0, mw_u2, mw_u5, mw_u6, mw_u7, mw_u8, mw_u9, mw_u10, mw_u11, mw_u15, mw_u16, Nat.reduceLT, rup_s, rup_rup]
    rw [nI_1, nI_clamp (by omega), nI_clamp (by omega), pgf_upd (k := 38 + 42 * F.2.2.1.length) (by omega) (by omega), pgf_upd (k := 38 + 42 * F.2.2.1.length + 1) (by omega) (by omega)]
    refine ⟨vp_in_nI (by omega) (by decide), vp_in_nI (by omega) (by decide), ?_⟩
    obtain ⟨g1, hg1⟩ : ∃ g1, g1 = upd (upd (upd g 13 (g 13 + 1)) (38 + 42 * F.2.2.1.length) (nI p.1)) (38 + 42 * F.2.2.1.length + 1) (nI p.2.length) := ⟨_, rfl⟩
    rw [← hg1]
    have e0 : pgf P b 710 g1 = pgf P b 710 (cpb g1 (40 + 42 * F.2.2.1.length) p.2 0) := by
      congr 1
      funext i
      exact (if_neg (by omega)).symm
    rw [e0]
    refine f_cpb_loop (n := F.2.2.1.length) (src := src) (L := p.2.length) (bs := p.2) hb hf hn6 p3 hsrc hs2 hbs (b_M_handles_3 ?_) p.2.length 0 (Nat.zero_add _)
    simp only [and_assoc, exists_and_left, exists_eq_left, exists_eq_left', Option.some.injEq, Value.int.injEq, Value.ref.injEq, Value.long.injEq, true_and, and_true, exists_eq, exists_true_left, mw_ob, mw_ia0, mw_ia2, mw_ia5, mw_ia6, mw_ia7, mw_ia8, mw_ia9, mw_ia10, mw_ia11, mw_ia15, mw_ia16, mF_0, mF_1, mF_2, mF_3, mF_4, mF_5, mF_6, mF_7, mF_8, mF_9, mF_10, mF_11, mF_12, mF_13, mF_14, mF_15, mF_16, mF_len, mF_s1, mF_s3, mF_s4, mF_s12, mF_s13, mF_s14, mw_uob, mw_u0, mw_u2, mw_u5, mw_u6, mw_u7, mw_u8, mw_u9, mw_u10, mw_u11, mw_u15, mw_u16, Nat.reduceLT, rup_s, rup_rup]
    refine f_adds hb (i := 5) rfl (by decide) hf ?_
    simp only [and_assoc, exists_and_left, exists_eq_left, exists_eq_left', Option.some.injEq, Value.int.injEq, Value.ref.injEq, Value.long.injEq, true_and, and_true, exists_eq, exists_true_left, mw_ob, mw_ia0, mw_ia2, mw_ia5, mw_ia6, mw_ia7, mw_ia8, mw_ia9, mw_ia10, mw_ia11, mw_ia15, mw_ia16, mF_0, mF_1, mF_2, mF_3, mF_4, mF_5, mF_6, mF_7, mF_8, mF_9, mF_10, mF_11, mF_12, mF_13, mF_14, mF_15, mF_16, mF_len, mF_s1, mF_s3, mF_s4, mF_s12, mF_s13, mF_s14, mw_uob, mw_u0, mw_u2, mw_u5, mw_u6, mw_u7, mw_u8, mw_u9, mw_u10, mw_u11, mw_u15, mw_u16, Nat.reduceLT, rup_s, rup_rup]
    obtain ⟨g2, hg2⟩ : ∃ g2, g2 = upd (cpb g1 (40 + 42 * F.2.2.1.length) p.2 p.2.length) 5 (cpb g1 (40 + 42 * F.2.2.1.length) p.2 p.2.length 5 + 1) := ⟨_, rfl⟩
    rw [← hg2]
    have g2o : ∀ i, i ≠ 5 → i ≠ 13 → (i < 38 + 42 * F.2.2.1.length ∨ 80 + 42 * F.2.2.1.length ≤ i) → g2 i = g i := fun i a1 a2 a3 => by
      rw [hg2]
      refine (if_neg a1).trans ((if_neg (by omega)).trans ?_)
      rw [hg1]
      exact (if_neg (by omega)).trans ((if_neg (by omega)).trans (if_neg a2))
    have g25 : g2 5 = nI (F.2.2.1.length + 1) := by
      rw [hg2]
      refine (if_pos rfl).trans ?_
      rw [show cpb g1 (40 + 42 * F.2.2.1.length) p.2 p.2.length 5 = nI F.2.2.1.length from (if_neg (by omega)).trans (by rw [hg1]; exact (if_neg (by omega)).trans ((if_neg (by omega)).trans r4.1)), nI_1]
    have g213 : g2 13 = nI (F.2.2.2.2.2.2.1 + 1) := by
      rw [hg2]
      refine (if_neg (by decide)).trans ((if_neg (by omega)).trans ?_)
      rw [hg1]
      refine (if_neg (by omega)).trans ((if_neg (by omega)).trans ?_)
      show g 13 + 1 = _
      rw [r8, nI_1]
    have hpc : PC g2 (38 + 42 * F.2.2.1.length) p := by
      rw [hg2]
      refine ⟨(if_neg (by omega)).trans ((if_neg (by omega)).trans (by rw [hg1]; exact (if_neg (by omega)).trans (if_pos rfl))), (if_neg (by omega)).trans ((if_neg (by omega)).trans (by rw [hg1]; exact if_pos rfl)), fun j hj => (if_neg (by omega)).trans ((if_pos (by omega)).trans ?_)⟩
      rw [show 38 + 42 * F.2.2.1.length + 2 + j - (40 + 42 * F.2.2.1.length) = j by omega]
    have hF2 : MFw f0 n0 c P g2 ky (F.1, F.2.1, F.2.2.1 ++ [p], F.2.2.2.1, F.2.2.2.2.1, F.2.2.2.2.2.1, F.2.2.2.2.2.2.1 + 1, F.2.2.2.2.2.2.2) := by
      have lo : ∀ i, i ≠ 5 → i ≠ 13 → i < 38 → g2 i = g i := fun i a1 a2 a3 => g2o i a1 a2 (by omega)
      exact ⟨MR_congr2 r1 (fun i a1 a2 => lo i (by omega) (by omega) a2), MHd_congr r2 (lo 9 (by decide) (by decide) (by decide)) (lo 10 (by decide) (by decide) (by decide)) (lo 11 (by decide) (by decide) (by decide)), (lo 4 (by decide) (by decide) (by decide)).trans r3, MP_add r4 hn6 hp g25 (fun i h1 h2 => g2o i (by omega) (by omega) (Or.inl h2)) hpc, (lo 15 (by decide) (by decide) (by decide)).trans r5, (lo 16 (by decide) (by decide) (by decide)).trans r6, (lo 17 (by decide) (by decide) (by decide)).trans r7, g213, (lo 14 (by decide) (by decide) (by decide)).trans r9, (lo 0 (by decide) (by decide) (by decide)).trans r10, (lo 1 (by decide) (by decide) (by decide)).trans r11, (lo 2 (by decide) (by decide) (by decide)).trans r12, (lo 3 (by decide) (by decide) (by decide)).trans r13⟩
    have hO2 : fOk A (F.1, F.2.1, F.2.2.1 ++ [p], F.2.2.2.1, F.2.2.2.2.1, F.2.2.2.2.2.1, F.2.2.2.2.2.2.1 + 1, F.2.2.2.2.2.2.2) := ⟨o1, o2, hF2.2.2.2.1.2.2.1, hF2.2.2.2.1.2.1⟩
    have hgl : GLg g g2 := ⟨g2o 21 (by decide) (by decide) (by omega), fun i hi => g2o i (by omega) (by omega) (by omega)⟩
    refine f_deliversAll hb hf hb1 hA hky hm hW hO2.1 hO2.2.1 hF2 (fun c1 P1 g3 m1 m2 m3 m4 => ?_)
    simp only [and_assoc, exists_and_left, exists_eq_left, exists_eq_left', Option.some.injEq, Value.int.injEq, Value.ref.injEq, Value.long.injEq, true_and, and_true, exists_eq, exists_true_left, mw_ob, mw_ia0, mw_ia2, mw_ia5, mw_ia6, mw_ia7, mw_ia8, mw_ia9, mw_ia10, mw_ia11, mw_ia15, mw_ia16, mF_0, mF_1, mF_2, mF_3, mF_4, mF_5, mF_6, mF_7, mF_8, mF_9, mF_10, mF_11, mF_12, mF_13, mF_14, mF_15, mF_16, mF_len, mF_s1, mF_s3, mF_s4, mF_s12, mF_s13, mF_s14, mw_uob, mw_u0, mw_u2, mw_u5, mw_u6, mw_u7, mw_u8, mw_u9, mw_u10, mw_u11, mw_u15, mw_u16, Nat.reduceLT, rup_s, rup_rup]
    exact f_gaps_loop hf hb1 hA hky 6 _ c1 P1 g3 (aDeliver_ok hA hO2).2.2.2 (m2.b hb) (hm.fr m2) (hW.fr m3) (aDeliver_ok hA hO2) m1 (fun c2 P2 g4 t1 t2 t3 t4 => hK c2 P2 g4 t1 (m2.tr t2) (m3.tr t3) ((hgl.tr m4).tr t4))
  · have z : ¬ F.2.1 < p.1 + p.2.length := fun y => z ((nI_ltI (by omega) (by omega)).mpr y)
    rw [if_pos (by omega)] at hK
    refine f_adds hb (i := 14) rfl (by decide) hf ?_
    simp only [and_assoc, exists_and_left, exists_eq_left, exists_eq_left', Option.some.injEq, Value.int.injEq, Value.ref.injEq, Value.long.injEq, true_and, and_true, exists_eq, exists_true_left, mw_ob, mw_ia0, mw_ia2, mw_ia5, mw_ia6, mw_ia7, mw_ia8, mw_ia9, mw_ia10, mw_ia11, mw_ia15, mw_ia16, mF_0, mF_1, mF_2, mF_3, mF_4, mF_5, mF_6, mF_7, mF_8, mF_9, mF_10, mF_11, mF_12, mF_13, mF_14, mF_15, mF_16, mF_len, mF_s1, mF_s3, mF_s4, mF_s12, mF_s13, mF_s14, mw_uob, mw_u0, mw_u2, mw_u5, mw_u6, mw_u7, mw_u8, mw_u9, mw_u10, mw_u11, mw_u15, mw_u16, Nat.reduceLT, rup_s, rup_rup]
    rw [show upd g 13 (g 13 + 1) 14 = nI F.2.2.2.2.2.2.2 from r9, r8, nI_1, nI_1]
    have lo : ∀ i, i ≠ 14 → i ≠ 13 → upd (upd g 13 (nI (F.2.2.2.2.2.2.1 + 1))) 14 (nI (F.2.2.2.2.2.2.2 + 1)) i = g i := fun i a1 a2 => (if_neg a1).trans (if_neg a2)
    exact hK c P _ ⟨MR_congr2 r1 (fun i a1 a2 => lo i (by omega) (by omega)), MHd_congr r2 rfl rfl rfl, r3, MP_congr r4 rfl (fun i h1 h2 => lo i (by omega) (by omega)), r5, r6, r7, rfl, rfl, r10, r11, r12, r13⟩ CFr.rf PFr.rf ⟨rfl, fun i hi => lo i (by omega) (by omega)⟩
end MHand
