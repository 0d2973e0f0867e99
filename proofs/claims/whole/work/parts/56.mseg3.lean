/-! THE MODEL: segment(..), finish(..); the state stays good -/
theorem aGaps_ok {A : aAU} {ky : aKy} (hA : auOk A) : ∀ (n : Nat) (F : aF), fOk A F → fOk A (aGaps A ky n F)
  | 0, F, h => h
  | n + 1, F, h => by
    unfold aGaps
    split
    · exact h
    · rename_i z
      exact aGaps_ok hA n _ (aDeliver_ok hA (aGap_fok hA h (by omega)))
theorem aHandle_ok {A : aAU} {ky : aKy} {F : aF} {p : aP} (hA : auOk A) (h : fOk A F) (h6 : F.2.2.1.length < 6) (hp : aOk p) : fOk A (aHandle A ky F p) := by
  obtain ⟨h1, h2, h3, h4⟩ := h
  unfold aHandle
  split
  · exact ⟨h1, h2, h3, h4⟩
  · refine aGaps_ok hA 6 _ (aDeliver_ok hA ⟨h1, h2, fun q hq => ?_, ?_⟩)
    · rcases List.mem_append.mp hq with hq | hq
      · exact h3 q hq
      · rw [List.mem_singleton.mp hq]; exact hp
    · show (F.2.2.1 ++ [p]).length ≤ 6
      rw [List.length_append]
      exact h6
theorem aTo_ok {A : aAU} {s : aSt} {key : Int32} (hA : auOk A) (h : stOk A s) : kyOk (aTo s key).1.1 ∧ fOk A (aTo s key).1.2.1 ∧ ∀ f ∈ (aTo s key).2.1, f ∈ s.2.2.2.1 := by
  unfold aTo
  split
  · rename_i i e
    have hm := fGet_mem (aPlace_lt e).1
    exact ⟨(h.2.1 _ hm).1, (h.2.1 _ hm).2, fun f hf => (List.eraseIdx_sublist _ _).subset hf⟩
  · refine ⟨h.1, aBeg_ok hA, fun f hf => ?_⟩
    have hf : f ∈ (if s.2.2.2.1.length = 4 then s.2.2.2.1.eraseIdx 0 else s.2.2.2.1) := hf
    split at hf
    · exact (List.eraseIdx_sublist _ _).subset hf
    · exact hf
theorem aSegm_ok {A : aAU} {s : aSt} {key : Int32} {p : aP} (hA : auOk A) (h : stOk A s) (h6 : (aTo s key).1.2.1.2.2.1.length < 6) (hp : aOk p) : stOk A (aSegm A s key p) := by
  obtain ⟨t1, t2, t3⟩ := aTo_ok (key := key) hA h
  refine ⟨h.1, fun f hf => ?_, h.2.2⟩
  rcases List.mem_append.mp hf with hf | hf
  · exact h.2.1 f (t3 f hf)
  · rw [List.mem_singleton.mp hf]
    exact ⟨t1, fOk_plug (aHandle_ok hA (fOk_plug t2) h6 hp)⟩
theorem wrong0 {s : aSt} {bs : List Int32} {key off : Int32} (h : aWrong s bs key off = 0) : ((0 : Int32) ≤ key ∧ key ≤ 99) ∧ ((0 : Int32) ≤ off ∧ off ≤ 999) ∧ bs.length ≠ 0 ∧ ∀ i, aPlace s.2.2.2.1 key = some i → (fGet s.2.2.2.1 i).2.1.2.2.1.length ≠ 6 := by
  unfold aWrong at h
  split at h
  · rename_i hr
    split at h
    · exact absurd h (by decide)
    · rename_i hb
      refine ⟨hr.1, hr.2, hb, fun i hi e => ?_⟩
      rw [hi] at h
      have h : (if (fGet s.2.2.2.1 i).2.1.2.2.1.length = 6 then (-3 : Int32) else 0) = 0 := h
      rw [if_pos e] at h
      exact absurd h (by decide)
  · exact absurd h (by decide)
theorem wrong6 {A : aAU} {s : aSt} {bs : List Int32} {key off : Int32} (hO : stOk A s) (h : aWrong s bs key off = 0) : (aTo s key).1.2.1.2.2.1.length < 6 := by
  obtain ⟨-, -, -, h4⟩ := wrong0 h
  unfold aTo
  split
  · rename_i i e
    have := h4 i e
    have := (hO.2.1 _ (fGet_mem (aPlace_lt e).1)).2.2.2.2
    show (fGet s.2.2.2.1 i).2.1.2.2.1.length < 6
    omega
  · show ([] : List aP).length < 6
    decide
theorem off_nI {off : Int32} (h : (0 : Int32) ≤ off ∧ off ≤ 999) : ∃ o : Nat, o ≤ 999 ∧ off = nI o := by
  rcases pk_ix off (n := 1000) (by decide) with h1 | h1 | ⟨j, h1, h2⟩
  · exact absurd h1 (Int32.not_lt.mpr h.1)
  · have := Int32.le_trans h1 h.2
    exact absurd this (by decide)
  · exact ⟨j, by omega, h2⟩
def aMade (A : aAU) (s : aSt) (key : Int32) (p : aP) : Nat := (afh (aSegF A s key p)).length - s.2.2.1.length
section MSeg3
variable {w : jx_W} {q : Nat} {c : Nat → Int32} {r : Nat → Nat → Int32} {K : jx_Q} {P : Nat → Int32} {A : aAU} {s : aSt} {past : List aSt} {bs : List Int32}
theorem MT_fr {c' : Nat → Int32} (h : MT c r bs) (e : c' 3 = c 3) : MT c' r bs := ⟨e.trans h.1, h.2⟩
theorem MA_fr {c' : Nat → Int32} (h : MA c r A) (e : c' 4 = c 4) : MA c' r A := ⟨e.trans h.1, h.2⟩
theorem f_segment {key off : Int32} (hI : MI c r P A s past bs) (hO : stOk A s) (hA : auOk A) (hbs : bsOk bs)
    (hK0 : aWrong s bs key off ≠ 0 → K (mw w q c (rup r 0 P)) (some (.int (aWrong s bs key off))))
    (hK1 : aWrong s bs key off = 0 → ∀ c' P' o, off = nI o → o ≤ 999 → MI c' r P' A (aSegm A s key (o, bs)) (aPast past s) bs → K (mw w q c' (rup r 0 P')) (some (.int (nI (aMade A s key (o, bs)))))) : zcall n_M_segment [.ref q, .int key, .int off] (mw w q c (rup r 0 P)) K := by
  refine e_M_segment (b_M_segment_0 ?_)
  simp only [and_assoc, exists_and_left, exists_eq_left, exists_eq_left', Option.some.injEq, Value.int.injEq, Value.ref.injEq, Value.long.injEq, true_and, and_true, exists_eq, exists_true_left, mw_ob, mw_ia0, mw_ia2, mw_ia5, mw_ia6, mw_ia7, mw_ia8, mw_ia9, mw_ia10, mw_ia11, mw_ia15, mw_ia16, mF_0, mF_1, mF_2, mF_3, mF_4, mF_5, mF_6, mF_7, mF_8, mF_9, mF_10, mF_11, mF_12, mF_13, mF_14, mF_15, mF_16, mF_len, mF_s1, mF_s3, mF_s4, mF_s12, mF_s13, mF_s14, mw_uob, mw_u0, mw_u2, mw_u5, mw_u6, mw_u7, mw_u8, mw_u9, mw_u10, mw_u11, mw_u15, mw_u16, Nat.reduceLT, rup_s, rup_rup]
  refine f_wrong hI ?_
  simp only [and_assoc, exists_and_left, exists_eq_left, exists_eq_left', Option.some.injEq, Value.int.injEq, Value.ref.injEq, Value.long.injEq, true_and, and_true, exists_eq, exists_true_left, mw_ob, mw_ia0, mw_ia2, mw_ia5, mw_ia6, mw_ia7, mw_ia8, mw_ia9, mw_ia10, mw_ia11, mw_ia15, mw_ia16, mF_0, mF_1, mF_2, mF_3, mF_4, mF_5, mF_6, mF_7, mF_8, mF_9, mF_10, mF_11, mF_12, mF_13, mF_14, mF_15, mF_16, mF_len, mF_s1, mF_s3, mF_s4, mF_s12, mF_s13, mF_s14, mw_uob, mw_u0, mw_u2, mw_u5, mw_u6, mw_u7, mw_u8, mw_u9, mw_u10, mw_u11, mw_u15, mw_u16, Nat.reduceLT, rup_s, rup_rup]
  refine ⟨fun z => b_M_segment_1 ?_, fun z => hK0 z⟩
  obtain ⟨z1, z2, z3, z4⟩ := wrong0 z
  obtain ⟨o, ho, rfl⟩ := off_nI z2
  have h40 := hI.2.2.2.1.2.1
  simp only [and_assoc, exists_and_left, exists_eq_left, exists_eq_left', Option.some.injEq, Value.int.injEq, Value.ref.injEq, Value.long.injEq, true_and, and_true, exists_eq, exists_true_left, mw_ob, mw_ia0, mw_ia2, mw_ia5, mw_ia6, mw_ia7, mw_ia8, mw_ia9, mw_ia10, mw_ia11, mw_ia15, mw_ia16, mF_0, mF_1, mF_2, mF_3, mF_4, mF_5, mF_6, mF_7, mF_8, mF_9, mF_10, mF_11, mF_12, mF_13, mF_14, mF_15, mF_16, mF_len, mF_s1, mF_s3, mF_s4, mF_s12, mF_s13, mF_s14, mw_uob, mw_u0, mw_u2, mw_u5, mw_u6, mw_u7, mw_u8, mw_u9, mw_u10, mw_u11, mw_u15, mw_u16, Nat.reduceLT, rup_s, rup_rup]
  refine f_beginsI hI (fun c1 P1 i1 i2 => ?_)
  simp only [and_assoc, exists_and_left, exists_eq_left, exists_eq_left', Option.some.injEq, Value.int.injEq, Value.ref.injEq, Value.long.injEq, true_and, and_true, exists_eq, exists_true_left, mw_ob, mw_ia0, mw_ia2, mw_ia5, mw_ia6, mw_ia7, mw_ia8, mw_ia9, mw_ia10, mw_ia11, mw_ia15, mw_ia16, mF_0, mF_1, mF_2, mF_3, mF_4, mF_5, mF_6, mF_7, mF_8, mF_9, mF_10, mF_11, mF_12, mF_13, mF_14, mF_15, mF_16, mF_len, mF_s1, mF_s3, mF_s4, mF_s12, mF_s13, mF_s14, mw_uob, mw_u0, mw_u2, mw_u5, mw_u6, mw_u7, mw_u8, mw_u9, mw_u10, mw_u11, mw_u15, mw_u16, Nat.reduceLT, rup_s, rup_rup]
  obtain ⟨j1, j2, j3, j4, j5, f0, j6⟩ := i1
  refine f_segments (f0 := f0) (o := o) (bs := bs) j1 hO hA j5 j6 (wrong6 hO z) ⟨ho, by show 1 ≤ bs.length; omega, h40, hbs⟩ rfl j4 (fun c2 P2 m1 m2 m3 m4 m5 m6 => ?_)
  simp only [and_assoc, exists_and_left, exists_eq_left, exists_eq_left', Option.some.injEq, Value.int.injEq, Value.ref.injEq, Value.long.injEq, true_and, and_true, exists_eq, exists_true_left, mw_ob, mw_ia0, mw_ia2, mw_ia5, mw_ia6, mw_ia7, mw_ia8, mw_ia9, mw_ia10, mw_ia11, mw_ia15, mw_ia16, mF_0, mF_1, mF_2, mF_3, mF_4, mF_5, mF_6, mF_7, mF_8, mF_9, mF_10, mF_11, mF_12, mF_13, mF_14, mF_15, mF_16, mF_len, mF_s1, mF_s3, mF_s4, mF_s12, mF_s13, mF_s14, mw_uob, mw_u0, mw_u2, mw_u5, mw_u6, mw_u7, mw_u8, mw_u9, mw_u10, mw_u11, mw_u15, mw_u16, Nat.reduceLT, rup_s, rup_rup]
  rw [m3]
  exact hK1 z c2 P2 o rfl ho ⟨m1, PST_fr j2 m6, (m5 1 (by decide) (by decide) (by decide)).trans j3, MT_fr j4 (m5 3 (by decide) (by decide) (by decide)), MA_fr j5 (m5 4 (by decide) (by decide) (by decide)), _, m2⟩
end MSeg3
