/-! THE MODEL: handlesText(..), segments(..) from its third block on -/
theorem HF_congr {P P' : Nat → Int32} {fh : List aFd} (h : HF P fh) (e : ∀ i, 62 ≤ i → i < 186 → i ≠ 65 → P' i = P i) : HF P' fh := by
  obtain ⟨h1, h2, h3, h4⟩ := h
  refine ⟨(e 62 (by decide) (by decide) (by decide)).trans h1, (e 63 (by decide) (by decide) (by decide)).trans h2, (e 64 (by decide) (by decide) (by decide)).trans h3, fun i j hi hj => (e _ (by omega) ?_ (by omega)).trans (h4 i j hi hj)⟩
  have : min 30 fh.length ≤ 30 := Nat.min_le_left _ _
  omega
theorem MFs_congr {g g' : Nat → Int32} {ky : aKy} {F : aF} (h : MFs g ky F) (e : ∀ i, i < 290 → i ≠ 21 → g' i = g i) : MFs g' ky F := by
  obtain ⟨a1, ⟨b1, b2, b3⟩, a3, a4, a5, a6, a7, a8, a9, a10, a11, a12, a13, a14, a15, a16, a17, a18⟩ := h
  exact ⟨(e _ (by decide) (by decide)).trans a1, ⟨(e _ (by decide) (by decide)).trans b1, (e _ (by decide) (by decide)).trans b2, b3⟩, MH_congr a3 (e _ (by decide) (by decide)) (fun i x y => e _ (by omega) (by omega)), (e _ (by decide) (by decide)).trans a4, (e _ (by decide) (by decide)).trans a5, (e _ (by decide) (by decide)).trans a6, MHd_congr a7 (e _ (by decide) (by decide)) (e _ (by decide) (by decide)) (e _ (by decide) (by decide)), (e _ (by decide) (by decide)).trans a8, MP_congr a9 (e _ (by decide) (by decide)) (fun i x y => e _ (by omega) (by omega)), (e _ (by decide) (by decide)).trans a10, (e _ (by decide) (by decide)).trans a11, (e _ (by decide) (by decide)).trans a12, (e _ (by decide) (by decide)).trans a13, (e _ (by decide) (by decide)).trans a14, (e _ (by decide) (by decide)).trans a15, (e _ (by decide) (by decide)).trans a16, (e _ (by decide) (by decide)).trans a17, (e _ (by decide) (by decide)).trans a18⟩
theorem ML_congr {g g' : Nat → Int32} {l : List aP} (h : ML g l) (e21 : g' 21 = g 21) (e : ∀ i, 290 ≤ i → i < 710 → g' i = g i) : ML g' l := by
  obtain ⟨h1, h2, h3, h4⟩ := h
  refine ⟨e21.trans h1, h2, h3, fun i hi => PC_congr (h4 i hi) (fun j hj => e _ (by omega) ?_)⟩
  have := (h3 _ (aPc_mem hi)).2.2.1
  omega
theorem MFl_congr {g g' : Nat → Int32} {f : aFlow} (h : MFl g f) (e : ∀ i, i < 710 → g' i = g i) : MFl g' f := ⟨MFs_congr h.1 (fun i hi _ => e i (by omega)), ML_congr h.2 (e _ (by decide)) (fun i _ hi => e i hi)⟩
theorem aPc_app1 {l : List aP} {p : aP} {i : Nat} (h : i < l.length) : aPc (l ++ [p]) i = aPc l i := by
  unfold aPc
  rw [List.getD_eq_getElem?_getD, List.getD_eq_getElem?_getD, List.getElem?_append_left h]
theorem aPc_app2 {l : List aP} {p : aP} : aPc (l ++ [p]) l.length = p := by
  unfold aPc
  rw [List.getD_eq_getElem?_getD, List.getElem?_append_right (Nat.le_refl _), Nat.sub_self]
  rfl
theorem slG_app1 {l : List Nat} {p : Nat} {i : Nat} (h : i < l.length) : slG (l ++ [p]) i = slG l i := by
  unfold slG
  rw [List.getD_eq_getElem?_getD, List.getD_eq_getElem?_getD, List.getElem?_append_left h]
theorem slG_app2 {l : List Nat} {p : Nat} : slG (l ++ [p]) l.length = p := by
  unfold slG
  rw [List.getD_eq_getElem?_getD, List.getElem?_append_right (Nat.le_refl _), Nat.sub_self]
  rfl
theorem fGet_app1 {l : List aFlow} {p : aFlow} {i : Nat} (h : i < l.length) : fGet (l ++ [p]) i = fGet l i := by
  unfold fGet
  rw [List.getD_eq_getElem?_getD, List.getD_eq_getElem?_getD, List.getElem?_append_left h]
theorem fGet_app2 {l : List aFlow} {p : aFlow} : fGet (l ++ [p]) l.length = p := by
  unfold fGet
  rw [List.getD_eq_getElem?_getD, List.getElem?_append_right (Nat.le_refl _), Nat.sub_self]
  rfl
theorem ML_add {g g' : Nat → Int32} {l : List aP} {p : aP} (h : ML g l) (hl : l.length < 10) (hp : aOk p) (h5 : g' 21 = nI (l.length + 1)) (e : ∀ i, 290 ≤ i → i < 290 + 42 * l.length → g' i = g i) (hpc : PC g' (290 + 42 * l.length) p) : ML g' (l ++ [p]) := by
  obtain ⟨h1, h2, h3, h4⟩ := h
  refine ⟨by rw [List.length_append]; exact h5, by rw [List.length_append]; show l.length + 1 ≤ 10; omega, fun q hq => ?_, fun i hi => ?_⟩
  · rcases List.mem_append.mp hq with hq | hq
    · exact h3 q hq
    · rw [List.mem_singleton.mp hq]; exact hp
  · rw [List.length_append] at hi
    have hi : i < l.length + 1 := hi
    by_cases hil : i < l.length
    · rw [aPc_app1 hil]
      refine PC_congr (h4 i hil) (fun j hj => e _ (by omega) ?_)
      have := (h3 _ (aPc_mem hil)).2.2.1
      omega
    · obtain rfl : i = l.length := by omega
      rw [aPc_app2]
      exact hpc
theorem SL_app {P P' : Nat → Int32} {sl : List Nat} {s : Nat} (h : SL P sl) (hn : sl.length < 4) (hs : s < 4) (hf : ∀ i, i < sl.length → slG sl i ≠ s) (e57 : P' 57 = nI (sl.length + 1)) (en : P' (58 + sl.length) = nI s) (e : ∀ i, i < sl.length → P' (58 + i) = P (58 + i)) : SL P' (sl ++ [s]) := by
  obtain ⟨h1, h2, h3, h4, h5⟩ := h
  refine ⟨by rw [List.length_append]; exact e57, by rw [List.length_append]; show sl.length + 1 ≤ 4; omega, List.pairwise_append.mpr ⟨h3, List.pairwise_singleton _ _, fun a ha b hb => ?_⟩, fun a ha => ?_, fun i hi => ?_⟩
  · obtain ⟨i, hi, ei⟩ := List.getElem_of_mem ha
    have := hf i hi
    unfold slG at this
    rw [List.getD_eq_getElem?_getD, List.getElem?_eq_getElem hi] at this
    rw [List.mem_singleton.mp hb, ← ei]
    exact this
  · rcases List.mem_append.mp ha with ha | ha
    · exact h4 a ha
    · rw [List.mem_singleton.mp ha]; exact hs
  · rw [List.length_append] at hi
    have hi : i < sl.length + 1 := hi
    by_cases hil : i < sl.length
    · rw [slG_app1 hil, e i hil]; exact h5 i hil
    · obtain rfl : i = sl.length := by omega
      rw [slG_app2]; exact en
theorem FLs_app {P P' : Nat → Int32} {sl : List Nat} {l : List aFlow} {s : Nat} {f : aFlow} (hS : SL P sl) (h : FLs P sl l) (hs : s < 4) (hf : ∀ i, i < sl.length → slG sl i ≠ s) (e : ∀ k, 186 ≤ k → k < 3026 → (k < 186 + 710 * s ∨ 186 + 710 * s + 710 ≤ k) → P' k = P k) (hm : MFl (fun k => P' (186 + 710 * s + k)) f) : FLs P' (sl ++ [s]) (l ++ [f]) := by
  obtain ⟨h1, h2⟩ := h
  refine ⟨by rw [List.length_append, List.length_append]; show sl.length + 1 = l.length + 1; omega, fun i hi => ?_⟩
  rw [List.length_append] at hi
  have hi : i < l.length + 1 := hi
  by_cases hil : i < l.length
  · rw [slG_app1 (by omega), fGet_app1 hil]
    have a1 := hf i (by omega)
    have a2 := slG_lt hS (i := i) (by omega)
    refine MFl_congr (h2 i hil) (fun k hk => e _ (by omega) (by omega) ?_)
    omega
  · obtain rfl : i = l.length := by omega
    rw [← h1, slG_app2, h1, fGet_app2]
    exact hm
/-- the typed text -/
def MT (c : Nat → Int32) (r : Nat → Nat → Int32) (bs : List Int32) : Prop := c 3 = nI bs.length ∧ bs.length ≤ 40 ∧ ∀ i, i < bs.length → r 2 i = bs.getD i 0
theorem fOk_plug {A : aAU} {F : aF} {fh : List aFd} (h : fOk A F) : fOk A (plug F fh 0) := ⟨⟨h.1.1, h.1.2.1, h.1.2.2.1, by show 0 < 64; decide, h.1.2.2.2.2⟩, h.2⟩
theorem MFw_P {f0 n0 : Nat} {c P P' g : Nat → Int32} {ky : aKy} {F : aF} (h : MFw f0 n0 c P g ky F) (e : ∀ i, 62 ≤ i → i < 186 → i ≠ 65 → P' i = P i) : MFw f0 n0 c P' g ky F := by
  obtain ⟨⟨a1, a2, a3, a4, h1, a5⟩, a7⟩ := h
  exact ⟨⟨a1, a2, a3, a4, HF_congr h1 e, a5⟩, a7⟩
/-- a flow that has handled a segment, put back; the finds are apart -/
def aOn (A : aAU) (f : aFlow) (fh : List aFd) (p : aP) : aF := aHandle A f.1 (plug f.2.1 fh 0) p
def aLog (l : List aP) (p : aP) : List aP := if l.length < 10 then l ++ [p] else l
section MSeg
variable {w : jx_W} {q : Nat} {c : Nat → Int32} {r : Nat → Nat → Int32} {K : jx_Q} {P : Nat → Int32} {A : aAU}
theorem p_of {x : Int32} {b i : Nat} (hb : c 12 = nI b) (hx : x = nI i) (hi : b + i < 22416) (hK : K (mw w q c (rup r 0 P)) (some (.int (P (b + i))))) : zcall n_M_of [.ref q, .int x] (mw w q c (rup r 0 P)) K := by
  refine s_M_of hb hx (by omega) ?_
  rw [rup_s]
  exact hK
theorem f_ht_loop {x : Int32} {bs : List Int32} (hT : MT c r bs) (hK : zwp n_M_handlesText 2 [(0, .ref q), (1, .int x)] [] 0 0 (mw w q c (rup r 0 (cpb P 3026 bs bs.length))) K) : ∀ (m i : Nat), i + m = bs.length → zwp n_M_handlesText 1 [(0, .ref q), (1, .int x), (2, .int (nI i))] [] 0 0 (mw w q c (rup r 0 (cpb P 3026 bs i))) K := by
  intro m
  have h40 := hT.2.1
  induction m with
  | zero =>
    intro i hi
    obtain rfl : i = bs.length := by omega
    refine b_M_handlesText_1 ?_
    simp only [and_assoc, exists_and_left, exists_eq_left, exists_eq_left', Option.some.injEq, Value.int.injEq, Value.ref.injEq, Value.long.injEq, true_and, and_true, exists_eq, exists_true_left, mw_ob, mw_ia0, mw_ia2, mw_ia5, mw_ia6, mw_ia7, mw_ia8, mw_ia9, mw_ia10, mw_ia11, mw_ia15, mw_ia16, mF_0, mF_1, mF_2, mF_3, mF_4, mF_5, mF_6, mF_7, mF_8, mF_9, mF_10, mF_11, mF_12, mF_13, mF_14, mF_15, mF_16, mF_len, mF_s1, mF_s3, mF_s4, mF_s12, mF_s13, mF_s14, mw_uob, mw_u0, mw_u2, mw_u5, mw_u6, mw_u7, mw_u8, mw_u9, mw_u10, mw_u11, mw_u15, mw_u16, Nat.reduceLT, rup_s, rup_rup]
    rw [hT.1]
    exact ⟨fun _ => hK, fun z => absurd ((nI_leI (by omega) (by omega)).mpr (Nat.le_refl _)) z⟩
  | succ m ih =>
    intro i hi
    refine b_M_handlesText_1 ?_
    simp only [and_assoc, exists_and_left, exists_eq_left, exists_eq_left', Option.some.injEq, Value.int.injEq, Value.ref.injEq, Value.long.injEq, true_and, and_true, exists_eq, exists_true_left, mw_ob, mw_ia0, mw_ia2, mw_ia5, mw_ia6, mw_ia7, mw_ia8, mw_ia9, mw_ia10, mw_ia11, mw_ia15, mw_ia16, mF_0, mF_1, mF_2, mF_3, mF_4, mF_5, mF_6, mF_7, mF_8, mF_9, mF_10, mF_11, mF_12, mF_13, mF_14, mF_15, mF_16, mF_len, mF_s1, mF_s3, mF_s4, mF_s12, mF_s13, mF_s14, mw_uob, mw_u0, mw_u2, mw_u5, mw_u6, mw_u7, mw_u8, mw_u9, mw_u10, mw_u11, mw_u15, mw_u16, Nat.reduceLT, rup_s, rup_rup]
    rw [hT.1, rup_n (j := 2) (by decide), lit_3026, nI_add, nI_clamp (by omega), nI_clamp (by omega), hT.2.2 i (by omega), cpb_step, nI_1]
    exact ⟨fun z => absurd ((nI_leI (by omega) (by omega)).mp z) (by omega), fun _ => ⟨vp_in_nI (by omega) (by decide), vp_in_nI (by omega) (by decide), ih (i + 1) (by omega)⟩⟩
theorem f_handlesText {f0 n0 s o : Nat} {x : Int32} {ky : aKy} {F : aF} {bs : List Int32} (hs : s < 4) (hb : c 12 = nI (186 + 710 * s)) (hA : auOk A) (hky : kyOk ky) (hm : MA c r A) (hW : PWd P A) (hO : fOk A F) (hn6 : F.2.2.1.length < 6) (hp : aOk (o, bs)) (hx : x = nI o) (hT : MT c r bs) (hF : MFw f0 n0 c P (fun k => P (186 + 710 * s + k)) ky F)
    (hK : ∀ c' P' g', MFw f0 n0 c' P' g' ky (aHandle A ky F (o, bs)) → CFr c c' → PFr (cpb P 3026 bs bs.length) P' → GLg (fun k => P (186 + 710 * s + k)) g' → K (mw w q c' (rup r 0 (pgf P' (186 + 710 * s) 710 g'))) none) : zcall n_M_handlesText [.ref q, .int x] (mw w q c (rup r 0 P)) K := by
  have h40 := hT.2.1
  have e0 : P = cpb P 3026 bs 0 := by
    funext k
    exact (if_neg (by omega)).symm
  have h0 := f_ht_loop (P := P) (q := q) (w := w) (x := x) (K := K) hT ?_ bs.length 0 (Nat.zero_add _)
  · rw [← e0] at h0
    exact e_M_handlesText (b_M_handlesText_0 h0)
  · obtain ⟨P1, hP1⟩ : ∃ P1, P1 = cpb P 3026 bs bs.length := ⟨_, rfl⟩
    rw [← hP1] at hK ⊢
    have o1 : ∀ k, k < 3026 → P1 k = P k := fun k hk => by rw [hP1]; exact if_neg (by omega)
    have e1 : P1 = pgf P1 (186 + 710 * s) 710 (fun k => P (186 + 710 * s + k)) := by
      refine (pgf_id (P := P1) (b := 186 + 710 * s) (n := 710)).symm.trans (pgf_congr (fun k hk => o1 _ (by omega)))
    refine b_M_handlesText_2 ?_
    simp only [and_assoc, exists_and_left, exists_eq_left, exists_eq_left', Option.some.injEq, Value.int.injEq, Value.ref.injEq, Value.long.injEq, true_and, and_true, exists_eq, exists_true_left, mw_ob, mw_ia0, mw_ia2, mw_ia5, mw_ia6, mw_ia7, mw_ia8, mw_ia9, mw_ia10, mw_ia11, mw_ia15, mw_ia16, mF_0, mF_1, mF_2, mF_3, mF_4, mF_5, mF_6, mF_7, mF_8, mF_9, mF_10, mF_11, mF_12, mF_13, mF_14, mF_15, mF_16, mF_len, mF_s1, mF_s3, mF_s4, mF_s12, mF_s13, mF_s14, mw_uob, mw_u0, mw_u2, mw_u5, mw_u6, mw_u7, mw_u8, mw_u9, mw_u10, mw_u11, mw_u15, mw_u16, Nat.reduceLT, rup_s, rup_rup]
    rw [e1]
    refine f_handles (src := 3026) (p := (o, bs)) hb (by omega) (by omega) hA hky hm (fun v hv => (o1 _ (by omega)).trans (hW v hv)) hO hn6 hp hx hT.1 rfl (by omega) (by show 3026 + bs.length ≤ 22416; omega) (fun i hi => ?_) (MFw_P hF (fun i _ hi _ => o1 i (by omega))) (fun c' P' g' m1 m2 m3 m4 => ?_)
    · have hi : i < bs.length := hi
      rw [hP1]
      refine (if_pos (by omega)).trans ?_
      rw [Nat.add_sub_cancel_left]
    · simpa using hK c' P' g' m1 m2 m3 m4
end MSeg
