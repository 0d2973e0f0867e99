/-! THE MODEL: finish(..), ifSegment(..), flow(..) -/
def aFinS (A : aAU) (s : aSt) (i : Nat) : aS := aRel A (fGet s.2.2.2.1 i).1.2.2.1 (fGet s.2.2.2.1 i).1.1 (plug (fGet s.2.2.2.1 i).2.1 s.2.2.1 0).1.1 (fGet s.2.2.2.1 i).2.1.1.2.1 (fGet s.2.2.2.1 i).2.1.1.2.2 (fGet s.2.2.2.1 i).2.1.2.1
def aFin (A : aAU) (s : aSt) (i : Nat) : aSt := (s.1, s.2.1, (aFinS A s i).2.2.2.2.1, s.2.2.2.1.eraseIdx i, s.2.2.2.2)
theorem aFin_ok {A : aAU} {s : aSt} {i : Nat} (h : stOk A s) : stOk A (aFin A s i) := ⟨h.1, fun f hf => h.2.1 f ((List.eraseIdx_sublist _ _).subset hf), h.2.2⟩
theorem FLs_leave2 {P P' : Nat → Int32} {sl : List Nat} {l : List aFlow} {i : Nat} (hS : SL P sl) (h : FLs P sl l) (hi : i < l.length) (e : ∀ k, 186 ≤ k → k < 3026 → (k < 186 + 710 * slG sl i ∨ 186 + 710 * slG sl i + 710 ≤ k) → P' k = P k) : FLs P' (sl.eraseIdx i) (l.eraseIdx i) := by
  obtain ⟨h1, h2⟩ := h
  have hl : (sl.eraseIdx i).length = sl.length - 1 := List.length_eraseIdx_of_lt (by omega)
  have hl2 : (l.eraseIdx i).length = l.length - 1 := List.length_eraseIdx_of_lt hi
  refine ⟨by omega, fun k hk => ?_⟩
  have go : ∀ j, j < l.length → j ≠ i → MFl (fun k => P' (186 + 710 * slG sl j + k)) (fGet l j) := fun j hj hne => by
    have a1 : slG sl j ≠ slG sl i := fun e => hne (slG_inj hS.2.2.1 (by omega) (by omega) e)
    have a2 := slG_lt hS (i := j) (by omega)
    exact MFl_congr (h2 j hj) (fun k hk => e _ (by omega) (by omega) (by omega))
  rw [slG_erase, fGet_erase]
  by_cases hki : k < i
  · rw [if_pos hki, if_pos hki]
    exact go k (by omega) (by omega)
  · rw [if_neg hki, if_neg hki]
    exact go (k + 1) (by omega) (by omega)
theorem PST_cp5 {P : Nat → Int32} {i j : Nat} {past : List aSt} (h : PST P past) (hj : j = 0 ∨ j = 5) : PST (cpB P i j) past := ⟨h.1, fun k hk => by
  have := h.1
  rw [blk_cpo (by omega)]
  exact h.2 k hk⟩
def aFlowAt (l : List aFlow) (x : Int32) : Int32 := if (0 : Int32) ≤ x then (if nI l.length ≤ x then -9 else (fGet l x.toNatClampNeg).1.1) else -1
section MFin
variable {w : jx_W} {q : Nat} {c : Nat → Int32} {r : Nat → Nat → Int32} {K : jx_Q} {P : Nat → Int32} {A : aAU} {s : aSt} {past : List aSt} {bs : List Int32}
theorem f_finish {key : Int32} (hI : MI c r P A s past bs) (hO : stOk A s) (hA : auOk A)
    (hK0 : ¬ (0 : Int32) ≤ aAsked s.2.2.2.1 key → K (mw w q c (rup r 0 P)) (some (.int (aAsked s.2.2.2.1 key))))
    (hK1 : ∀ i, i < s.2.2.2.1.length → aAsked s.2.2.2.1 key = nI i → ∀ c' P', MI c' r P' A (aFin A s i) (aPast past s) bs → K (mw w q c' (rup r 0 P')) (some (.int (nI ((aFinS A s i).2.2.2.2.1.length - s.2.2.1.length))))) : zcall n_M_finish [.ref q, .int key] (mw w q c (rup r 0 P)) K := by
  have hl4 : s.2.2.2.1.length ≤ 4 := by
    obtain ⟨⟨-, -, -, ⟨sl, k6, k7⟩, -⟩, -⟩ := id hI
    rw [← k7.1]; exact k6.2.1
  refine e_M_finish (b_M_finish_0 ?_)
  simp only [and_assoc, exists_and_left, exists_eq_left, exists_eq_left', Option.some.injEq, Value.int.injEq, Value.ref.injEq, Value.long.injEq, true_and, and_true, exists_eq, exists_true_left, mw_ob, mw_ia0, mw_ia2, mw_ia5, mw_ia6, mw_ia7, mw_ia8, mw_ia9, mw_ia10, mw_ia11, mw_ia15, mw_ia16, mF_0, mF_1, mF_2, mF_3, mF_4, mF_5, mF_6, mF_7, mF_8, mF_9, mF_10, mF_11, mF_12, mF_13, mF_14, mF_15, mF_16, mF_len, mF_s1, mF_s3, mF_s4, mF_s12, mF_s13, mF_s14, mw_uob, mw_u0, mw_u2, mw_u5, mw_u6, mw_u7, mw_u8, mw_u9, mw_u10, mw_u11, mw_u15, mw_u16, Nat.reduceLT, rup_s, rup_rup]
  refine f_asked hI.1 ?_
  simp only [and_assoc, exists_and_left, exists_eq_left, exists_eq_left', Option.some.injEq, Value.int.injEq, Value.ref.injEq, Value.long.injEq, true_and, and_true, exists_eq, exists_true_left, mw_ob, mw_ia0, mw_ia2, mw_ia5, mw_ia6, mw_ia7, mw_ia8, mw_ia9, mw_ia10, mw_ia11, mw_ia15, mw_ia16, mF_0, mF_1, mF_2, mF_3, mF_4, mF_5, mF_6, mF_7, mF_8, mF_9, mF_10, mF_11, mF_12, mF_13, mF_14, mF_15, mF_16, mF_len, mF_s1, mF_s3, mF_s4, mF_s12, mF_s13, mF_s14, mw_uob, mw_u0, mw_u2, mw_u5, mw_u6, mw_u7, mw_u8, mw_u9, mw_u10, mw_u11, mw_u15, mw_u16, Nat.reduceLT, rup_s, rup_rup]
  refine ⟨fun z => b_M_finish_1 ?_, fun z => hK0 z⟩
  obtain ⟨i, hi, hpl, ea⟩ | hno := aAsked_cs (l := s.2.2.2.1) (key := key) hl4
  case inr => exact absurd z hno
  rw [ea]
  simp only [and_assoc, exists_and_left, exists_eq_left, exists_eq_left', Option.some.injEq, Value.int.injEq, Value.ref.injEq, Value.long.injEq, true_and, and_true, exists_eq, exists_true_left, mw_ob, mw_ia0, mw_ia2, mw_ia5, mw_ia6, mw_ia7, mw_ia8, mw_ia9, mw_ia10, mw_ia11, mw_ia15, mw_ia16, mF_0, mF_1, mF_2, mF_3, mF_4, mF_5, mF_6, mF_7, mF_8, mF_9, mF_10, mF_11, mF_12, mF_13, mF_14, mF_15, mF_16, mF_len, mF_s1, mF_s3, mF_s4, mF_s12, mF_s13, mF_s14, mw_uob, mw_u0, mw_u2, mw_u5, mw_u6, mw_u7, mw_u8, mw_u9, mw_u10, mw_u11, mw_u15, mw_u16, Nat.reduceLT, rup_s, rup_rup]
  refine f_beginsI hI (fun c1 P1 i1 i2 => ?_)
  obtain ⟨⟨k1, ⟨k2, k3, k4⟩, k5, ⟨sl, k6, k7⟩, k8⟩, j2, j3, j4, j5, f0, j6⟩ := i1
  have hl : sl.length = s.2.2.2.1.length := k7.1
  have hs4 := slG_lt k6 (i := i) (by omega)
  obtain ⟨p1, p2⟩ := hO.2.1 _ (fGet_mem hi)
  simp only [and_assoc, exists_and_left, exists_eq_left, exists_eq_left', Option.some.injEq, Value.int.injEq, Value.ref.injEq, Value.long.injEq, true_and, and_true, exists_eq, exists_true_left, mw_ob, mw_ia0, mw_ia2, mw_ia5, mw_ia6, mw_ia7, mw_ia8, mw_ia9, mw_ia10, mw_ia11, mw_ia15, mw_ia16, mF_0, mF_1, mF_2, mF_3, mF_4, mF_5, mF_6, mF_7, mF_8, mF_9, mF_10, mF_11, mF_12, mF_13, mF_14, mF_15, mF_16, mF_len, mF_s1, mF_s3, mF_s4, mF_s12, mF_s13, mF_s14, mw_uob, mw_u0, mw_u2, mw_u5, mw_u6, mw_u7, mw_u8, mw_u9, mw_u10, mw_u11, mw_u15, mw_u16, Nat.reduceLT, rup_s, rup_rup]
  refine f_slot k6 (i := i) rfl (by omega) ?_
  simp only [and_assoc, exists_and_left, exists_eq_left, exists_eq_left', Option.some.injEq, Value.int.injEq, Value.ref.injEq, Value.long.injEq, true_and, and_true, exists_eq, exists_true_left, mw_ob, mw_ia0, mw_ia2, mw_ia5, mw_ia6, mw_ia7, mw_ia8, mw_ia9, mw_ia10, mw_ia11, mw_ia15, mw_ia16, mF_0, mF_1, mF_2, mF_3, mF_4, mF_5, mF_6, mF_7, mF_8, mF_9, mF_10, mF_11, mF_12, mF_13, mF_14, mF_15, mF_16, mF_len, mF_s1, mF_s3, mF_s4, mF_s12, mF_s13, mF_s14, mw_uob, mw_u0, mw_u2, mw_u5, mw_u6, mw_u7, mw_u8, mw_u9, mw_u10, mw_u11, mw_u15, mw_u16, Nat.reduceLT, rup_s, rup_rup]
  obtain ⟨m1, m2⟩ := k7.2 i hi
  have hW : PWd P1 A := fun v hv => (k1 v hv).1.trans (by rw [hO.2.2 v hv])
  have hF : MFw f0 (4294967296 + s.2.2.1.length) (upd (upd c1 12 (nI (186 + 710 * slG sl i))) 13 0) P1 (fun k => P1 (186 + 710 * slG sl i + k)) (fGet s.2.2.2.1 i).1 (plug (fGet s.2.2.2.1 i).2.1 s.2.2.1 0) := by
    refine MFw_of (MFs_plug m1) k5 ?_ (Nat.le_refl _) ?_
    · rw [show f0 ||| afm (plug (fGet s.2.2.2.1 i).2.1 s.2.2.1 0) = f0 from Nat.or_zero _]
      exact j6
    · show (0 : Int32) = nI (4294967296 + s.2.2.1.length - (4294967296 + s.2.2.1.length))
      rw [Nat.sub_self]; rfl
  have hg : P1 = pgf P1 (186 + 710 * slG sl i) 710 (fun k => P1 (186 + 710 * slG sl i + k)) := pgf_id.symm
  have hlets : ∀ K', (∀ c' P' g', MR f0 (4294967296 + s.2.2.1.length) c' P' g' (aFinS A s i) → CFr (upd (upd c1 12 (nI (186 + 710 * slG sl i))) 13 0) c' → PFr P1 P' → K' (mw w q c' (rup r 0 (pgf P' (186 + 710 * slG sl i) 710 g'))) none) → zcall n_M_lets [.ref q] (mw w q (upd (upd c1 12 (nI (186 + 710 * slG sl i))) 13 0) (rup r 0 P1)) K' := fun K' h => by
    have h2 := f_lets (w := w) (q := q) (K := K') (c := upd (upd c1 12 (nI (186 + 710 * slG sl i))) 13 0) (r := r) (P := P1) (g := fun k => P1 (186 + 710 * slG sl i + k)) (b := 186 + 710 * slG sl i) (A := A) (fl := (fGet s.2.2.2.1 i).1.2.2.1) rfl (by omega) (by omega) hA j5 hW hF.2.2.2.2.2.2.2.2.2.2.2.1 p1.2.1 (fOk_plug p2).1 hF.1 hF.2.1 (by have := p2.2.1; show (fGet s.2.2.2.1 i).2.1.2.1 < 2 ^ 30; omega) (fun c' P' g' a1 a2 a3 a4 a5 => h c' P' g' (by
        have e0 : P1 (186 + 710 * slG sl i + 0) = (fGet s.2.2.2.1 i).1.1 := hF.2.2.2.2.2.2.2.2.2.1
        rw [e0] at a1
        exact a1) a3 a4)
    rw [pgf_id] at h2
    exact h2
  refine hlets _ (fun c' P' g' a1 a3 a4 => ?_)
  simp only [and_assoc, exists_and_left, exists_eq_left, exists_eq_left', Option.some.injEq, Value.int.injEq, Value.ref.injEq, Value.long.injEq, true_and, and_true, exists_eq, exists_true_left, mw_ob, mw_ia0, mw_ia2, mw_ia5, mw_ia6, mw_ia7, mw_ia8, mw_ia9, mw_ia10, mw_ia11, mw_ia15, mw_ia16, mF_0, mF_1, mF_2, mF_3, mF_4, mF_5, mF_6, mF_7, mF_8, mF_9, mF_10, mF_11, mF_12, mF_13, mF_14, mF_15, mF_16, mF_len, mF_s1, mF_s3, mF_s4, mF_s12, mF_s13, mF_s14, mw_uob, mw_u0, mw_u2, mw_u5, mw_u6, mw_u7, mw_u8, mw_u9, mw_u10, mw_u11, mw_u15, mw_u16, Nat.reduceLT, rup_s, rup_rup]
  have eo : ∀ k, (k < 62 ∨ k = 65 ∨ (186 ≤ k ∧ k < 186 + 710 * slG sl i) ∨ 186 + 710 * slG sl i + 710 ≤ k) → pgf P' (186 + 710 * slG sl i) 710 g' k = P1 k := fun k hk => (pgf_out (by omega)).trans (a4 k (by omega))
  have hS2 : SL (pgf P' (186 + 710 * slG sl i) 710 g') sl := by
    obtain ⟨d1, d2, d3, d4, d5⟩ := id k6
    exact ⟨(eo _ (by omega)).trans d1, d2, d3, d4, fun k hk => (eo _ (by omega)).trans (d5 k hk)⟩
  have hn4 := k6.2.1
  refine f_leaves (i := i) (n := sl.length) rfl k6.2.1 (by omega) hS2.1 ?_
  simp only [and_assoc, exists_and_left, exists_eq_left, exists_eq_left', Option.some.injEq, Value.int.injEq, Value.ref.injEq, Value.long.injEq, true_and, and_true, exists_eq, exists_true_left, mw_ob, mw_ia0, mw_ia2, mw_ia5, mw_ia6, mw_ia7, mw_ia8, mw_ia9, mw_ia10, mw_ia11, mw_ia15, mw_ia16, mF_0, mF_1, mF_2, mF_3, mF_4, mF_5, mF_6, mF_7, mF_8, mF_9, mF_10, mF_11, mF_12, mF_13, mF_14, mF_15, mF_16, mF_len, mF_s1, mF_s3, mF_s4, mF_s12, mF_s13, mF_s14, mw_uob, mw_u0, mw_u2, mw_u5, mw_u6, mw_u7, mw_u8, mw_u9, mw_u10, mw_u11, mw_u15, mw_u16, Nat.reduceLT, rup_s, rup_rup]
  have ev : ∀ k, (k < 57 ∨ 62 ≤ k) → lvP (pgf P' (186 + 710 * slG sl i) 710 g') i sl.length k = pgf P' (186 + 710 * slG sl i) 710 g' k := fun k hk => lvP_o hn4 hk
  have e2 : ∀ k, (k < 57 ∨ k = 65 ∨ (186 ≤ k ∧ k < 186 + 710 * slG sl i) ∨ 186 + 710 * slG sl i + 710 ≤ k) → lvP (pgf P' (186 + 710 * slG sl i) 710 g') i sl.length k = P1 k := fun k hk => (ev k (by omega)).trans (eo k (by omega))
  have ec : ∀ k, k ≠ 12 → k ≠ 13 → k ≠ 14 → c' k = c1 k := fun k b1 b2 b3 => (a3 k b2 b3).trans ((if_neg b2).trans (if_neg b1))
  rw [a1.2.2.2.2.2.2.2.2.2, Nat.add_sub_add_left]
  refine hK1 i hi ea c' _ ⟨⟨PSw_congr k1 (fun k hk => e2 k (by omega)), ⟨(e2 _ (by omega)).trans k2, (e2 _ (by omega)).trans k3, (e2 _ (by omega)).trans k4⟩, HF_congr a1.2.2.2.2.1 (fun k b1 b2 b3 => (ev k (by omega)).trans (pgf_out (by omega))), ⟨_, SL_leave hS2 (by omega), FLs_leave2 k6 k7 hi (fun k b1 b2 b3 => e2 k (by omega))⟩, (e2 _ (by omega)).trans k8⟩, PST_fr j2 (fun k hk => e2 k (by omega)), (ec 1 (by decide) (by decide) (by decide)).trans j3, MT_fr j4 (ec 3 (by decide) (by decide) (by decide)), MA_fr j5 (ec 4 (by decide) (by decide) (by decide)), _, a1.2.2.2.2.2.2.2.1⟩
theorem f_ifSegment {key off : Int32} (hI : MI c r P A s past bs) (hO : stOk A s) (hA : auOk A) (hbs : bsOk bs)
    (hK0 : aWrong s bs key off ≠ 0 → K (mw w q c (rup r 0 P)) (some (.int (aWrong s bs key off))))
    (hK1 : aWrong s bs key off = 0 → ∀ c' P' o, off = nI o → o ≤ 999 → MI c' r P' A s past bs → K (mw w q c' (rup r 0 P')) (some (.int (nI (aMade A s key (o, bs)))))) : zcall n_M_ifSegment [.ref q, .int key, .int off] (mw w q c (rup r 0 P)) K := by
  refine e_M_ifSegment (b_M_ifSegment_0 ?_)
  simp only [and_assoc, exists_and_left, exists_eq_left, exists_eq_left', Option.some.injEq, Value.int.injEq, Value.ref.injEq, Value.long.injEq, true_and, and_true, exists_eq, exists_true_left, mw_ob, mw_ia0, mw_ia2, mw_ia5, mw_ia6, mw_ia7, mw_ia8, mw_ia9, mw_ia10, mw_ia11, mw_ia15, mw_ia16, mF_0, mF_1, mF_2, mF_3, mF_4, mF_5, mF_6, mF_7, mF_8, mF_9, mF_10, mF_11, mF_12, mF_13, mF_14, mF_15, mF_16, mF_len, mF_s1, mF_s3, mF_s4, mF_s12, mF_s13, mF_s14, mw_uob, mw_u0, mw_u2, mw_u5, mw_u6, mw_u7, mw_u8, mw_u9, mw_u10, mw_u11, mw_u15, mw_u16, Nat.reduceLT, rup_s, rup_rup]
  refine f_wrong hI ?_
  simp only [and_assoc, exists_and_left, exists_eq_left, exists_eq_left', Option.some.injEq, Value.int.injEq, Value.ref.injEq, Value.long.injEq, true_and, and_true, exists_eq, exists_true_left, mw_ob, mw_ia0, mw_ia2, mw_ia5, mw_ia6, mw_ia7, mw_ia8, mw_ia9, mw_ia10, mw_ia11, mw_ia15, mw_ia16, mF_0, mF_1, mF_2, mF_3, mF_4, mF_5, mF_6, mF_7, mF_8, mF_9, mF_10, mF_11, mF_12, mF_13, mF_14, mF_15, mF_16, mF_len, mF_s1, mF_s3, mF_s4, mF_s12, mF_s13, mF_s14, mw_uob, mw_u0, mw_u2, mw_u5, mw_u6, mw_u7, mw_u8, mw_u9, mw_u10, mw_u11, mw_u15, mw_u16, Nat.reduceLT, rup_s, rup_rup]
  refine ⟨fun z => b_M_ifSegment_1 ?_, fun z => hK0 z⟩
  obtain ⟨z1, z2, z3, z4⟩ := wrong0 z
  obtain ⟨o, ho, rfl⟩ := off_nI z2
  have h40 := hI.2.2.2.1.2.1
  obtain ⟨j1, j2, j3, j4, j5, f0, j6⟩ := hI
  simp only [and_assoc, exists_and_left, exists_eq_left, exists_eq_left', Option.some.injEq, Value.int.injEq, Value.ref.injEq, Value.long.injEq, true_and, and_true, exists_eq, exists_true_left, mw_ob, mw_ia0, mw_ia2, mw_ia5, mw_ia6, mw_ia7, mw_ia8, mw_ia9, mw_ia10, mw_ia11, mw_ia15, mw_ia16, mF_0, mF_1, mF_2, mF_3, mF_4, mF_5, mF_6, mF_7, mF_8, mF_9, mF_10, mF_11, mF_12, mF_13, mF_14, mF_15, mF_16, mF_len, mF_s1, mF_s3, mF_s4, mF_s12, mF_s13, mF_s14, mw_uob, mw_u0, mw_u2, mw_u5, mw_u6, mw_u7, mw_u8, mw_u9, mw_u10, mw_u11, mw_u15, mw_u16, Nat.reduceLT, rup_s, rup_rup]
  refine f_copies (i := 0) (j := 5) rfl rfl (by decide) (by decide) (by decide) ?_
  simp only [and_assoc, exists_and_left, exists_eq_left, exists_eq_left', Option.some.injEq, Value.int.injEq, Value.ref.injEq, Value.long.injEq, true_and, and_true, exists_eq, exists_true_left, mw_ob, mw_ia0, mw_ia2, mw_ia5, mw_ia6, mw_ia7, mw_ia8, mw_ia9, mw_ia10, mw_ia11, mw_ia15, mw_ia16, mF_0, mF_1, mF_2, mF_3, mF_4, mF_5, mF_6, mF_7, mF_8, mF_9, mF_10, mF_11, mF_12, mF_13, mF_14, mF_15, mF_16, mF_len, mF_s1, mF_s3, mF_s4, mF_s12, mF_s13, mF_s14, mw_uob, mw_u0, mw_u2, mw_u5, mw_u6, mw_u7, mw_u8, mw_u9, mw_u10, mw_u11, mw_u15, mw_u16, Nat.reduceLT, rup_s, rup_rup]
  have hP1 : PS (cpB P 0 5) s := PS_of0 (by rw [blk_cpo (by decide)]; exact PS_blk0 j1)
  refine f_segments (f0 := f0) (o := o) (bs := bs) hP1 hO hA j5 j6 (wrong6 hO z) ⟨ho, by show 1 ≤ bs.length; omega, h40, hbs⟩ rfl j4 (fun c2 P2 m1 m2 m3 m4 m5 m6 => ?_)
  simp only [and_assoc, exists_and_left, exists_eq_left, exists_eq_left', Option.some.injEq, Value.int.injEq, Value.ref.injEq, Value.long.injEq, true_and, and_true, exists_eq, exists_true_left, mw_ob, mw_ia0, mw_ia2, mw_ia5, mw_ia6, mw_ia7, mw_ia8, mw_ia9, mw_ia10, mw_ia11, mw_ia15, mw_ia16, mF_0, mF_1, mF_2, mF_3, mF_4, mF_5, mF_6, mF_7, mF_8, mF_9, mF_10, mF_11, mF_12, mF_13, mF_14, mF_15, mF_16, mF_len, mF_s1, mF_s3, mF_s4, mF_s12, mF_s13, mF_s14, mw_uob, mw_u0, mw_u2, mw_u5, mw_u6, mw_u7, mw_u8, mw_u9, mw_u10, mw_u11, mw_u15, mw_u16, Nat.reduceLT, rup_s, rup_rup]
  refine f_copies (i := 5) (j := 0) rfl rfl (by decide) (by decide) (by decide) ?_
  simp only [and_assoc, exists_and_left, exists_eq_left, exists_eq_left', Option.some.injEq, Value.int.injEq, Value.ref.injEq, Value.long.injEq, true_and, and_true, exists_eq, exists_true_left, mw_ob, mw_ia0, mw_ia2, mw_ia5, mw_ia6, mw_ia7, mw_ia8, mw_ia9, mw_ia10, mw_ia11, mw_ia15, mw_ia16, mF_0, mF_1, mF_2, mF_3, mF_4, mF_5, mF_6, mF_7, mF_8, mF_9, mF_10, mF_11, mF_12, mF_13, mF_14, mF_15, mF_16, mF_len, mF_s1, mF_s3, mF_s4, mF_s12, mF_s13, mF_s14, mw_uob, mw_u0, mw_u2, mw_u5, mw_u6, mw_u7, mw_u8, mw_u9, mw_u10, mw_u11, mw_u15, mw_u16, Nat.reduceLT, rup_s, rup_rup]
  rw [m3]
  refine hK1 z c2 _ o rfl ho ⟨PS_of0 ?_, PST_cp5 (PST_fr (PST_cp5 j2 (Or.inr rfl)) m6) (Or.inl rfl), (m5 1 (by decide) (by decide) (by decide)).trans j3, MT_fr j4 (m5 3 (by decide) (by decide) (by decide)), MA_fr j5 (m5 4 (by decide) (by decide) (by decide)), _, m2⟩
  rw [blk_cp, blk_congr (P := cpB P 0 5) (k := 5) (fun i a1 a2 => m6 i (by omega)), blk_cp]
  exact PS_blk0 j1
theorem f_flow {x : Int32} (hP : PS P s) (hK : K (mw w q c (rup r 0 P)) (some (.int (aFlowAt s.2.2.2.1 x)))) : zcall n_M_flow [.ref q, .int x] (mw w q c (rup r 0 P)) K := by
  obtain ⟨k1, k2, k5, ⟨sl, k6, k7⟩, k8⟩ := hP
  have hl : sl.length = s.2.2.2.1.length := k7.1
  have hl4 := k6.2.1
  unfold aFlowAt at hK
  refine e_M_flow (b_M_flow_0 ⟨fun z => b_M_flow_1 ?_, fun z => b_M_flow_3 ?_⟩)
  · rw [if_pos z] at hK
    simp only [and_assoc, exists_and_left, exists_eq_left, exists_eq_left', Option.some.injEq, Value.int.injEq, Value.ref.injEq, Value.long.injEq, true_and, and_true, exists_eq, exists_true_left, mw_ob, mw_ia0, mw_ia2, mw_ia5, mw_ia6, mw_ia7, mw_ia8, mw_ia9, mw_ia10, mw_ia11, mw_ia15, mw_ia16, mF_0, mF_1, mF_2, mF_3, mF_4, mF_5, mF_6, mF_7, mF_8, mF_9, mF_10, mF_11, mF_12, mF_13, mF_14, mF_15, mF_16, mF_len, mF_s1, mF_s3, mF_s4, mF_s12, mF_s13, mF_s14, mw_uob, mw_u0, mw_u2, mw_u5, mw_u6, mw_u7, mw_u8, mw_u9, mw_u10, mw_u11, mw_u15, mw_u16, Nat.reduceLT, rup_s, rup_rup]
    rw [show P (57 : Int32).toNatClampNeg = nI s.2.2.2.1.length from k6.1.trans (by rw [hl])]
    refine ⟨vp_in_nI (n := 57) (by decide) (by decide), fun y => b_M_flow_2 (b_M_flow_3 ?_), fun y => ?_⟩
    · rw [if_pos y] at hK
      exact hK
    · rw [if_neg y] at hK
      rcases pk_ix x (n := s.2.2.2.1.length) (by omega) with h1 | h1 | ⟨j, h1, rfl⟩
      · exact absurd h1 (Int32.not_lt.mpr z)
      · exact absurd h1 y
      · rw [nI_clamp (by omega)] at hK
        have hs4 := slG_lt k6 (i := j) (by omega)
        refine f_slot k6 rfl (by omega) ?_
        simp only [and_assoc, exists_and_left, exists_eq_left, exists_eq_left', Option.some.injEq, Value.int.injEq, Value.ref.injEq, Value.long.injEq, true_and, and_true, exists_eq, exists_true_left, mw_ob, mw_ia0, mw_ia2, mw_ia5, mw_ia6, mw_ia7, mw_ia8, mw_ia9, mw_ia10, mw_ia11, mw_ia15, mw_ia16, mF_0, mF_1, mF_2, mF_3, mF_4, mF_5, mF_6, mF_7, mF_8, mF_9, mF_10, mF_11, mF_12, mF_13, mF_14, mF_15, mF_16, mF_len, mF_s1, mF_s3, mF_s4, mF_s12, mF_s13, mF_s14, mw_uob, mw_u0, mw_u2, mw_u5, mw_u6, mw_u7, mw_u8, mw_u9, mw_u10, mw_u11, mw_u15, mw_u16, Nat.reduceLT, rup_s, rup_rup]
        rw [lit_0, nI_add, Nat.add_zero, nI_clamp (by omega), show P (186 + 710 * slG sl j) = (fGet s.2.2.2.1 j).1.1 from (k7.2 j h1).1.2.2.2.2.2.2.2.2.2.2.2.2.2.2.1]
        exact ⟨vp_in_nI (by omega) (by decide), b_M_flow_3 hK⟩
  · rw [if_neg z] at hK
    exact hK
end MFin
