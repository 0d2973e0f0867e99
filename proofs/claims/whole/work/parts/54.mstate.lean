/-! THE MODEL: the state of a page; segments(..) -/
abbrev aSt : Type := (Nat → List Nat) × (Nat × Nat × Nat) × List aFd × List aFlow × Nat
def PSw (P : Nat → Int32) (wd : Nat → List Nat) : Prop := ∀ v, v < 6 → P (9 * v) = nI (wd v).length ∧ (wd v).length ≤ 8 ∧ ∀ i, i < (wd v).length → P (9 * v + 1 + i) = nI ((wd v).getD i 0)
def PS (P : Nat → Int32) (s : aSt) : Prop := PSw P s.1 ∧ (P 54 = nI s.2.1.1 ∧ P 55 = nI s.2.1.2.1 ∧ P 56 = nI s.2.1.2.2) ∧ HF P s.2.2.1 ∧ (∃ sl, SL P sl ∧ FLs P sl s.2.2.2.1) ∧ P 65 = nI s.2.2.2.2
def stOk (A : aAU) (s : aSt) : Prop := kyOk (0, s.2.1) ∧ (∀ f ∈ s.2.2.2.1, kyOk f.1 ∧ fOk A f.2.1) ∧ ∀ v, v < 6 → A.2.2.2 v = (s.1 v).length
theorem PSw_congr {P P' : Nat → Int32} {wd : Nat → List Nat} (h : PSw P wd) (e : ∀ i, i < 54 → P' i = P i) : PSw P' wd := fun v hv => by
  obtain ⟨h1, h2, h3⟩ := h v hv
  exact ⟨(e _ (by omega)).trans h1, h2, fun i hi => (e _ (by omega)).trans (h3 i hi)⟩
theorem PS_congr {P P' : Nat → Int32} {s : aSt} (h : PS P s) (e : ∀ i, i < 3026 → P' i = P i) : PS P' s := by
  obtain ⟨h1, ⟨h2, h3, h4⟩, h5, ⟨sl, ⟨a1, a2, a3, a4, a5⟩, b1, b2⟩, h7⟩ := h
  refine ⟨PSw_congr h1 (fun i hi => e i (by omega)), ⟨(e _ (by decide)).trans h2, (e _ (by decide)).trans h3, (e _ (by decide)).trans h4⟩, HF_congr h5 (fun i _ hi _ => e i (by omega)), ⟨sl, ⟨(e _ (by decide)).trans a1, a2, a3, a4, fun i hi => (e _ (by omega)).trans (a5 i hi)⟩, b1, fun i hi => MFl_congr (b2 i hi) (fun k hk => e _ ?_)⟩, (e _ (by decide)).trans h7⟩
  have := a4 _ (slG_mem (sl := sl) (i := i) (by omega))
  omega
theorem fGet_mem {l : List aFlow} {i : Nat} (h : i < l.length) : fGet l i ∈ l := by
  unfold fGet
  rw [List.getD_eq_getElem?_getD, List.getElem?_eq_getElem h]
  exact List.getElem_mem h
/-- the flow that a segment goes to, the others, how many were forgotten -/
def aTo (s : aSt) (key : Int32) : aFlow × List aFlow × Nat := match aPlace s.2.2.2.1 key with
  | some i => (fGet s.2.2.2.1 i, s.2.2.2.1.eraseIdx i, s.2.2.2.2)
  | none => (((key, s.2.1), aBeg [], []), if s.2.2.2.1.length = 4 then s.2.2.2.1.eraseIdx 0 else s.2.2.2.1, if s.2.2.2.1.length = 4 then s.2.2.2.2 + 1 else s.2.2.2.2)
def aSegF (A : aAU) (s : aSt) (key : Int32) (p : aP) : aF := aOn A (aTo s key).1 s.2.2.1 p
def aSegm (A : aAU) (s : aSt) (key : Int32) (p : aP) : aSt := (s.1, s.2.1, afh (aSegF A s key p), (aTo s key).2.1 ++ [((aTo s key).1.1, plug (aSegF A s key p) [] 0, aLog (aTo s key).1.2.2 p)], (aTo s key).2.2)
def CF2 (c c' : Nat → Int32) : Prop := ∀ i, i ≠ 12 → i ≠ 13 → i ≠ 14 → c' i = c i
theorem gBeg_fl {ky : aKy} : MFl (gBeg ky) (ky, aBeg [], []) := ⟨gBeg_ok, rfl, Nat.zero_le _, fun p hp => (by cases hp), fun i hi => absurd hi (Nat.not_lt_zero _)⟩
section MState
variable {w : jx_W} {q : Nat} {c : Nat → Int32} {r : Nat → Nat → Int32} {K : jx_Q} {P : Nat → Int32} {A : aAU}
theorem f_segments {f0 o : Nat} {key x : Int32} {s : aSt} {bs : List Int32} (hP : PS P s) (hO : stOk A s) (hA : auOk A) (hm : MA c r A) (h14 : c 14 = nI f0) (hn6 : (aTo s key).1.2.1.2.2.1.length < 6) (hp : aOk (o, bs)) (hx : x = nI o) (hT : MT c r bs)
    (hK : ∀ c' P', PS P' (aSegm A s key (o, bs)) → c' 14 = nI (f0 ||| afm (aSegF A s key (o, bs))) → c' 13 = nI ((afh (aSegF A s key (o, bs))).length - s.2.2.1.length) → s.2.2.1.length ≤ (afh (aSegF A s key (o, bs))).length → CF2 c c' → (∀ i, 3736 ≤ i → P' i = P i) → K (mw w q c' (rup r 0 P')) none) :
    zcall n_M_segments [.ref q, .int key, .int x] (mw w q c (rup r 0 P)) K := by
  obtain ⟨wd, se, fh, l, fg⟩ := s
  obtain ⟨k1, ⟨k2, k3, k4⟩, k5, ⟨sl, k6, k7⟩, k8⟩ := hP
  obtain ⟨o1, o2, o3⟩ := hO
  have hW : ∀ P', (∀ i, i < 54 → P' i = P i) → PWd P' A := fun P' e v hv => by
    rw [e _ (by omega), o3 v hv]
    exact (k1 v hv).1
  have hl : sl.length = l.length := k7.1
  have h4 := k6.2.1
  -- block 3 reached with the others at P1
  have go : ∀ (P1 : Nat → Int32) (sl1 : List Nat) (sn : Nat), (∀ i, (i < 57 ∨ (62 ≤ i ∧ i < 186 ∧ i ≠ 65) ∨ 3736 ≤ i) → P1 i = P i) → P1 65 = nI (aTo (wd, se, fh, l, fg) key).2.2 → sn < 4 → SL P1 sl1 → sl1.length < 4 → (∀ i, i < sl1.length → slG sl1 i ≠ sn) → FLs P1 sl1 (aTo (wd, se, fh, l, fg) key).2.1 → MFl (fun k => P1 (186 + 710 * sn + k)) (aTo (wd, se, fh, l, fg) key).1 → kyOk (aTo (wd, se, fh, l, fg) key).1.1 → fOk A (aTo (wd, se, fh, l, fg) key).1.2.1 → zwp n_M_segments 3 [(0, .ref q), (2, .int x), (4, .int (nI sn))] [] 0 0 (mw w q (upd c 12 (nI (186 + 710 * sn))) (rup r 0 P1)) K := by
    intro P1 sl1 sn e1 e65 hsn hS1 h41 hf1 hL1 hF1 hky1 hO1
    refine f_seg3 (f0 := f0) (f := (aTo (wd, se, fh, l, fg) key).1) (fh := fh) (c := upd c 12 (nI (186 + 710 * sn))) hsn rfl h14 hA hky1 hm (hW P1 (fun i hi => e1 i (by omega))) hO1 hn6 hp hx rfl hT (HF_congr k5 (fun i a1 a2 a3 => e1 i (by omega))) hF1 hS1 h41 hf1 hL1 (fun c' P' m1 m2 m3 m4 m5 m6 m7 m8 => ?_)
    have e2 : ∀ i, (i < 57 ∨ 3736 ≤ i) → P' i = P i := fun i hi => (m8 i (by omega)).trans (e1 i (by omega))
    refine hK c' P' ⟨PSw_congr k1 (fun i hi => e2 i (by omega)), ⟨(e2 _ (by decide)).trans k2, (e2 _ (by decide)).trans k3, (e2 _ (by decide)).trans k4⟩, m1, ⟨_, m2, m3⟩, (m8 65 (by decide)).trans e65⟩ m4 m5 m6 (fun i a1 a2 a3 => (m7 i a2 a3).trans (if_neg a1)) (fun i hi => e2 i (by omega))
  refine e_M_segments (b_M_segments_0 ?_)
  simp only [and_assoc, exists_and_left, exists_eq_left, exists_eq_left', Option.some.injEq, Value.int.injEq, Value.ref.injEq, Value.long.injEq, true_and, and_true, exists_eq, exists_true_left, mw_ob, mw_ia0, mw_ia2, mw_ia5, mw_ia6, mw_ia7, mw_ia8, mw_ia9, mw_ia10, mw_ia11, mw_ia15, mw_ia16, mF_0, mF_1, mF_2, mF_3, mF_4, mF_5, mF_6, mF_7, mF_8, mF_9, mF_10, mF_11, mF_12, mF_13, mF_14, mF_15, mF_16, mF_len, mF_s1, mF_s3, mF_s4, mF_s12, mF_s13, mF_s14, mw_uob, mw_u0, mw_u2, mw_u5, mw_u6, mw_u7, mw_u8, mw_u9, mw_u10, mw_u11, mw_u15, mw_u16, Nat.reduceLT, rup_s, rup_rup]
  refine f_placeOf k6 k7 ?_
  simp only [and_assoc, exists_and_left, exists_eq_left, exists_eq_left', Option.some.injEq, Value.int.injEq, Value.ref.injEq, Value.long.injEq, true_and, and_true, exists_eq, exists_true_left, mw_ob, mw_ia0, mw_ia2, mw_ia5, mw_ia6, mw_ia7, mw_ia8, mw_ia9, mw_ia10, mw_ia11, mw_ia15, mw_ia16, mF_0, mF_1, mF_2, mF_3, mF_4, mF_5, mF_6, mF_7, mF_8, mF_9, mF_10, mF_11, mF_12, mF_13, mF_14, mF_15, mF_16, mF_len, mF_s1, mF_s3, mF_s4, mF_s12, mF_s13, mF_s14, mw_uob, mw_u0, mw_u2, mw_u5, mw_u6, mw_u7, mw_u8, mw_u9, mw_u10, mw_u11, mw_u15, mw_u16, Nat.reduceLT, rup_s, rup_rup]
  cases hpl : aPlace l key with
  | some i =>
    obtain ⟨hi, hke⟩ := aPlace_lt hpl
    have eT : aTo (wd, se, fh, l, fg) key = (fGet l i, l.eraseIdx i, fg) := by
      unfold aTo
      rw [show aPlace (wd, se, fh, l, fg).2.2.2.1 key = some i from hpl]
    rw [eT] at go
    have hsi := slG_lt k6 (i := i) (by omega)
    refine ⟨fun _ => b_M_segments_2 ?_, fun z => absurd z (nI_ne9 (by omega))⟩
    simp only [and_assoc, exists_and_left, exists_eq_left, exists_eq_left', Option.some.injEq, Value.int.injEq, Value.ref.injEq, Value.long.injEq, true_and, and_true, exists_eq, exists_true_left, mw_ob, mw_ia0, mw_ia2, mw_ia5, mw_ia6, mw_ia7, mw_ia8, mw_ia9, mw_ia10, mw_ia11, mw_ia15, mw_ia16, mF_0, mF_1, mF_2, mF_3, mF_4, mF_5, mF_6, mF_7, mF_8, mF_9, mF_10, mF_11, mF_12, mF_13, mF_14, mF_15, mF_16, mF_len, mF_s1, mF_s3, mF_s4, mF_s12, mF_s13, mF_s14, mw_uob, mw_u0, mw_u2, mw_u5, mw_u6, mw_u7, mw_u8, mw_u9, mw_u10, mw_u11, mw_u15, mw_u16, Nat.reduceLT, rup_s, rup_rup]
    rw [show oM (some i) = nI i from rfl, lit_58, nI_add, nI_clamp (by omega), k6.2.2.2.2 i (by omega)]
    refine ⟨vp_in_nI (by omega) (by decide), ?_⟩
    refine f_leaves (i := i) (n := sl.length) rfl h4 (by omega) k6.1 ?_
    simp only [and_assoc, exists_and_left, exists_eq_left, exists_eq_left', Option.some.injEq, Value.int.injEq, Value.ref.injEq, Value.long.injEq, true_and, and_true, exists_eq, exists_true_left, mw_ob, mw_ia0, mw_ia2, mw_ia5, mw_ia6, mw_ia7, mw_ia8, mw_ia9, mw_ia10, mw_ia11, mw_ia15, mw_ia16, mF_0, mF_1, mF_2, mF_3, mF_4, mF_5, mF_6, mF_7, mF_8, mF_9, mF_10, mF_11, mF_12, mF_13, mF_14, mF_15, mF_16, mF_len, mF_s1, mF_s3, mF_s4, mF_s12, mF_s13, mF_s14, mw_uob, mw_u0, mw_u2, mw_u5, mw_u6, mw_u7, mw_u8, mw_u9, mw_u10, mw_u11, mw_u15, mw_u16, Nat.reduceLT, rup_s, rup_rup]
    rw [lit_186, lit_710, pk_mul, nI_add]
    have eo : ∀ k, (k < 57 ∨ 62 ≤ k) → lvP P i sl.length k = P k := fun k hk => lvP_o h4 hk
    have hle : (sl.eraseIdx i).length = sl.length - 1 := List.length_eraseIdx_of_lt (by omega)
    refine go (lvP P i sl.length) (sl.eraseIdx i) (slG sl i) (fun k hk => eo k (by omega)) ((eo 65 (by decide)).trans k8) hsi (SL_leave k6 (by omega)) (by omega) (fun k hk e => ?_) (FLs_leave k7 hi (fun k hk => eo k (by omega))) (MFl_congr (k7.2 i hi) (fun k hk => eo _ (by omega))) (o2 _ (fGet_mem hi)).1 (o2 _ (fGet_mem hi)).2
    rw [slG_erase] at e
    by_cases hki : k < i
    · rw [if_pos hki] at e
      have := slG_inj k6.2.2.1 (by omega) (by omega) e
      omega
    · rw [if_neg hki] at e
      have := slG_inj k6.2.2.1 (by omega) (by omega) e
      omega
  | none =>
    have eT : aTo (wd, se, fh, l, fg) key = (((key, se), aBeg [], []), if l.length = 4 then l.eraseIdx 0 else l, if l.length = 4 then fg + 1 else fg) := by
      unfold aTo
      rw [show aPlace (wd, se, fh, l, fg).2.2.2.1 key = none from hpl]
    rw [eT] at go
    have b1 : ∀ (P1 : Nat → Int32) (sl1 : List Nat), (∀ i, (i < 57 ∨ (62 ≤ i ∧ i ≠ 65)) → P1 i = P i) → P1 65 = nI (if l.length = 4 then fg + 1 else fg) → SL P1 sl1 → sl1.length < 4 → FLs P1 sl1 (if l.length = 4 then l.eraseIdx 0 else l) → zwp n_M_segments 1 [(0, .ref q), (1, .int key), (2, .int x)] [] 0 0 (mw w q c (rup r 0 P1)) K := by
      intro P1 sl1 e1 e65 hS1 h41 hL1
      refine b_M_segments_1 ?_
      simp only [and_assoc, exists_and_left, exists_eq_left, exists_eq_left', Option.some.injEq, Value.int.injEq, Value.ref.injEq, Value.long.injEq, true_and, and_true, exists_eq, exists_true_left, mw_ob, mw_ia0, mw_ia2, mw_ia5, mw_ia6, mw_ia7, mw_ia8, mw_ia9, mw_ia10, mw_ia11, mw_ia15, mw_ia16, mF_0, mF_1, mF_2, mF_3, mF_4, mF_5, mF_6, mF_7, mF_8, mF_9, mF_10, mF_11, mF_12, mF_13, mF_14, mF_15, mF_16, mF_len, mF_s1, mF_s3, mF_s4, mF_s12, mF_s13, mF_s14, mw_uob, mw_u0, mw_u2, mw_u5, mw_u6, mw_u7, mw_u8, mw_u9, mw_u10, mw_u11, mw_u15, mw_u16, Nat.reduceLT, rup_s, rup_rup]
      refine f_freeSlot hS1 h41 (fun sn hsn hfr => ?_)
      simp only [and_assoc, exists_and_left, exists_eq_left, exists_eq_left', Option.some.injEq, Value.int.injEq, Value.ref.injEq, Value.long.injEq, true_and, and_true, exists_eq, exists_true_left, mw_ob, mw_ia0, mw_ia2, mw_ia5, mw_ia6, mw_ia7, mw_ia8, mw_ia9, mw_ia10, mw_ia11, mw_ia15, mw_ia16, mF_0, mF_1, mF_2, mF_3, mF_4, mF_5, mF_6, mF_7, mF_8, mF_9, mF_10, mF_11, mF_12, mF_13, mF_14, mF_15, mF_16, mF_len, mF_s1, mF_s3, mF_s4, mF_s12, mF_s13, mF_s14, mw_uob, mw_u0, mw_u2, mw_u5, mw_u6, mw_u7, mw_u8, mw_u9, mw_u10, mw_u11, mw_u15, mw_u16, Nat.reduceLT, rup_s, rup_rup]
      rw [lit_186, lit_710, pk_mul, nI_add]
      refine ⟨vp_in_nI (n := 54) (by decide) (by decide), vp_in_nI (n := 55) (by decide) (by decide), vp_in_nI (n := 56) (by decide) (by decide), ?_⟩
      refine f_starts (ky := (key, se)) (P := P1) (b := 186 + 710 * sn) rfl (by omega) rfl ((e1 54 (by decide)).trans k2) ((e1 55 (by decide)).trans k3) ((e1 56 (by decide)).trans k4) rup_s ?_
      simp only [and_assoc, exists_and_left, exists_eq_left, exists_eq_left', Option.some.injEq, Value.int.injEq, Value.ref.injEq, Value.long.injEq, true_and, and_true, exists_eq, exists_true_left, mw_ob, mw_ia0, mw_ia2, mw_ia5, mw_ia6, mw_ia7, mw_ia8, mw_ia9, mw_ia10, mw_ia11, mw_ia15, mw_ia16, mF_0, mF_1, mF_2, mF_3, mF_4, mF_5, mF_6, mF_7, mF_8, mF_9, mF_10, mF_11, mF_12, mF_13, mF_14, mF_15, mF_16, mF_len, mF_s1, mF_s3, mF_s4, mF_s12, mF_s13, mF_s14, mw_uob, mw_u0, mw_u2, mw_u5, mw_u6, mw_u7, mw_u8, mw_u9, mw_u10, mw_u11, mw_u15, mw_u16, Nat.reduceLT, rup_s, rup_rup]
      have eo : ∀ i, (i < 186 + 710 * sn ∨ 186 + 710 * sn + 710 ≤ i) → pgf P1 (186 + 710 * sn) 710 (gBeg (key, se)) i = P1 i := fun i hi => pgf_out hi
      obtain ⟨d1, d2, d3, d4, d5⟩ := id hS1
      refine go _ sl1 sn (fun i hi => (eo i (by omega)).trans (e1 i (by omega))) ((eo 65 (by omega)).trans e65) hsn ⟨(eo _ (by omega)).trans d1, d2, d3, d4, fun i hi => (eo _ (by omega)).trans (d5 i hi)⟩ h41 hfr ⟨hL1.1, fun i hi => MFl_congr (hL1.2 i hi) (fun k hk => eo _ ?_)⟩ (MFl_congr gBeg_fl (fun k hk => pgf_in hk)) o1 (aBeg_ok hA)
      have y1 := hfr i (by rw [hL1.1]; exact hi)
      omega
    refine ⟨fun z => absurd rfl z, fun _ => ?_⟩
    have e57 : P (57 : Int32).toNatClampNeg = nI sl.length := k6.1
    rw [e57]
    refine ⟨vp_in_nI (n := 57) (by decide) (by decide), fun z => ?_, fun z => ?_⟩
    · have z : ¬ sl.length = 4 := fun y => z (by rw [y]; rfl)
      rw [if_neg (by omega), if_neg (by omega)] at b1
      exact b1 P sl (fun _ _ => rfl) k8 k6 (by omega) k7
    · have z : sl.length = 4 := (nI_eq (by omega) (b := 4) (by decide)).mp z
      rw [if_pos (by omega), if_pos (by omega)] at b1
      refine f_leaves (i := 0) (n := sl.length) rfl h4 (by omega) k6.1 ?_
      simp only [and_assoc, exists_and_left, exists_eq_left, exists_eq_left', Option.some.injEq, Value.int.injEq, Value.ref.injEq, Value.long.injEq, true_and, and_true, exists_eq, exists_true_left, mw_ob, mw_ia0, mw_ia2, mw_ia5, mw_ia6, mw_ia7, mw_ia8, mw_ia9, mw_ia10, mw_ia11, mw_ia15, mw_ia16, mF_0, mF_1, mF_2, mF_3, mF_4, mF_5, mF_6, mF_7, mF_8, mF_9, mF_10, mF_11, mF_12, mF_13, mF_14, mF_15, mF_16, mF_len, mF_s1, mF_s3, mF_s4, mF_s12, mF_s13, mF_s14, mw_uob, mw_u0, mw_u2, mw_u5, mw_u6, mw_u7, mw_u8, mw_u9, mw_u10, mw_u11, mw_u15, mw_u16, Nat.reduceLT, rup_s, rup_rup]
      have eo : ∀ k, (k < 57 ∨ 62 ≤ k) → lvP P 0 sl.length k = P k := fun k hk => lvP_o h4 hk
      have hle : (sl.eraseIdx 0).length = sl.length - 1 := List.length_eraseIdx_of_lt (by omega)
      have e65 : lvP P 0 sl.length (65 : Int32).toNatClampNeg = nI fg := (eo 65 (by decide)).trans k8
      rw [e65, nI_1]
      refine ⟨vp_in_nI (n := 65) (by decide) (by decide), vp_in_nI (n := 65) (by decide) (by decide), ?_⟩
      obtain ⟨d1, d2, d3, d4, d5⟩ := SL_leave (i := 0) k6 (by omega)
      refine b1 _ (sl.eraseIdx 0) (fun k hk => (if_neg (show ¬ k = 65 by omega)).trans (eo k (by omega))) rfl ⟨d1, d2, d3, d4, fun i hi => (if_neg (show ¬ 58 + i = 65 by omega)).trans (d5 i hi)⟩ (by omega) (FLs_leave k7 (by omega) (fun k hk => (if_neg (show ¬ k = 65 by omega)).trans (eo k (by omega))))
end MState
