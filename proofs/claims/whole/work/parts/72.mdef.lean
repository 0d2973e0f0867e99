/-! THE MODEL: node(..), others(), define(..), forget(..), undo() -/
def aNodeP (wd : Nat → List Nat) (n : Nat) : Nat → Int32
  | 0 => nI (nGet (nodesOf wd) n).length
  | 1 => paI (nodesOf wd) n
  | 2 => if n = 0 then -9 else nI ((nGet (nodesOf wd) n).getD ((nGet (nodesOf wd) n).length - 1) 0)
  | 3 => faI (nodesOf wd) n
  | _ => nI (setK wd (nGet (nodesOf wd) n) 6)
def aNode (wd : Nat → List Nat) (x y : Int32) : Int32 := if ((0 : Int32) ≤ x ∧ x ≤ nI ((nodesOf wd).length - 1)) ∧ ((0 : Int32) ≤ y ∧ y ≤ 4) then aNodeP wd x.toNatClampNeg y.toNatClampNeg else -1
theorem MAu_fr {c c' : Nat → Int32} {r r' : Nat → Nat → Int32} {wd : Nat → List Nat} (h : MAu c r wd) (e : c' 4 = c 4) (e2 : ∀ j, 5 ≤ j → j < 11 → r' j = r j) : MAu c' r' wd := by
  obtain ⟨⟨h1, h2⟩, h3⟩ := h
  refine ⟨⟨e.trans h1, fun n hn => ?_⟩, fun n hn => ?_⟩
  · rw [e2 5 (by decide) (by decide), e2 6 (by decide) (by decide)]; exact h2 n hn
  · rw [e2 7 (by decide) (by decide), e2 8 (by decide) (by decide), e2 9 (by decide) (by decide), e2 10 (by decide) (by decide)]; exact h3 n hn
/-- words became others: a flow begins to read anew -/
def aRst (f : aFlow) : aFlow := (f.1, (((0, 1, f.2.1.1.1.2.2), f.2.1.1.2), f.2.1.2), f.2.2)
def aOthers (s : aSt) : aSt := (s.1, s.2.1, s.2.2.1, s.2.2.2.1.map aRst, s.2.2.2.2)
theorem fGet_map {l : List aFlow} {i : Nat} (h : i < l.length) : fGet (l.map aRst) i = aRst (fGet l i) := by
  unfold fGet
  rw [List.getD_eq_getElem?_getD, List.getD_eq_getElem?_getD, List.getElem?_map, List.getElem?_eq_getElem h]; rfl
theorem MFl_rst {g g' : Nat → Int32} {f : aFlow} (h : MFl g f) (e6 : g' 6 = 0) (e7 : g' 7 = 1) (e8 : g' 8 = 0) (e : ∀ i, i ≠ 6 → i ≠ 7 → i ≠ 8 → i < 710 → g' i = g i) : MFl g' (aRst f) := by
  obtain ⟨⟨a1, a2, a3, a4, a5, a6, a7, a8, a9, a10, a11, a12, a13, a14, a15, a16, a17, a18⟩, a19⟩ := h
  have lo : ∀ i, i ≠ 6 → i ≠ 7 → i ≠ 8 → i < 710 → g' i = g i := e
  refine ⟨⟨e6, ⟨e7.trans (by show (1 : Int32) = nI (1 % 2 ^ 25); decide), e8.trans (by show (0 : Int32) = nI (1 / 2 ^ 25); decide), by show 1 < 2 ^ 49; decide⟩, MH_congr a3 (lo _ (by decide) (by decide) (by decide) (by decide)) (fun i h1 h2 => lo i (by omega) (by omega) (by omega) (by omega)), (lo _ (by decide) (by decide) (by decide) (by decide)).trans a4, (lo _ (by decide) (by decide) (by decide) (by decide)).trans a5, (lo _ (by decide) (by decide) (by decide) (by decide)).trans a6, MHd_congr a7 (lo _ (by decide) (by decide) (by decide) (by decide)) (lo _ (by decide) (by decide) (by decide) (by decide)) (lo _ (by decide) (by decide) (by decide) (by decide)), (lo _ (by decide) (by decide) (by decide) (by decide)).trans a8, MP_congr a9 (lo _ (by decide) (by decide) (by decide) (by decide)) (fun i h1 h2 => lo i (by omega) (by omega) (by omega) (by omega)), (lo _ (by decide) (by decide) (by decide) (by decide)).trans a10, (lo _ (by decide) (by decide) (by decide) (by decide)).trans a11, (lo _ (by decide) (by decide) (by decide) (by decide)).trans a12, (lo _ (by decide) (by decide) (by decide) (by decide)).trans a13, (lo _ (by decide) (by decide) (by decide) (by decide)).trans a14, (lo _ (by decide) (by decide) (by decide) (by decide)).trans a15, (lo _ (by decide) (by decide) (by decide) (by decide)).trans a16, (lo _ (by decide) (by decide) (by decide) (by decide)).trans a17, (lo _ (by decide) (by decide) (by decide) (by decide)).trans a18⟩, ML_congr a19 (lo _ (by decide) (by decide) (by decide) (by decide)) (fun i h1 h2 => lo i (by omega) (by omega) (by omega) h2)⟩
def aDefW (wd : Nat → List Nat) (v : Nat) (l : List Nat) : Nat → List Nat := fun u => if u = v then l else wd u
def bsL (bs : List Int32) : List Nat := bs.map (fun b => (b - 97).toNatClampNeg)
theorem bsL_len {bs : List Int32} : (bsL bs).length = bs.length := List.length_map _
theorem aFau_none {bs : List Int32} : ∀ {n i : Nat}, aFau bs n i = none → ∀ k, i ≤ k → k < i + n → k ≠ 8 ∧ (97 : Int32) ≤ bs.getD k 0 ∧ bs.getD k 0 ≤ 122
  | 0, i, _, k, h1, h2 => absurd h2 (by omega)
  | n + 1, i, h, k, h1, h2 => by
    unfold aFau at h
    split at h
    · cases h
    · rename_i h8
      split at h
      · rename_i hr
        by_cases e : k = i
        · rw [e]; exact ⟨h8, hr⟩
        · exact aFau_none h k (by omega) (by omega)
      · cases h
theorem aFault_none {bs : List Int32} (h : aFault bs = none) : 1 ≤ bs.length ∧ bs.length ≤ 8 ∧ ∀ k, k < bs.length → ∃ n : Nat, n < 26 ∧ bs.getD k 0 = nI (97 + n) := by
  unfold aFault at h
  split at h
  · cases h
  · rename_i h0
    have hk : ∀ k, k < bs.length → _ := fun k hk => aFau_none h k (Nat.zero_le _) (by omega)
    refine ⟨by omega, Nat.not_lt.mp (fun z => (hk 8 z).1 rfl), fun k hlt => ?_⟩
    obtain ⟨-, h1, h2⟩ := hk k hlt
    obtain ⟨j, hj, e⟩ := nI_of2 (M := 122) (n := 122) (by decide) (fun z => absurd (Int32.lt_of_lt_of_le z (show (0 : Int32) ≤ 97 by decide)) (Int32.not_lt.mpr h1)) h2
    rw [e] at h1
    have h3 := (nI_leI (a := 97) (by decide) (by omega)).mp h1
    exact ⟨j - 97, by omega, by rw [e, show 97 + (j - 97) = j by omega]⟩
theorem bsL_get {bs : List Int32} (h : aFault bs = none) {k : Nat} (hk : k < bs.length) : bs.getD k 0 - 97 = nI ((bsL bs).getD k 0) ∧ (bsL bs).getD k 0 < 26 := by
  obtain ⟨n, hn, e⟩ := (aFault_none h).2.2 k hk
  have e2 : (bsL bs).getD k 0 = n := by
    unfold bsL
    rw [List.getD_eq_getElem?_getD, List.getElem?_map, List.getElem?_eq_getElem hk]
    show (bs[k] - 97).toNatClampNeg = n
    rw [List.getD_eq_getElem?_getD, List.getElem?_eq_getElem hk] at e
    have e : bs[k] = nI (97 + n) := e
    rw [e, lit_97, pk_sub (by omega), Nat.add_sub_cancel_left, nI_clamp (by omega)]
  rw [e2, e, lit_97, pk_sub (by omega), Nat.add_sub_cancel_left]
  exact ⟨rfl, hn⟩
theorem bsL_ok {bs : List Int32} (h : aFault bs = none) : lOk (bsL bs) := fun x hx => by
  obtain ⟨i, hi, e⟩ := List.getElem_of_mem hx
  have := (bsL_get h (k := i) (by rw [bsL_len] at hi; exact hi)).2
  rw [List.getD_eq_getElem?_getD, List.getElem?_eq_getElem hi] at this
  rw [← e]; exact this
theorem aDefW_ok {wd : Nat → List Nat} {v : Nat} {l : List Nat} (h : wdOk wd) (h8 : l.length ≤ 8) (hl : lOk l) : wdOk (aDefW wd v l) := fun u hu => by
  unfold aDefW
  split
  · exact ⟨h8, hl⟩
  · exact h u hu
/-- the letters of a word laid on the page up to i -/
def dfP (P : Nat → Int32) (v : Nat) (l : List Nat) (i : Nat) : Nat → Int32 := fun k => if 9 * v + 1 ≤ k ∧ k < 9 * v + 1 + i then nI (l.getD (k - (9 * v + 1)) 0) else P k
theorem dfP_step {P : Nat → Int32} {v i : Nat} {l : List Nat} : upd (dfP P v l i) (9 * v + 1 + i) (nI (l.getD i 0)) = dfP P v l (i + 1) := by
  funext k
  show (if k = 9 * v + 1 + i then nI (l.getD i 0) else if 9 * v + 1 ≤ k ∧ k < 9 * v + 1 + i then nI (l.getD (k - (9 * v + 1)) 0) else P k) = if 9 * v + 1 ≤ k ∧ k < 9 * v + 1 + (i + 1) then nI (l.getD (k - (9 * v + 1)) 0) else P k
  by_cases h1 : k = 9 * v + 1 + i
  · rw [if_pos h1, if_pos (by omega), h1, Nat.add_sub_cancel_left]
  · rw [if_neg h1]
    by_cases h2 : 9 * v + 1 ≤ k ∧ k < 9 * v + 1 + i
    · rw [if_pos h2, if_pos (by omega)]
    · rw [if_neg h2, if_neg (by omega)]
theorem dfP_0 {P : Nat → Int32} {v : Nat} {l : List Nat} : dfP P v l 0 = P := by
  funext k
  exact if_neg (by omega)
theorem PS_words {P P' : Nat → Int32} {s : aSt} {wd : Nat → List Nat} (h : PS P s) (h1 : PSw P' wd) (e : ∀ i, 54 ≤ i → i < 3026 → P' i = P i) : PS P' (wd, s.2) := by
  obtain ⟨-, ⟨h2, h3, h4⟩, h5, ⟨sl, ⟨a1, a2, a3, a4, a5⟩, b1, b2⟩, h7⟩ := h
  refine ⟨h1, ⟨(e _ (by decide) (by decide)).trans h2, (e _ (by decide) (by decide)).trans h3, (e _ (by decide) (by decide)).trans h4⟩, HF_congr h5 (fun i h1 hi _ => e i (by omega) (by omega)), ⟨sl, ⟨(e _ (by decide) (by decide)).trans a1, a2, a3, a4, fun i hi => (e _ (by omega) (by omega)).trans (a5 i hi)⟩, b1, fun i hi => MFl_congr (b2 i hi) (fun k hk => e _ (by omega) ?_)⟩, (e _ (by decide) (by decide)).trans h7⟩
  have b1 : sl.length = s.2.2.2.1.length := b1
  have hi : i < s.2.2.2.1.length := hi
  have := a4 _ (slG_mem (sl := sl) (i := i) (by omega))
  omega
theorem PSw_def {P P' : Nat → Int32} {wd : Nat → List Nat} {v : Nat} {l : List Nat} (h : PSw P wd) (hv : v < 6) (h8 : l.length ≤ 8) (e0 : P' (9 * v) = nI l.length) (e1 : ∀ i, i < l.length → P' (9 * v + 1 + i) = nI (l.getD i 0)) (e : ∀ i, i < 54 → (i < 9 * v ∨ 9 * v + 9 ≤ i) → P' i = P i) : PSw P' (aDefW wd v l) := fun u hu => by
  unfold aDefW
  by_cases h1 : u = v
  · rw [if_pos h1, h1]; exact ⟨e0, h8, e1⟩
  · rw [if_neg h1]
    obtain ⟨g1, g2, g3⟩ := h u hu
    exact ⟨(e _ (by omega) (by omega)).trans g1, g2, fun i hi => (e _ (by omega) (by omega)).trans (g3 i hi)⟩
section MDef
variable {w : jx_W} {q : Nat} {c : Nat → Int32} {r : Nat → Nat → Int32} {K : jx_Q} {P : Nat → Int32} {s : aSt} {past : List aSt} {bs : List Int32}
theorem f_node {x y : Int32} {wd : Nat → List Nat} (hw : wdOk wd) (hm : MAu c r wd) (hK : K (mw w q c (rup r 0 P)) (some (.int (aNode wd x y)))) : zcall n_M_node [.ref q, .int x, .int y] (mw w q c (rup r 0 P)) K := by
  obtain ⟨hN, h49⟩ := nodes_ok hw
  have hp := nl_pos hN
  unfold aNode at hK
  refine e_M_node (b_M_node_0 ?_)
  simp only [and_assoc, exists_and_left, exists_eq_left, exists_eq_left', Option.some.injEq, Value.int.injEq, Value.ref.injEq, Value.long.injEq, true_and, and_true, exists_eq, exists_true_left, mw_ob, mw_ia0, mw_ia2, mw_ia5, mw_ia6, mw_ia7, mw_ia8, mw_ia9, mw_ia10, mw_ia11, mw_ia15, mw_ia16, mF_0, mF_1, mF_2, mF_3, mF_4, mF_5, mF_6, mF_7, mF_8, mF_9, mF_10, mF_11, mF_12, mF_13, mF_14, mF_15, mF_16, mF_len, mF_s1, mF_s3, mF_s4, mF_s12, mF_s13, mF_s14, mw_uob, mw_u0, mw_u2, mw_u5, mw_u6, mw_u7, mw_u8, mw_u9, mw_u10, mw_u11, mw_u15, mw_u16, Nat.reduceLT, rup_s, rup_rup]
  rw [hm.1.1, lit_1, pk_sub (by omega)]
  refine s_M_in (fun a1 a2 => ?_) (fun a => ?_)
  · simp only [and_assoc, exists_and_left, exists_eq_left, exists_eq_left', Option.some.injEq, Value.int.injEq, Value.ref.injEq, Value.long.injEq, true_and, and_true, exists_eq, exists_true_left, mw_ob, mw_ia0, mw_ia2, mw_ia5, mw_ia6, mw_ia7, mw_ia8, mw_ia9, mw_ia10, mw_ia11, mw_ia15, mw_ia16, mF_0, mF_1, mF_2, mF_3, mF_4, mF_5, mF_6, mF_7, mF_8, mF_9, mF_10, mF_11, mF_12, mF_13, mF_14, mF_15, mF_16, mF_len, mF_s1, mF_s3, mF_s4, mF_s12, mF_s13, mF_s14, mw_uob, mw_u0, mw_u2, mw_u5, mw_u6, mw_u7, mw_u8, mw_u9, mw_u10, mw_u11, mw_u15, mw_u16, Nat.reduceLT, rup_s, rup_rup]
    refine if0 (s_M_in (fun a3 a4 => ?_) (fun a => ?_))
    · rw [if_pos ⟨⟨a1, a2⟩, a3, a4⟩] at hK
      obtain ⟨n, hn, rfl⟩ := rng_nI (hi := (nodesOf wd).length - 1) (by omega) ⟨a1, a2⟩
      obtain ⟨k, hk, rfl⟩ := rng_nI (hi := 4) (by decide) ⟨a3, a4⟩
      rw [nI_clamp (by omega), nI_clamp (by omega)] at hK
      have hlt : n < (nodesOf wd).length := by omega
      obtain ⟨no, n8⟩ := hN.2.1 _ (nGet_mem hlt)
      obtain ⟨r1, r2, r3, r4⟩ := hm.2 n hlt
      obtain ⟨d1, d2⟩ := hm.1.2 n hlt
      simp only [and_assoc, exists_and_left, exists_eq_left, exists_eq_left', Option.some.injEq, Value.int.injEq, Value.ref.injEq, Value.long.injEq, true_and, and_true, exists_eq, exists_true_left, mw_ob, mw_ia0, mw_ia2, mw_ia5, mw_ia6, mw_ia7, mw_ia8, mw_ia9, mw_ia10, mw_ia11, mw_ia15, mw_ia16, mF_0, mF_1, mF_2, mF_3, mF_4, mF_5, mF_6, mF_7, mF_8, mF_9, mF_10, mF_11, mF_12, mF_13, mF_14, mF_15, mF_16, mF_len, mF_s1, mF_s3, mF_s4, mF_s12, mF_s13, mF_s14, mw_uob, mw_u0, mw_u2, mw_u5, mw_u6, mw_u7, mw_u8, mw_u9, mw_u10, mw_u11, mw_u15, mw_u16, Nat.reduceLT, rup_s, rup_rup]
      refine if3 (b_M_node_2 ?_)
      have et : (nI k).toInt = (k : Int) := nI_toInt (by omega)
      rw [et]
      refine ⟨fun z => b_M_node_3 ?_, fun z => b_M_node_4 ?_, fun z => b_M_node_5 ?_, fun z => b_M_node_8 ?_, fun z => b_M_node_9 ?_⟩
      · obtain rfl : k = 0 := by omega
        simp only [and_assoc, exists_and_left, exists_eq_left, exists_eq_left', Option.some.injEq, Value.int.injEq, Value.ref.injEq, Value.long.injEq, true_and, and_true, exists_eq, exists_true_left, mw_ob, mw_ia0, mw_ia2, mw_ia5, mw_ia6, mw_ia7, mw_ia8, mw_ia9, mw_ia10, mw_ia11, mw_ia15, mw_ia16, mF_0, mF_1, mF_2, mF_3, mF_4, mF_5, mF_6, mF_7, mF_8, mF_9, mF_10, mF_11, mF_12, mF_13, mF_14, mF_15, mF_16, mF_len, mF_s1, mF_s3, mF_s4, mF_s12, mF_s13, mF_s14, mw_uob, mw_u0, mw_u2, mw_u5, mw_u6, mw_u7, mw_u8, mw_u9, mw_u10, mw_u11, mw_u15, mw_u16, Nat.reduceLT, rup_s, rup_rup]
        rw [rup_n (j := 5) (by decide), nI_clamp (by omega), d1]
        exact ⟨vp_in_nI (by omega) (by decide), hK⟩
      · obtain rfl : k = 1 := by omega
        simp only [and_assoc, exists_and_left, exists_eq_left, exists_eq_left', Option.some.injEq, Value.int.injEq, Value.ref.injEq, Value.long.injEq, true_and, and_true, exists_eq, exists_true_left, mw_ob, mw_ia0, mw_ia2, mw_ia5, mw_ia6, mw_ia7, mw_ia8, mw_ia9, mw_ia10, mw_ia11, mw_ia15, mw_ia16, mF_0, mF_1, mF_2, mF_3, mF_4, mF_5, mF_6, mF_7, mF_8, mF_9, mF_10, mF_11, mF_12, mF_13, mF_14, mF_15, mF_16, mF_len, mF_s1, mF_s3, mF_s4, mF_s12, mF_s13, mF_s14, mw_uob, mw_u0, mw_u2, mw_u5, mw_u6, mw_u7, mw_u8, mw_u9, mw_u10, mw_u11, mw_u15, mw_u16, Nat.reduceLT, rup_s, rup_rup]
        rw [rup_n (j := 7) (by decide), nI_clamp (by omega), r1]
        exact ⟨vp_in_nI (by omega) (by decide), hK⟩
      · obtain rfl : k = 2 := by omega
        have hK : K (mw w q c (rup r 0 P)) (some (.int (if n = 0 then -9 else nI ((nGet (nodesOf wd) n).getD ((nGet (nodesOf wd) n).length - 1) 0)))) := hK
        refine ⟨fun z => b_M_node_6 ?_, fun z => b_M_node_7 ?_⟩
        · have z : ¬ n = 0 := fun t => z (by rw [t]; rfl)
          have np : (nGet (nodesOf wd) n).length ≠ 0 := fun t => nGet_pos hN hlt (by omega) (List.length_eq_zero_iff.mp t)
          rw [if_neg z] at hK
          simp only [and_assoc, exists_and_left, exists_eq_left, exists_eq_left', Option.some.injEq, Value.int.injEq, Value.ref.injEq, Value.long.injEq, true_and, and_true, exists_eq, exists_true_left, mw_ob, mw_ia0, mw_ia2, mw_ia5, mw_ia6, mw_ia7, mw_ia8, mw_ia9, mw_ia10, mw_ia11, mw_ia15, mw_ia16, mF_0, mF_1, mF_2, mF_3, mF_4, mF_5, mF_6, mF_7, mF_8, mF_9, mF_10, mF_11, mF_12, mF_13, mF_14, mF_15, mF_16, mF_len, mF_s1, mF_s3, mF_s4, mF_s12, mF_s13, mF_s14, mw_uob, mw_u0, mw_u2, mw_u5, mw_u6, mw_u7, mw_u8, mw_u9, mw_u10, mw_u11, mw_u15, mw_u16, Nat.reduceLT, rup_s, rup_rup]
          rw [rup_n (j := 5) (by decide), rup_n (j := 6) (by decide), nI_clamp (by omega), d1, lit_8, lit_1, pk_mul, nI_add, pk_sub (by omega), nI_clamp (by omega), Nat.add_sub_assoc (by omega), d2 _ (by omega)]
          exact ⟨vp_in_nI (by omega) (by decide), vp_in_nI (by omega) (by decide), b_M_node_7 hK⟩
        · rw [if_pos ((nI_eq (by omega) (b := 0) (by decide)).mp z)] at hK
          exact hK
      · obtain rfl : k = 3 := by omega
        simp only [and_assoc, exists_and_left, exists_eq_left, exists_eq_left', Option.some.injEq, Value.int.injEq, Value.ref.injEq, Value.long.injEq, true_and, and_true, exists_eq, exists_true_left, mw_ob, mw_ia0, mw_ia2, mw_ia5, mw_ia6, mw_ia7, mw_ia8, mw_ia9, mw_ia10, mw_ia11, mw_ia15, mw_ia16, mF_0, mF_1, mF_2, mF_3, mF_4, mF_5, mF_6, mF_7, mF_8, mF_9, mF_10, mF_11, mF_12, mF_13, mF_14, mF_15, mF_16, mF_len, mF_s1, mF_s3, mF_s4, mF_s12, mF_s13, mF_s14, mw_uob, mw_u0, mw_u2, mw_u5, mw_u6, mw_u7, mw_u8, mw_u9, mw_u10, mw_u11, mw_u15, mw_u16, Nat.reduceLT, rup_s, rup_rup]
        rw [rup_n (j := 8) (by decide), nI_clamp (by omega), r2]
        exact ⟨vp_in_nI (by omega) (by decide), hK⟩
      · obtain rfl : k = 4 := by omega
        simp only [and_assoc, exists_and_left, exists_eq_left, exists_eq_left', Option.some.injEq, Value.int.injEq, Value.ref.injEq, Value.long.injEq, true_and, and_true, exists_eq, exists_true_left, mw_ob, mw_ia0, mw_ia2, mw_ia5, mw_ia6, mw_ia7, mw_ia8, mw_ia9, mw_ia10, mw_ia11, mw_ia15, mw_ia16, mF_0, mF_1, mF_2, mF_3, mF_4, mF_5, mF_6, mF_7, mF_8, mF_9, mF_10, mF_11, mF_12, mF_13, mF_14, mF_15, mF_16, mF_len, mF_s1, mF_s3, mF_s4, mF_s12, mF_s13, mF_s14, mw_uob, mw_u0, mw_u2, mw_u5, mw_u6, mw_u7, mw_u8, mw_u9, mw_u10, mw_u11, mw_u15, mw_u16, Nat.reduceLT, rup_s, rup_rup]
        rw [rup_n (j := 9) (by decide), nI_clamp (by omega), r3]
        exact ⟨vp_in_nI (by omega) (by decide), hK⟩
    · rw [if_neg (fun z => a z.2)] at hK
      simp only [and_assoc, exists_and_left, exists_eq_left, exists_eq_left', Option.some.injEq, Value.int.injEq, Value.ref.injEq, Value.long.injEq, true_and, and_true, exists_eq, exists_true_left, mw_ob, mw_ia0, mw_ia2, mw_ia5, mw_ia6, mw_ia7, mw_ia8, mw_ia9, mw_ia10, mw_ia11, mw_ia15, mw_ia16, mF_0, mF_1, mF_2, mF_3, mF_4, mF_5, mF_6, mF_7, mF_8, mF_9, mF_10, mF_11, mF_12, mF_13, mF_14, mF_15, mF_16, mF_len, mF_s1, mF_s3, mF_s4, mF_s12, mF_s13, mF_s14, mw_uob, mw_u0, mw_u2, mw_u5, mw_u6, mw_u7, mw_u8, mw_u9, mw_u10, mw_u11, mw_u15, mw_u16, Nat.reduceLT, rup_s, rup_rup]
      exact if2 (b_M_node_1 hK)
  · rw [if_neg (fun z => a z.1)] at hK
    simp only [and_assoc, exists_and_left, exists_eq_left, exists_eq_left', Option.some.injEq, Value.int.injEq, Value.ref.injEq, Value.long.injEq, true_and, and_true, exists_eq, exists_true_left, mw_ob, mw_ia0, mw_ia2, mw_ia5, mw_ia6, mw_ia7, mw_ia8, mw_ia9, mw_ia10, mw_ia11, mw_ia15, mw_ia16, mF_0, mF_1, mF_2, mF_3, mF_4, mF_5, mF_6, mF_7, mF_8, mF_9, mF_10, mF_11, mF_12, mF_13, mF_14, mF_15, mF_16, mF_len, mF_s1, mF_s3, mF_s4, mF_s12, mF_s13, mF_s14, mw_uob, mw_u0, mw_u2, mw_u5, mw_u6, mw_u7, mw_u8, mw_u9, mw_u10, mw_u11, mw_u15, mw_u16, Nat.reduceLT, rup_s, rup_rup]
    exact if1 (b_M_node_1 hK)
theorem f_oth_loop {sl : List Nat} {l : List aFlow} (hS : SL P sl) (hF : FLs P sl l) (hK : ∀ P', FLs P' sl (l.map aRst) → (∀ k, k < 186 ∨ 3026 ≤ k → P' k = P k) → zwp n_M_others 2 [(0, .ref q)] [] 0 0 (mw w q c (rup r 0 P')) K) : ∀ (m i : Nat), i + m = l.length → ∀ P', (∀ k, k < 186 ∨ 3026 ≤ k → P' k = P k) → (∀ j, j < i → MFl (fun k => P' (186 + 710 * slG sl j + k)) (aRst (fGet l j))) → (∀ j, i ≤ j → j < l.length → MFl (fun k => P' (186 + 710 * slG sl j + k)) (fGet l j)) → zwp n_M_others 1 [(0, .ref q), (1, .int (nI i))] [] 0 0 (mw w q c (rup r 0 P')) K := by
  have hl : sl.length = l.length := hF.1
  have h4 := hS.2.1
  intro m
  induction m with
  | zero =>
    intro i hi P' e1 e2 e3
    obtain rfl : i = l.length := by omega
    refine b_M_others_1 ?_
    simp only [and_assoc, exists_and_left, exists_eq_left, exists_eq_left', Option.some.injEq, Value.int.injEq, Value.ref.injEq, Value.long.injEq, true_and, and_true, exists_eq, exists_true_left, mw_ob, mw_ia0, mw_ia2, mw_ia5, mw_ia6, mw_ia7, mw_ia8, mw_ia9, mw_ia10, mw_ia11, mw_ia15, mw_ia16, mF_0, mF_1, mF_2, mF_3, mF_4, mF_5, mF_6, mF_7, mF_8, mF_9, mF_10, mF_11, mF_12, mF_13, mF_14, mF_15, mF_16, mF_len, mF_s1, mF_s3, mF_s4, mF_s12, mF_s13, mF_s14, mw_uob, mw_u0, mw_u2, mw_u5, mw_u6, mw_u7, mw_u8, mw_u9, mw_u10, mw_u11, mw_u15, mw_u16, Nat.reduceLT, rup_s, rup_rup]
    rw [show P' (57 : Int32).toNatClampNeg = nI l.length from (e1 57 (by decide)).trans (by rw [← hl]; exact hS.1)]
    refine ⟨vp_in_nI (n := 57) (by decide) (by decide), fun _ => hK P' ⟨by rw [List.length_map]; exact hl, fun j hj => ?_⟩ e1, fun z => absurd (Int32.le_refl _) z⟩
    rw [List.length_map] at hj
    rw [fGet_map hj]
    exact e2 j hj
  | succ m ih =>
    intro i hi P' e1 e2 e3
    have hi4 := slG_lt hS (i := i) (by omega)
    obtain ⟨d1, d2, d3, d4, d5⟩ := id hS
    have hS' : ∀ P'' : Nat → Int32, (∀ k, k < 186 ∨ 3026 ≤ k → P'' k = P k) → SL P'' sl := fun P'' e => ⟨(e _ (by decide)).trans d1, d2, d3, d4, fun k hk => (e _ (by omega)).trans (d5 k hk)⟩
    have eu : ∀ (P'' : Nat → Int32) (b : Nat) (v : Int32), b < 710 → (∀ k, k < 186 ∨ 3026 ≤ k → P'' k = P k) → ∀ k, k < 186 ∨ 3026 ≤ k → upd P'' (186 + 710 * slG sl i + b) v k = P k := fun P'' b v hb e k hk => (if_neg (by omega)).trans (e k hk)
    refine b_M_others_1 ?_
    simp only [and_assoc, exists_and_left, exists_eq_left, exists_eq_left', Option.some.injEq, Value.int.injEq, Value.ref.injEq, Value.long.injEq, true_and, and_true, exists_eq, exists_true_left, mw_ob, mw_ia0, mw_ia2, mw_ia5, mw_ia6, mw_ia7, mw_ia8, mw_ia9, mw_ia10, mw_ia11, mw_ia15, mw_ia16, mF_0, mF_1, mF_2, mF_3, mF_4, mF_5, mF_6, mF_7, mF_8, mF_9, mF_10, mF_11, mF_12, mF_13, mF_14, mF_15, mF_16, mF_len, mF_s1, mF_s3, mF_s4, mF_s12, mF_s13, mF_s14, mw_uob, mw_u0, mw_u2, mw_u5, mw_u6, mw_u7, mw_u8, mw_u9, mw_u10, mw_u11, mw_u15, mw_u16, Nat.reduceLT, rup_s, rup_rup]
    rw [show P' (57 : Int32).toNatClampNeg = nI l.length from (e1 57 (by decide)).trans (by rw [← hl]; exact hS.1)]
    refine ⟨vp_in_nI (n := 57) (by decide) (by decide), fun z => absurd ((nI_leI (by omega) (by omega)).mp z) (by omega), fun _ => ?_⟩
    refine f_slot (hS' P' e1) (i := i) rfl (by omega) ?_
    simp only [and_assoc, exists_and_left, exists_eq_left, exists_eq_left', Option.some.injEq, Value.int.injEq, Value.ref.injEq, Value.long.injEq, true_and, and_true, exists_eq, exists_true_left, mw_ob, mw_ia0, mw_ia2, mw_ia5, mw_ia6, mw_ia7, mw_ia8, mw_ia9, mw_ia10, mw_ia11, mw_ia15, mw_ia16, mF_0, mF_1, mF_2, mF_3, mF_4, mF_5, mF_6, mF_7, mF_8, mF_9, mF_10, mF_11, mF_12, mF_13, mF_14, mF_15, mF_16, mF_len, mF_s1, mF_s3, mF_s4, mF_s12, mF_s13, mF_s14, mw_uob, mw_u0, mw_u2, mw_u5, mw_u6, mw_u7, mw_u8, mw_u9, mw_u10, mw_u11, mw_u15, mw_u16, Nat.reduceLT, rup_s, rup_rup]
    rw [lit_6, nI_add, nI_clamp (by omega)]
    refine ⟨vp_in_nI (by omega) (by decide), ?_⟩
    refine f_slot (hS' _ (eu P' 6 _ (by decide) e1)) (i := i) rfl (by omega) ?_
    simp only [and_assoc, exists_and_left, exists_eq_left, exists_eq_left', Option.some.injEq, Value.int.injEq, Value.ref.injEq, Value.long.injEq, true_and, and_true, exists_eq, exists_true_left, mw_ob, mw_ia0, mw_ia2, mw_ia5, mw_ia6, mw_ia7, mw_ia8, mw_ia9, mw_ia10, mw_ia11, mw_ia15, mw_ia16, mF_0, mF_1, mF_2, mF_3, mF_4, mF_5, mF_6, mF_7, mF_8, mF_9, mF_10, mF_11, mF_12, mF_13, mF_14, mF_15, mF_16, mF_len, mF_s1, mF_s3, mF_s4, mF_s12, mF_s13, mF_s14, mw_uob, mw_u0, mw_u2, mw_u5, mw_u6, mw_u7, mw_u8, mw_u9, mw_u10, mw_u11, mw_u15, mw_u16, Nat.reduceLT, rup_s, rup_rup]
    rw [lit_7, nI_add, nI_clamp (by omega)]
    refine ⟨vp_in_nI (by omega) (by decide), ?_⟩
    refine f_slot (hS' _ (eu _ 7 _ (by decide) (eu P' 6 _ (by decide) e1))) (i := i) rfl (by omega) ?_
    simp only [and_assoc, exists_and_left, exists_eq_left, exists_eq_left', Option.some.injEq, Value.int.injEq, Value.ref.injEq, Value.long.injEq, true_and, and_true, exists_eq, exists_true_left, mw_ob, mw_ia0, mw_ia2, mw_ia5, mw_ia6, mw_ia7, mw_ia8, mw_ia9, mw_ia10, mw_ia11, mw_ia15, mw_ia16, mF_0, mF_1, mF_2, mF_3, mF_4, mF_5, mF_6, mF_7, mF_8, mF_9, mF_10, mF_11, mF_12, mF_13, mF_14, mF_15, mF_16, mF_len, mF_s1, mF_s3, mF_s4, mF_s12, mF_s13, mF_s14, mw_uob, mw_u0, mw_u2, mw_u5, mw_u6, mw_u7, mw_u8, mw_u9, mw_u10, mw_u11, mw_u15, mw_u16, Nat.reduceLT, rup_s, rup_rup]
    rw [lit_8, nI_add, nI_clamp (by omega), nI_1]
    refine ⟨vp_in_nI (by omega) (by decide), ?_⟩
    have ne : ∀ j, j ≠ i → j < l.length → slG sl j ≠ slG sl i := fun j h1 h2 e => h1 (slG_inj hS.2.2.1 (by omega) (by omega) e)
    have oth : ∀ j, j ≠ i → j < l.length → ∀ (u v x : Int32) (k : Nat), k < 710 → upd (upd (upd P' (186 + 710 * slG sl i + 6) u) (186 + 710 * slG sl i + 7) v) (186 + 710 * slG sl i + 8) x (186 + 710 * slG sl j + k) = P' (186 + 710 * slG sl j + k) := fun j h1 h2 u v x k hk => by
      have := ne j h1 h2
      exact (if_neg (by omega)).trans ((if_neg (by omega)).trans (if_neg (by omega)))
    refine ih (i + 1) (by omega) _ (eu _ 8 _ (by decide) (eu _ 7 _ (by decide) (eu P' 6 _ (by decide) e1))) (fun j hj => ?_) (fun j h1 h2 => MFl_congr (e3 j (by omega) h2) (fun k hk => oth j (by omega) h2 _ _ _ k hk))
    by_cases e : j = i
    · subst e
      refine MFl_rst (e3 j (Nat.le_refl _) (by omega)) ?_ ?_ ?_ (fun k a1 a2 a3 a4 => ?_)
      · exact (if_neg (by omega)).trans ((if_neg (by omega)).trans (if_pos rfl))
      · exact (if_neg (by omega)).trans (if_pos rfl)
      · exact if_pos rfl
      · exact (if_neg (by omega)).trans ((if_neg (by omega)).trans (if_neg (by omega)))
    · exact MFl_congr (e2 j (by omega)) (fun k hk => oth j e (by omega) _ _ _ k hk)
theorem f_others (hP : PS P s) (hw : wdOk s.1) (hK : ∀ c' r' P', PS P' (aOthers s) → MAu c' r' s.1 → (∀ j, j < 5 ∨ 12 ≤ j → r' j = rup r 0 P j) → (∀ j, j ≠ 4 → c' j = c j) → (∀ i, i < 186 ∨ 3026 ≤ i → P' i = P i) → K (mw w q c' (rup r' 0 P')) (some (.int (nI (nodesOf s.1).length)))) : zcall n_M_others [.ref q] (mw w q c (rup r 0 P)) K := by
  obtain ⟨k1, ⟨k2, k3, k4⟩, k5, ⟨sl, k6, k7⟩, k8⟩ := hP
  refine e_M_others (b_M_others_0 ?_)
  simp only [and_assoc, exists_and_left, exists_eq_left, exists_eq_left', Option.some.injEq, Value.int.injEq, Value.ref.injEq, Value.long.injEq, true_and, and_true, exists_eq, exists_true_left, mw_ob, mw_ia0, mw_ia2, mw_ia5, mw_ia6, mw_ia7, mw_ia8, mw_ia9, mw_ia10, mw_ia11, mw_ia15, mw_ia16, mF_0, mF_1, mF_2, mF_3, mF_4, mF_5, mF_6, mF_7, mF_8, mF_9, mF_10, mF_11, mF_12, mF_13, mF_14, mF_15, mF_16, mF_len, mF_s1, mF_s3, mF_s4, mF_s12, mF_s13, mF_s14, mw_uob, mw_u0, mw_u2, mw_u5, mw_u6, mw_u7, mw_u8, mw_u9, mw_u10, mw_u11, mw_u15, mw_u16, Nat.reduceLT, rup_s, rup_rup]
  refine f_lays (r := rup r 0 P) hw k1 (fun c' r' m1 m2 m3 => ?_)
  simp only [and_assoc, exists_and_left, exists_eq_left, exists_eq_left', Option.some.injEq, Value.int.injEq, Value.ref.injEq, Value.long.injEq, true_and, and_true, exists_eq, exists_true_left, mw_ob, mw_ia0, mw_ia2, mw_ia5, mw_ia6, mw_ia7, mw_ia8, mw_ia9, mw_ia10, mw_ia11, mw_ia15, mw_ia16, mF_0, mF_1, mF_2, mF_3, mF_4, mF_5, mF_6, mF_7, mF_8, mF_9, mF_10, mF_11, mF_12, mF_13, mF_14, mF_15, mF_16, mF_len, mF_s1, mF_s3, mF_s4, mF_s12, mF_s13, mF_s14, mw_uob, mw_u0, mw_u2, mw_u5, mw_u6, mw_u7, mw_u8, mw_u9, mw_u10, mw_u11, mw_u15, mw_u16, Nat.reduceLT, rup_s, rup_rup]
  have er : r' = rup r' 0 P := by
    have : r' 0 = P := (m2 0 (by decide)).trans rup_s
    rw [← this, rup_id]
  rw [er]
  refine f_oth_loop (l := s.2.2.2.1) k6 k7 (fun P' n1 n2 => b_M_others_2 ?_) s.2.2.2.1.length 0 (Nat.zero_add _) P (fun _ _ => rfl) (fun j hj => absurd hj (Nat.not_lt_zero _)) (fun j _ hj => k7.2 j hj)
  simp only [and_assoc, exists_and_left, exists_eq_left, exists_eq_left', Option.some.injEq, Value.int.injEq, Value.ref.injEq, Value.long.injEq, true_and, and_true, exists_eq, exists_true_left, mw_ob, mw_ia0, mw_ia2, mw_ia5, mw_ia6, mw_ia7, mw_ia8, mw_ia9, mw_ia10, mw_ia11, mw_ia15, mw_ia16, mF_0, mF_1, mF_2, mF_3, mF_4, mF_5, mF_6, mF_7, mF_8, mF_9, mF_10, mF_11, mF_12, mF_13, mF_14, mF_15, mF_16, mF_len, mF_s1, mF_s3, mF_s4, mF_s12, mF_s13, mF_s14, mw_uob, mw_u0, mw_u2, mw_u5, mw_u6, mw_u7, mw_u8, mw_u9, mw_u10, mw_u11, mw_u15, mw_u16, Nat.reduceLT, rup_s, rup_rup]
  rw [m1.1.1]
  obtain ⟨d1, d2, d3, d4, d5⟩ := id k6
  exact hK c' r' P' ⟨PSw_congr k1 (fun i hi => n2 i (by omega)), ⟨(n2 _ (by decide)).trans k2, (n2 _ (by decide)).trans k3, (n2 _ (by decide)).trans k4⟩, HF_congr k5 (fun i _ hi _ => n2 i (by omega)), ⟨sl, ⟨(n2 _ (by decide)).trans d1, d2, d3, d4, fun i hi => (n2 _ (by omega)).trans (d5 i hi)⟩, n1⟩, (n2 _ (by decide)).trans k8⟩ m1 m2 m3 n2
/-- the model whole: its automaton too -/
def MJ (c : Nat → Int32) (r : Nat → Nat → Int32) (P : Nat → Int32) (s : aSt) (past : List aSt) (bs : List Int32) : Prop := MI c r P (auOf s.1) s past bs ∧ MAu c r s.1
theorem MJ_of {c0 : Nat → Int32} {r0 : Nat → Nat → Int32} {s0 : aSt} (h : MI c r P (auOf s.1) s past bs) (h0 : MAu c0 r0 s0.1) (e : s.1 = s0.1) (er : ∀ j, 5 ≤ j → j < 11 → r j = r0 j) : MJ c r P s past bs := by
  refine ⟨h, ?_⟩
  rw [e]
  refine MAu_fr h0 ?_ er
  rw [h.2.2.2.2.1.1, h0.1.1, e]; rfl
theorem f_oth2 {s1 : aSt} (hP : PS P s1) (hP2 : PST P past) (h1 : c 1 = nI past.length) (hT : MT c r bs) (h14 : ∃ f0, c 14 = nI f0) (hw : wdOk s1.1) (hK : ∀ c' r' P', MJ c' r' P' (aOthers s1) past bs → (∀ j, j < 5 ∨ 12 ≤ j → j ≠ 0 → r' j = r j) → K (mw w q c' (rup r' 0 P')) (some (.int (nI (nodesOf s1.1).length)))) : zcall n_M_others [.ref q] (mw w q c (rup r 0 P)) K := by
  refine f_others hP hw (fun c' r' P' m1 m2 m3 m4 m5 => ?_)
  have er : ∀ j, j < 5 ∨ 12 ≤ j → j ≠ 0 → r' j = r j := fun j hj h0 => (m3 j hj).trans (rup_n h0)
  refine hK c' r' P' ⟨⟨m1, PST_fr hP2 (fun i hi => m5 i (by omega)), (m4 1 (by decide)).trans h1, ⟨(m4 3 (by decide)).trans hT.1, hT.2.1, fun i hi => ?_⟩, MAu_MA m2, ?_⟩, m2⟩ er
  · rw [er 2 (by decide) (by decide)]; exact hT.2.2 i hi
  · obtain ⟨f0, hf⟩ := h14
    exact ⟨f0, (m4 14 (by decide)).trans hf⟩
theorem f_def_loop2 {v : Nat} (hv : v < 6) (hT : MT c r bs) (hf : aFault bs = none) (hK : zwp n_M_define 4 [(0, .ref q)] [] 0 0 (mw w q c (rup r 0 (dfP P v (bsL bs) bs.length))) K) : ∀ (m i : Nat), i + m = bs.length → zwp n_M_define 3 [(0, .ref q), (1, .int (nI v)), (3, .int (nI i))] [] 0 0 (mw w q c (rup r 0 (dfP P v (bsL bs) i))) K := by
  obtain ⟨-, b8, -⟩ := aFault_none hf
  intro m
  induction m with
  | zero =>
    intro i hi
    obtain rfl : i = bs.length := by omega
    refine b_M_define_3 ?_
    simp only [and_assoc, exists_and_left, exists_eq_left, exists_eq_left', Option.some.injEq, Value.int.injEq, Value.ref.injEq, Value.long.injEq, true_and, and_true, exists_eq, exists_true_left, mw_ob, mw_ia0, mw_ia2, mw_ia5, mw_ia6, mw_ia7, mw_ia8, mw_ia9, mw_ia10, mw_ia11, mw_ia15, mw_ia16, mF_0, mF_1, mF_2, mF_3, mF_4, mF_5, mF_6, mF_7, mF_8, mF_9, mF_10, mF_11, mF_12, mF_13, mF_14, mF_15, mF_16, mF_len, mF_s1, mF_s3, mF_s4, mF_s12, mF_s13, mF_s14, mw_uob, mw_u0, mw_u2, mw_u5, mw_u6, mw_u7, mw_u8, mw_u9, mw_u10, mw_u11, mw_u15, mw_u16, Nat.reduceLT, rup_s, rup_rup]
    rw [hT.1]
    exact ⟨fun _ => hK, fun z => absurd (Int32.le_refl _) z⟩
  | succ m ih =>
    intro i hi
    refine b_M_define_3 ?_
    simp only [and_assoc, exists_and_left, exists_eq_left, exists_eq_left', Option.some.injEq, Value.int.injEq, Value.ref.injEq, Value.long.injEq, true_and, and_true, exists_eq, exists_true_left, mw_ob, mw_ia0, mw_ia2, mw_ia5, mw_ia6, mw_ia7, mw_ia8, mw_ia9, mw_ia10, mw_ia11, mw_ia15, mw_ia16, mF_0, mF_1, mF_2, mF_3, mF_4, mF_5, mF_6, mF_7, mF_8, mF_9, mF_10, mF_11, mF_12, mF_13, mF_14, mF_15, mF_16, mF_len, mF_s1, mF_s3, mF_s4, mF_s12, mF_s13, mF_s14, mw_uob, mw_u0, mw_u2, mw_u5, mw_u6, mw_u7, mw_u8, mw_u9, mw_u10, mw_u11, mw_u15, mw_u16, Nat.reduceLT, rup_s, rup_rup]
    rw [hT.1, rup_n (j := 2) (by decide), nI_clamp (by omega), hT.2.2 i (by omega), (bsL_get hf (by omega)).1, lit_9, lit_1, pk_mul, nI_add, nI_add, nI_add, nI_clamp (by omega), dfP_step]
    exact ⟨fun z => absurd ((nI_leI (by omega) (by omega)).mp z) (by omega), fun _ => ⟨vp_in_nI (by omega) (by decide), vp_in_nI (by omega) (by decide), ih (i + 1) (by omega)⟩⟩
def aDefine (s : aSt) (v : Nat) (bs : List Int32) : aSt := aOthers (aDefW s.1 v (bsL bs), s.2)
theorem f_define {x : Int32} (hJ : MJ c r P s past bs) (hw : wdOk s.1) (hK0 : ¬ ((0 : Int32) ≤ x ∧ x ≤ 5) → K (mw w q c (rup r 0 P)) (some (.int (-1)))) (hK1 : ∀ k, (0 : Int32) ≤ x ∧ x ≤ 5 → aFault bs = some k → K (mw w q c (rup r 0 P)) (some (.int (-10 - nI k)))) (hK2 : ∀ v, v < 6 → x = nI v → aFault bs = none → ∀ c' r' P', MJ c' r' P' (aDefine s v bs) (aPast past s) bs → (∀ j, j < 5 ∨ 12 ≤ j → j ≠ 0 → r' j = r j) → K (mw w q c' (rup r' 0 P')) (some (.int (nI (nodesOf (aDefW s.1 v (bsL bs))).length)))) : zcall n_M_define [.ref q, .int x] (mw w q c (rup r 0 P)) K := by
  obtain ⟨hI, hA⟩ := hJ
  refine e_M_define (b_M_define_0 (s_M_isWord (fun a => ?_) (fun a => ?_)))
  · simp only [and_assoc, exists_and_left, exists_eq_left, exists_eq_left', Option.some.injEq, Value.int.injEq, Value.ref.injEq, Value.long.injEq, true_and, and_true, exists_eq, exists_true_left, mw_ob, mw_ia0, mw_ia2, mw_ia5, mw_ia6, mw_ia7, mw_ia8, mw_ia9, mw_ia10, mw_ia11, mw_ia15, mw_ia16, mF_0, mF_1, mF_2, mF_3, mF_4, mF_5, mF_6, mF_7, mF_8, mF_9, mF_10, mF_11, mF_12, mF_13, mF_14, mF_15, mF_16, mF_len, mF_s1, mF_s3, mF_s4, mF_s12, mF_s13, mF_s14, mw_uob, mw_u0, mw_u2, mw_u5, mw_u6, mw_u7, mw_u8, mw_u9, mw_u10, mw_u11, mw_u15, mw_u16, Nat.reduceLT, rup_s, rup_rup]
    refine if3 (b_M_define_1 ?_)
    simp only [and_assoc, exists_and_left, exists_eq_left, exists_eq_left', Option.some.injEq, Value.int.injEq, Value.ref.injEq, Value.long.injEq, true_and, and_true, exists_eq, exists_true_left, mw_ob, mw_ia0, mw_ia2, mw_ia5, mw_ia6, mw_ia7, mw_ia8, mw_ia9, mw_ia10, mw_ia11, mw_ia15, mw_ia16, mF_0, mF_1, mF_2, mF_3, mF_4, mF_5, mF_6, mF_7, mF_8, mF_9, mF_10, mF_11, mF_12, mF_13, mF_14, mF_15, mF_16, mF_len, mF_s1, mF_s3, mF_s4, mF_s12, mF_s13, mF_s14, mw_uob, mw_u0, mw_u2, mw_u5, mw_u6, mw_u7, mw_u8, mw_u9, mw_u10, mw_u11, mw_u15, mw_u16, Nat.reduceLT, rup_s, rup_rup]
    refine f_faultOf hI.2.2.2.1 ?_
    simp only [and_assoc, exists_and_left, exists_eq_left, exists_eq_left', Option.some.injEq, Value.int.injEq, Value.ref.injEq, Value.long.injEq, true_and, and_true, exists_eq, exists_true_left, mw_ob, mw_ia0, mw_ia2, mw_ia5, mw_ia6, mw_ia7, mw_ia8, mw_ia9, mw_ia10, mw_ia11, mw_ia15, mw_ia16, mF_0, mF_1, mF_2, mF_3, mF_4, mF_5, mF_6, mF_7, mF_8, mF_9, mF_10, mF_11, mF_12, mF_13, mF_14, mF_15, mF_16, mF_len, mF_s1, mF_s3, mF_s4, mF_s12, mF_s13, mF_s14, mw_uob, mw_u0, mw_u2, mw_u5, mw_u6, mw_u7, mw_u8, mw_u9, mw_u10, mw_u11, mw_u15, mw_u16, Nat.reduceLT, rup_s, rup_rup]
    obtain ⟨v, hv, rfl⟩ := rng_nI (hi := 5) (by decide) a
    cases hf : aFault bs with
    | some k =>
      have hk : k < 2 ^ 31 := by
        unfold aFault at hf
        split at hf
        · cases hf; decide
        · have : ∀ (n i : Nat), aFau bs n i = some k → k < i + n := by
            intro n
            induction n with
            | zero => intro i h; cases h
            | succ n ih =>
              intro i h
              unfold aFau at h
              split at h
              · cases h; omega
              · split at h
                · have := ih _ h; omega
                · cases h; omega
          have := this _ _ hf
          have := hI.2.2.2.1.2.1
          omega
      exact ⟨fun z => absurd z (nI_ne9 hk), fun _ => hK1 k a hf⟩
    | none =>
      refine ⟨fun _ => b_M_define_2 ?_, fun z => absurd rfl z⟩
      obtain ⟨b1, b8, -⟩ := aFault_none hf
      simp only [and_assoc, exists_and_left, exists_eq_left, exists_eq_left', Option.some.injEq, Value.int.injEq, Value.ref.injEq, Value.long.injEq, true_and, and_true, exists_eq, exists_true_left, mw_ob, mw_ia0, mw_ia2, mw_ia5, mw_ia6, mw_ia7, mw_ia8, mw_ia9, mw_ia10, mw_ia11, mw_ia15, mw_ia16, mF_0, mF_1, mF_2, mF_3, mF_4, mF_5, mF_6, mF_7, mF_8, mF_9, mF_10, mF_11, mF_12, mF_13, mF_14, mF_15, mF_16, mF_len, mF_s1, mF_s3, mF_s4, mF_s12, mF_s13, mF_s14, mw_uob, mw_u0, mw_u2, mw_u5, mw_u6, mw_u7, mw_u8, mw_u9, mw_u10, mw_u11, mw_u15, mw_u16, Nat.reduceLT, rup_s, rup_rup]
      refine f_beginsI hI (fun c1 P1 i1 i2 => ?_)
      obtain ⟨j1, j2, j3, j4, j5, j6⟩ := i1
      simp only [and_assoc, exists_and_left, exists_eq_left, exists_eq_left', Option.some.injEq, Value.int.injEq, Value.ref.injEq, Value.long.injEq, true_and, and_true, exists_eq, exists_true_left, mw_ob, mw_ia0, mw_ia2, mw_ia5, mw_ia6, mw_ia7, mw_ia8, mw_ia9, mw_ia10, mw_ia11, mw_ia15, mw_ia16, mF_0, mF_1, mF_2, mF_3, mF_4, mF_5, mF_6, mF_7, mF_8, mF_9, mF_10, mF_11, mF_12, mF_13, mF_14, mF_15, mF_16, mF_len, mF_s1, mF_s3, mF_s4, mF_s12, mF_s13, mF_s14, mw_uob, mw_u0, mw_u2, mw_u5, mw_u6, mw_u7, mw_u8, mw_u9, mw_u10, mw_u11, mw_u15, mw_u16, Nat.reduceLT, rup_s, rup_rup]
      rw [j4.1, lit_9, pk_mul, nI_clamp (by omega)]
      refine ⟨vp_in_nI (by omega) (by decide), ?_⟩
      have h3 := f_def_loop2 (w := w) (q := q) (K := K) (c := c1) (r := r) (P := upd P1 (9 * v) (nI bs.length)) (bs := bs) (v := v) (by omega) j4 hf (b_M_define_4 (by
        simp only [and_assoc, exists_and_left, exists_eq_left, exists_eq_left', Option.some.injEq, Value.int.injEq, Value.ref.injEq, Value.long.injEq, true_and, and_true, exists_eq, exists_true_left, mw_ob, mw_ia0, mw_ia2, mw_ia5, mw_ia6, mw_ia7, mw_ia8, mw_ia9, mw_ia10, mw_ia11, mw_ia15, mw_ia16, mF_0, mF_1, mF_2, mF_3, mF_4, mF_5, mF_6, mF_7, mF_8, mF_9, mF_10, mF_11, mF_12, mF_13, mF_14, mF_15, mF_16, mF_len, mF_s1, mF_s3, mF_s4, mF_s12, mF_s13, mF_s14, mw_uob, mw_u0, mw_u2, mw_u5, mw_u6, mw_u7, mw_u8, mw_u9, mw_u10, mw_u11, mw_u15, mw_u16, Nat.reduceLT, rup_s, rup_rup]
        have ep : ∀ i, 54 ≤ i → dfP (upd P1 (9 * v) (nI bs.length)) v (bsL bs) bs.length i = P1 i := fun i hi => (if_neg (by omega)).trans (if_neg (by omega))
        refine f_oth2 (s1 := (aDefW s.1 v (bsL bs), s.2)) (past := aPast past s) (bs := bs) (PS_words j1 (PSw_def j1.1 (by omega) (by rw [bsL_len]; exact b8) ?_ (fun i hi => ?_) (fun i h1 h2 => ?_)) (fun i h1 _ => ep i h1)) (PST_fr j2 (fun i hi => ep i (by omega))) j3 j4 j6 (aDefW_ok hw (by rw [bsL_len]; exact b8) (bsL_ok hf)) (fun c' r' P' m1 m2 => ?_)
        · rw [bsL_len]
          exact (if_neg (by omega)).trans (if_pos rfl)
        · rw [bsL_len] at hi
          refine (if_pos (by omega)).trans ?_
          rw [Nat.add_sub_cancel_left]
        · exact (if_neg (by omega)).trans (if_neg (by omega))
        · simp only [and_assoc, exists_and_left, exists_eq_left, exists_eq_left', Option.some.injEq, Value.int.injEq, Value.ref.injEq, Value.long.injEq, true_and, and_true, exists_eq, exists_true_left, mw_ob, mw_ia0, mw_ia2, mw_ia5, mw_ia6, mw_ia7, mw_ia8, mw_ia9, mw_ia10, mw_ia11, mw_ia15, mw_ia16, mF_0, mF_1, mF_2, mF_3, mF_4, mF_5, mF_6, mF_7, mF_8, mF_9, mF_10, mF_11, mF_12, mF_13, mF_14, mF_15, mF_16, mF_len, mF_s1, mF_s3, mF_s4, mF_s12, mF_s13, mF_s14, mw_uob, mw_u0, mw_u2, mw_u5, mw_u6, mw_u7, mw_u8, mw_u9, mw_u10, mw_u11, mw_u15, mw_u16, Nat.reduceLT, rup_s, rup_rup]
          exact hK2 v (by omega) rfl hf c' r' P' m1 m2)) bs.length 0 (Nat.zero_add _)
      rw [dfP_0] at h3
      exact h3
  · simp only [and_assoc, exists_and_left, exists_eq_left, exists_eq_left', Option.some.injEq, Value.int.injEq, Value.ref.injEq, Value.long.injEq, true_and, and_true, exists_eq, exists_true_left, mw_ob, mw_ia0, mw_ia2, mw_ia5, mw_ia6, mw_ia7, mw_ia8, mw_ia9, mw_ia10, mw_ia11, mw_ia15, mw_ia16, mF_0, mF_1, mF_2, mF_3, mF_4, mF_5, mF_6, mF_7, mF_8, mF_9, mF_10, mF_11, mF_12, mF_13, mF_14, mF_15, mF_16, mF_len, mF_s1, mF_s3, mF_s4, mF_s12, mF_s13, mF_s14, mw_uob, mw_u0, mw_u2, mw_u5, mw_u6, mw_u7, mw_u8, mw_u9, mw_u10, mw_u11, mw_u15, mw_u16, Nat.reduceLT, rup_s, rup_rup]
    exact if2 (hK0 a)
def aForget (s : aSt) (v : Nat) : aSt := aOthers (aDefW s.1 v [], s.2)
theorem f_forget {x : Int32} (hJ : MJ c r P s past bs) (hw : wdOk s.1) (hK0 : ¬ ((0 : Int32) ≤ x ∧ x ≤ 5) → K (mw w q c (rup r 0 P)) (some (.int (-1)))) (hK1 : ∀ v, v < 6 → x = nI v → (s.1 v).length = 0 → K (mw w q c (rup r 0 P)) (some (.int (-2)))) (hK2 : ∀ v, v < 6 → x = nI v → (s.1 v).length ≠ 0 → ∀ c' r' P', MJ c' r' P' (aForget s v) (aPast past s) bs → (∀ j, j < 5 ∨ 12 ≤ j → j ≠ 0 → r' j = r j) → K (mw w q c' (rup r' 0 P')) (some (.int (nI (nodesOf (aDefW s.1 v [])).length)))) : zcall n_M_forget [.ref q, .int x] (mw w q c (rup r 0 P)) K := by
  obtain ⟨hI, hA⟩ := hJ
  refine e_M_forget (b_M_forget_0 (s_M_isWord (fun a => ?_) (fun a => ?_)))
  · simp only [and_assoc, exists_and_left, exists_eq_left, exists_eq_left', Option.some.injEq, Value.int.injEq, Value.ref.injEq, Value.long.injEq, true_and, and_true, exists_eq, exists_true_left, mw_ob, mw_ia0, mw_ia2, mw_ia5, mw_ia6, mw_ia7, mw_ia8, mw_ia9, mw_ia10, mw_ia11, mw_ia15, mw_ia16, mF_0, mF_1, mF_2, mF_3, mF_4, mF_5, mF_6, mF_7, mF_8, mF_9, mF_10, mF_11, mF_12, mF_13, mF_14, mF_15, mF_16, mF_len, mF_s1, mF_s3, mF_s4, mF_s12, mF_s13, mF_s14, mw_uob, mw_u0, mw_u2, mw_u5, mw_u6, mw_u7, mw_u8, mw_u9, mw_u10, mw_u11, mw_u15, mw_u16, Nat.reduceLT, rup_s, rup_rup]
    refine if3 (b_M_forget_1 ?_)
    simp only [and_assoc, exists_and_left, exists_eq_left, exists_eq_left', Option.some.injEq, Value.int.injEq, Value.ref.injEq, Value.long.injEq, true_and, and_true, exists_eq, exists_true_left, mw_ob, mw_ia0, mw_ia2, mw_ia5, mw_ia6, mw_ia7, mw_ia8, mw_ia9, mw_ia10, mw_ia11, mw_ia15, mw_ia16, mF_0, mF_1, mF_2, mF_3, mF_4, mF_5, mF_6, mF_7, mF_8, mF_9, mF_10, mF_11, mF_12, mF_13, mF_14, mF_15, mF_16, mF_len, mF_s1, mF_s3, mF_s4, mF_s12, mF_s13, mF_s14, mw_uob, mw_u0, mw_u2, mw_u5, mw_u6, mw_u7, mw_u8, mw_u9, mw_u10, mw_u11, mw_u15, mw_u16, Nat.reduceLT, rup_s, rup_rup]
    obtain ⟨v, hv, rfl⟩ := rng_nI (hi := 5) (by decide) a
    obtain ⟨w1, w2, w3⟩ := hI.1.1 v (by omega)
    refine s_M_wordLength rfl (by omega) ?_
    simp only [and_assoc, exists_and_left, exists_eq_left, exists_eq_left', Option.some.injEq, Value.int.injEq, Value.ref.injEq, Value.long.injEq, true_and, and_true, exists_eq, exists_true_left, mw_ob, mw_ia0, mw_ia2, mw_ia5, mw_ia6, mw_ia7, mw_ia8, mw_ia9, mw_ia10, mw_ia11, mw_ia15, mw_ia16, mF_0, mF_1, mF_2, mF_3, mF_4, mF_5, mF_6, mF_7, mF_8, mF_9, mF_10, mF_11, mF_12, mF_13, mF_14, mF_15, mF_16, mF_len, mF_s1, mF_s3, mF_s4, mF_s12, mF_s13, mF_s14, mw_uob, mw_u0, mw_u2, mw_u5, mw_u6, mw_u7, mw_u8, mw_u9, mw_u10, mw_u11, mw_u15, mw_u16, Nat.reduceLT, rup_s, rup_rup]
    rw [w1]
    refine ⟨fun z => b_M_forget_2 ?_, fun z => hK1 v (by omega) rfl ((nI_eq (by omega) (b := 0) (by decide)).mp z)⟩
    have z : ¬ (s.1 v).length = 0 := fun t => z (by rw [t]; rfl)
    simp only [and_assoc, exists_and_left, exists_eq_left, exists_eq_left', Option.some.injEq, Value.int.injEq, Value.ref.injEq, Value.long.injEq, true_and, and_true, exists_eq, exists_true_left, mw_ob, mw_ia0, mw_ia2, mw_ia5, mw_ia6, mw_ia7, mw_ia8, mw_ia9, mw_ia10, mw_ia11, mw_ia15, mw_ia16, mF_0, mF_1, mF_2, mF_3, mF_4, mF_5, mF_6, mF_7, mF_8, mF_9, mF_10, mF_11, mF_12, mF_13, mF_14, mF_15, mF_16, mF_len, mF_s1, mF_s3, mF_s4, mF_s12, mF_s13, mF_s14, mw_uob, mw_u0, mw_u2, mw_u5, mw_u6, mw_u7, mw_u8, mw_u9, mw_u10, mw_u11, mw_u15, mw_u16, Nat.reduceLT, rup_s, rup_rup]
    refine f_beginsI hI (fun c1 P1 i1 i2 => ?_)
    obtain ⟨j1, j2, j3, j4, j5, j6⟩ := i1
    simp only [and_assoc, exists_and_left, exists_eq_left, exists_eq_left', Option.some.injEq, Value.int.injEq, Value.ref.injEq, Value.long.injEq, true_and, and_true, exists_eq, exists_true_left, mw_ob, mw_ia0, mw_ia2, mw_ia5, mw_ia6, mw_ia7, mw_ia8, mw_ia9, mw_ia10, mw_ia11, mw_ia15, mw_ia16, mF_0, mF_1, mF_2, mF_3, mF_4, mF_5, mF_6, mF_7, mF_8, mF_9, mF_10, mF_11, mF_12, mF_13, mF_14, mF_15, mF_16, mF_len, mF_s1, mF_s3, mF_s4, mF_s12, mF_s13, mF_s14, mw_uob, mw_u0, mw_u2, mw_u5, mw_u6, mw_u7, mw_u8, mw_u9, mw_u10, mw_u11, mw_u15, mw_u16, Nat.reduceLT, rup_s, rup_rup]
    rw [lit_9, pk_mul, nI_clamp (by omega)]
    refine ⟨vp_in_nI (by omega) (by decide), ?_⟩
    refine f_oth2 (s1 := (aDefW s.1 v [], s.2)) (past := aPast past s) (bs := bs) (PS_words j1 (PSw_def j1.1 (by omega) (Nat.zero_le _) (if_pos rfl) (fun i hi => absurd hi (Nat.not_lt_zero _)) (fun i h1 h2 => if_neg (by omega))) (fun i h1 _ => if_neg (by omega))) (PST_fr j2 (fun i hi => if_neg (by omega))) j3 j4 j6 (aDefW_ok hw (Nat.zero_le _) (fun x hx => by cases hx)) (fun c' r' P' m1 m2 => ?_)
    simp only [and_assoc, exists_and_left, exists_eq_left, exists_eq_left', Option.some.injEq, Value.int.injEq, Value.ref.injEq, Value.long.injEq, true_and, and_true, exists_eq, exists_true_left, mw_ob, mw_ia0, mw_ia2, mw_ia5, mw_ia6, mw_ia7, mw_ia8, mw_ia9, mw_ia10, mw_ia11, mw_ia15, mw_ia16, mF_0, mF_1, mF_2, mF_3, mF_4, mF_5, mF_6, mF_7, mF_8, mF_9, mF_10, mF_11, mF_12, mF_13, mF_14, mF_15, mF_16, mF_len, mF_s1, mF_s3, mF_s4, mF_s12, mF_s13, mF_s14, mw_uob, mw_u0, mw_u2, mw_u5, mw_u6, mw_u7, mw_u8, mw_u9, mw_u10, mw_u11, mw_u15, mw_u16, Nat.reduceLT, rup_s, rup_rup]
    exact hK2 v (by omega) rfl z c' r' P' m1 m2
  · simp only [and_assoc, exists_and_left, exists_eq_left, exists_eq_left', Option.some.injEq, Value.int.injEq, Value.ref.injEq, Value.long.injEq, true_and, and_true, exists_eq, exists_true_left, mw_ob, mw_ia0, mw_ia2, mw_ia5, mw_ia6, mw_ia7, mw_ia8, mw_ia9, mw_ia10, mw_ia11, mw_ia15, mw_ia16, mF_0, mF_1, mF_2, mF_3, mF_4, mF_5, mF_6, mF_7, mF_8, mF_9, mF_10, mF_11, mF_12, mF_13, mF_14, mF_15, mF_16, mF_len, mF_s1, mF_s3, mF_s4, mF_s12, mF_s13, mF_s14, mw_uob, mw_u0, mw_u2, mw_u5, mw_u6, mw_u7, mw_u8, mw_u9, mw_u10, mw_u11, mw_u15, mw_u16, Nat.reduceLT, rup_s, rup_rup]
    exact if2 (hK0 a)
theorem PST_less {past : List aSt} (h : PST P past) : PST P past.dropLast := by
  refine ⟨by rw [List.length_dropLast]; have := h.1; omega, fun k hk => ?_⟩
  rw [List.length_dropLast] at hk
  have e : pGet past.dropLast k = pGet past k := by
    unfold pGet
    rw [List.getD_eq_getElem?_getD, List.getD_eq_getElem?_getD, List.getElem?_dropLast, if_pos hk]
  rw [e]
  exact h.2 k (by omega)
theorem f_undo (hJ : MJ c r P s past bs) (hw : ∀ p ∈ past, wdOk p.1) (hK0 : past.length = 0 → K (mw w q c (rup r 0 P)) (some (.int (-2)))) (hK1 : past.length ≠ 0 → ∀ c' r' P', MJ c' r' P' (pGet past (past.length - 1)) past.dropLast bs → (∀ j, j < 5 ∨ 12 ≤ j → j ≠ 0 → r' j = r j) → K (mw w q c' (rup r' 0 P')) (some (.int (nI (past.length - 1))))) : zcall n_M_undo [.ref q] (mw w q c (rup r 0 P)) K := by
  obtain ⟨⟨h1, h2, h3, h4, h5, f0, h6⟩, hA⟩ := hJ
  have l4 := h2.1
  refine e_M_undo (b_M_undo_0 ?_)
  simp only [and_assoc, exists_and_left, exists_eq_left, exists_eq_left', Option.some.injEq, Value.int.injEq, Value.ref.injEq, Value.long.injEq, true_and, and_true, exists_eq, exists_true_left, mw_ob, mw_ia0, mw_ia2, mw_ia5, mw_ia6, mw_ia7, mw_ia8, mw_ia9, mw_ia10, mw_ia11, mw_ia15, mw_ia16, mF_0, mF_1, mF_2, mF_3, mF_4, mF_5, mF_6, mF_7, mF_8, mF_9, mF_10, mF_11, mF_12, mF_13, mF_14, mF_15, mF_16, mF_len, mF_s1, mF_s3, mF_s4, mF_s12, mF_s13, mF_s14, mw_uob, mw_u0, mw_u2, mw_u5, mw_u6, mw_u7, mw_u8, mw_u9, mw_u10, mw_u11, mw_u15, mw_u16, Nat.reduceLT, rup_s, rup_rup]
  rw [h3]
  refine ⟨fun z => b_M_undo_1 ?_, fun z => hK0 ((nI_eq (by omega) (b := 0) (by decide)).mp z)⟩
  have z : ¬ past.length = 0 := fun t => z (by rw [t]; rfl)
  have hp : PS (cpB P past.length 0) (pGet past (past.length - 1)) := PS_of0 (by
    rw [blk_cp]
    have := h2.2 (past.length - 1) (by omega)
    rw [show past.length - 1 + 1 = past.length by omega] at this
    exact this)
  have hm : pGet past (past.length - 1) ∈ past := by
    unfold pGet
    rw [List.getD_eq_getElem?_getD, List.getElem?_eq_getElem (by omega)]
    exact List.getElem_mem _
  simp only [and_assoc, exists_and_left, exists_eq_left, exists_eq_left', Option.some.injEq, Value.int.injEq, Value.ref.injEq, Value.long.injEq, true_and, and_true, exists_eq, exists_true_left, mw_ob, mw_ia0, mw_ia2, mw_ia5, mw_ia6, mw_ia7, mw_ia8, mw_ia9, mw_ia10, mw_ia11, mw_ia15, mw_ia16, mF_0, mF_1, mF_2, mF_3, mF_4, mF_5, mF_6, mF_7, mF_8, mF_9, mF_10, mF_11, mF_12, mF_13, mF_14, mF_15, mF_16, mF_len, mF_s1, mF_s3, mF_s4, mF_s12, mF_s13, mF_s14, mw_uob, mw_u0, mw_u2, mw_u5, mw_u6, mw_u7, mw_u8, mw_u9, mw_u10, mw_u11, mw_u15, mw_u16, Nat.reduceLT, rup_s, rup_rup]
  rw [h3]
  refine f_copies (i := past.length) (j := 0) rfl rfl (by omega) (by decide) z ?_
  simp only [and_assoc, exists_and_left, exists_eq_left, exists_eq_left', Option.some.injEq, Value.int.injEq, Value.ref.injEq, Value.long.injEq, true_and, and_true, exists_eq, exists_true_left, mw_ob, mw_ia0, mw_ia2, mw_ia5, mw_ia6, mw_ia7, mw_ia8, mw_ia9, mw_ia10, mw_ia11, mw_ia15, mw_ia16, mF_0, mF_1, mF_2, mF_3, mF_4, mF_5, mF_6, mF_7, mF_8, mF_9, mF_10, mF_11, mF_12, mF_13, mF_14, mF_15, mF_16, mF_len, mF_s1, mF_s3, mF_s4, mF_s12, mF_s13, mF_s14, mw_uob, mw_u0, mw_u2, mw_u5, mw_u6, mw_u7, mw_u8, mw_u9, mw_u10, mw_u11, mw_u15, mw_u16, Nat.reduceLT, rup_s, rup_rup]
  rw [h3, lit_1, pk_sub (by omega)]
  refine f_lays (wd := (pGet past (past.length - 1)).1) (hw _ hm) (by rw [rup_s]; exact hp.1) (fun c' r' m1 m2 m3 => ?_)
  simp only [and_assoc, exists_and_left, exists_eq_left, exists_eq_left', Option.some.injEq, Value.int.injEq, Value.ref.injEq, Value.long.injEq, true_and, and_true, exists_eq, exists_true_left, mw_ob, mw_ia0, mw_ia2, mw_ia5, mw_ia6, mw_ia7, mw_ia8, mw_ia9, mw_ia10, mw_ia11, mw_ia15, mw_ia16, mF_0, mF_1, mF_2, mF_3, mF_4, mF_5, mF_6, mF_7, mF_8, mF_9, mF_10, mF_11, mF_12, mF_13, mF_14, mF_15, mF_16, mF_len, mF_s1, mF_s3, mF_s4, mF_s12, mF_s13, mF_s14, mw_uob, mw_u0, mw_u2, mw_u5, mw_u6, mw_u7, mw_u8, mw_u9, mw_u10, mw_u11, mw_u15, mw_u16, Nat.reduceLT, rup_s, rup_rup]
  have er : r' = rup r' 0 (cpB P past.length 0) := by
    have : r' 0 = cpB P past.length 0 := (m2 0 (by decide)).trans rup_s
    rw [← this, rup_id]
  have eo : ∀ j, j < 5 ∨ 12 ≤ j → j ≠ 0 → r' j = r j := fun j hj h0 => (m2 j hj).trans (rup_n h0)
  have e1 : c' 1 = nI (past.length - 1) := (m3 1 (by decide)).trans rfl
  rw [er, e1]
  refine hK1 z c' r' _ ⟨⟨hp, PST_less (PST_cp5 h2 (Or.inl rfl)), by rw [List.length_dropLast]; exact e1, ⟨(m3 3 (by decide)).trans h4.1, h4.2.1, fun i hi => ?_⟩, MAu_MA m1, f0, (m3 14 (by decide)).trans h6⟩, m1⟩ eo
  rw [eo 2 (by decide) (by decide)]; exact h4.2.2 i hi
end MDef
