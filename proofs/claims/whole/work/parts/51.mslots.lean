/-! THE MODEL: which flow lies in which slot; placeOf(..), leaves(..), freeSlot() -/
abbrev aFlow : Type := aKy × aF × List aP
def fGet (l : List aFlow) (i : Nat) : aFlow := l.getD i ((0, 0, 0, 0), aBeg [], [])
/-- the segments that a flow has kept -/
def ML (g : Nat → Int32) (l : List aP) : Prop := g 21 = nI l.length ∧ l.length ≤ 10 ∧ (∀ p ∈ l, aOk p) ∧ ∀ i, i < l.length → PC g (290 + 42 * i) (aPc l i)
def MFl (g : Nat → Int32) (f : aFlow) : Prop := MFs g f.1 f.2.1 ∧ ML g f.2.2
def slG (sl : List Nat) (i : Nat) : Nat := sl.getD i 0
def SL (P : Nat → Int32) (sl : List Nat) : Prop := P 57 = nI sl.length ∧ sl.length ≤ 4 ∧ sl.Nodup ∧ (∀ s ∈ sl, s < 4) ∧ ∀ i, i < sl.length → P (58 + i) = nI (slG sl i)
def FLs (P : Nat → Int32) (sl : List Nat) (l : List aFlow) : Prop := sl.length = l.length ∧ ∀ i, i < l.length → MFl (fun k => P (186 + 710 * slG sl i + k)) (fGet l i)
theorem slG_mem {sl : List Nat} {i : Nat} (h : i < sl.length) : slG sl i ∈ sl := by
  unfold slG
  rw [List.getD_eq_getElem?_getD, List.getElem?_eq_getElem h]
  exact List.getElem_mem h
theorem slG_lt {P : Nat → Int32} {sl : List Nat} {i : Nat} (h : SL P sl) (hi : i < sl.length) : slG sl i < 4 := h.2.2.2.1 _ (slG_mem hi)
theorem slG_inj {sl : List Nat} {i j : Nat} (h : sl.Nodup) (hi : i < sl.length) (hj : j < sl.length) (e : slG sl i = slG sl j) : i = j := by
  unfold slG at e
  rw [List.getD_eq_getElem?_getD, List.getD_eq_getElem?_getD, List.getElem?_eq_getElem hi, List.getElem?_eq_getElem hj] at e
  have e : sl[i] = sl[j] := e
  rcases Nat.lt_trichotomy i j with hlt | heq | hgt
  · exact absurd e (List.pairwise_iff_getElem.mp h i j hi hj hlt)
  · exact heq
  · exact absurd e.symm (List.pairwise_iff_getElem.mp h j i hj hi hgt)
/-- the place of a key -/
def aPl (kf : Nat → Int32) (key : Int32) : Nat → Nat → Option Nat
  | 0, _ => none
  | n + 1, i => if kf i = key then some i else aPl kf key n (i + 1)
def aPlace (l : List aFlow) (key : Int32) : Option Nat := aPl (fun i => (fGet l i).1.1) key l.length 0
theorem aPl_lt {kf : Nat → Int32} {key : Int32} : ∀ {n i k : Nat}, aPl kf key n i = some k → i ≤ k ∧ k < i + n ∧ kf k = key
  | 0, i, k, h => by cases h
  | n + 1, i, k, h => by
    unfold aPl at h
    split at h
    · rename_i e
      obtain rfl := Option.some.inj h
      exact ⟨Nat.le_refl _, by omega, e⟩
    · obtain ⟨h1, h2, h3⟩ := aPl_lt h
      exact ⟨by omega, by omega, h3⟩
theorem aPlace_lt {l : List aFlow} {key : Int32} {k : Nat} (h : aPlace l key = some k) : k < l.length ∧ (fGet l k).1.1 = key := by
  obtain ⟨-, h2, h3⟩ := aPl_lt h
  exact ⟨by omega, h3⟩
/-- a slot goes -/
def lvn (P : Nat → Int32) (i j : Nat) : Nat → Int32 := fun k => if 58 + i ≤ k ∧ k < 58 + j then P (k + 1) else P k
theorem lvn_0 {P : Nat → Int32} {i : Nat} : lvn P i i = P := by
  funext k
  exact if_neg (by omega)
theorem lvn_step {P : Nat → Int32} {i j : Nat} (h : i ≤ j) : upd (lvn P i j) (58 + j) (P (58 + j + 1)) = lvn P i (j + 1) := by
  funext k
  show (if k = 58 + j then P (58 + j + 1) else if 58 + i ≤ k ∧ k < 58 + j then P (k + 1) else P k) = if 58 + i ≤ k ∧ k < 58 + (j + 1) then P (k + 1) else P k
  by_cases h1 : k = 58 + j
  · rw [if_pos h1, if_pos (by omega), h1]
  · rw [if_neg h1]
    by_cases h2 : 58 + i ≤ k ∧ k < 58 + j
    · rw [if_pos h2, if_pos (by omega)]
    · rw [if_neg h2, if_neg (by omega)]
def lvP (P : Nat → Int32) (i n : Nat) : Nat → Int32 := upd (lvn P i (n - 1)) 57 (nI (n - 1))
theorem lvP_o {P : Nat → Int32} {i n k : Nat} (hn : n ≤ 4) (h : k < 57 ∨ 62 ≤ k) : lvP P i n k = P k := (if_neg (by omega)).trans (if_neg (by omega))
theorem slG_erase {sl : List Nat} {i k : Nat} : slG (sl.eraseIdx i) k = if k < i then slG sl k else slG sl (k + 1) := by
  unfold slG
  rw [List.getD_eq_getElem?_getD, List.getElem?_eraseIdx]
  by_cases h : k < i
  · rw [if_pos h, if_pos h, List.getD_eq_getElem?_getD]
  · rw [if_neg h, if_neg h, List.getD_eq_getElem?_getD]
theorem fGet_erase {l : List aFlow} {i k : Nat} : fGet (l.eraseIdx i) k = if k < i then fGet l k else fGet l (k + 1) := by
  unfold fGet
  rw [List.getD_eq_getElem?_getD, List.getElem?_eraseIdx]
  by_cases h : k < i
  · rw [if_pos h, if_pos h, List.getD_eq_getElem?_getD]
  · rw [if_neg h, if_neg h, List.getD_eq_getElem?_getD]
theorem SL_leave {P : Nat → Int32} {sl : List Nat} {i : Nat} (h : SL P sl) (hi : i < sl.length) : SL (lvP P i sl.length) (sl.eraseIdx i) := by
  obtain ⟨h1, h2, h3, h4, h5⟩ := h
  have hl : (sl.eraseIdx i).length = sl.length - 1 := List.length_eraseIdx_of_lt hi
  refine ⟨by rw [hl]; rfl, by omega, List.Pairwise.sublist (List.eraseIdx_sublist sl i) h3, fun s hs => h4 s ((List.eraseIdx_sublist sl i).subset hs), fun k hk => ?_⟩
  rw [hl] at hk
  refine (if_neg (by omega)).trans ?_
  rw [slG_erase]
  by_cases hki : k < i
  · rw [if_pos hki]
    exact (if_neg (by omega)).trans (h5 k (by omega))
  · rw [if_neg hki]
    exact (if_pos (by omega)).trans (h5 (k + 1) (by omega))
theorem FLs_leave {P P' : Nat → Int32} {sl : List Nat} {l : List aFlow} {i : Nat} (h : FLs P sl l) (hi : i < l.length) (e : ∀ k, 186 ≤ k → P' k = P k) : FLs P' (sl.eraseIdx i) (l.eraseIdx i) := by
  obtain ⟨h1, h2⟩ := h
  have hl : (sl.eraseIdx i).length = sl.length - 1 := List.length_eraseIdx_of_lt (by omega)
  have hl2 : (l.eraseIdx i).length = l.length - 1 := List.length_eraseIdx_of_lt hi
  refine ⟨by omega, fun k hk => ?_⟩
  have eP : ∀ b, 186 ≤ b → (fun k => P' (b + k)) = fun k => P (b + k) := fun b hb => by
    funext k
    exact e _ (by omega)
  rw [eP _ (by omega), slG_erase, fGet_erase]
  by_cases hki : k < i
  · rw [if_pos hki, if_pos hki]
    exact h2 k (by omega)
  · rw [if_neg hki, if_neg hki]
    exact h2 (k + 1) (by omega)
section MSlots
variable {w : jx_W} {q : Nat} {c : Nat → Int32} {r : Nat → Nat → Int32} {K : jx_Q} {P : Nat → Int32}
theorem f_slot {x : Int32} {i : Nat} {sl : List Nat} (hS : SL P sl) (hx : x = nI i) (hi : i < sl.length) (hK : K (mw w q c (rup r 0 P)) (some (.int (nI (186 + 710 * slG sl i))))) : zcall n_M_slot [.ref q, .int x] (mw w q c (rup r 0 P)) K := by
  have := hS.2.1
  refine s_M_slot hx (by omega) ?_
  rw [rup_s, hS.2.2.2.2 i hi, lit_186, lit_710, pk_mul, nI_add]
  exact hK
theorem f_placeOf_loop {key : Int32} {sl : List Nat} {l : List aFlow} (hS : SL P sl) (hF : FLs P sl l) : ∀ (n i : Nat), i + n = l.length → K (mw w q c (rup r 0 P)) (some (.int (oM (aPl (fun i => (fGet l i).1.1) key n i)))) → zwp n_M_placeOf 1 [(0, .ref q), (1, .int key), (2, .int (nI i))] [] 0 0 (mw w q c (rup r 0 P)) K := by
  intro n
  have h4 := hS.2.1
  have hl := hF.1
  induction n with
  | zero =>
    intro i hi hK
    refine b_M_placeOf_1 ?_
    simp only [and_assoc, exists_and_left, exists_eq_left, exists_eq_left', Option.some.injEq, Value.int.injEq, Value.ref.injEq, Value.long.injEq, true_and, and_true, exists_eq, exists_true_left, mw_ob, mw_ia0, mw_ia2, mw_ia5, mw_ia6, mw_ia7, mw_ia8, mw_ia9, mw_ia10, mw_ia11, mw_ia15, mw_ia16, mF_0, mF_1, mF_2, mF_3, mF_4, mF_5, mF_6, mF_7, mF_8, mF_9, mF_10, mF_11, mF_12, mF_13, mF_14, mF_15, mF_16, mF_len, mF_s1, mF_s3, mF_s4, mF_s12, mF_s13, mF_s14, mw_uob, mw_u0, mw_u2, mw_u5, mw_u6, mw_u7, mw_u8, mw_u9, mw_u10, mw_u11, mw_u15, mw_u16, Nat.reduceLT, rup_s, rup_rup]
    refine ⟨vp_in_nI (n := 57) (by decide) (by decide), fun _ => b_M_placeOf_3 hK, fun z => absurd ?_ z⟩
    rw [show P (57 : Int32).toNatClampNeg = nI sl.length from hS.1]
    exact (nI_leI (by omega) (by omega)).mpr (by omega)
  | succ n ih =>
    intro i hi hK
    have hs := slG_lt hS (i := i) (by omega)
    refine b_M_placeOf_1 ?_
    simp only [and_assoc, exists_and_left, exists_eq_left, exists_eq_left', Option.some.injEq, Value.int.injEq, Value.ref.injEq, Value.long.injEq, true_and, and_true, exists_eq, exists_true_left, mw_ob, mw_ia0, mw_ia2, mw_ia5, mw_ia6, mw_ia7, mw_ia8, mw_ia9, mw_ia10, mw_ia11, mw_ia15, mw_ia16, mF_0, mF_1, mF_2, mF_3, mF_4, mF_5, mF_6, mF_7, mF_8, mF_9, mF_10, mF_11, mF_12, mF_13, mF_14, mF_15, mF_16, mF_len, mF_s1, mF_s3, mF_s4, mF_s12, mF_s13, mF_s14, mw_uob, mw_u0, mw_u2, mw_u5, mw_u6, mw_u7, mw_u8, mw_u9, mw_u10, mw_u11, mw_u15, mw_u16, Nat.reduceLT, rup_s, rup_rup]
    rw [show P (57 : Int32).toNatClampNeg = nI sl.length from hS.1]
    refine ⟨vp_in_nI (n := 57) (by decide) (by decide), fun z => absurd ((nI_leI (by omega) (by omega)).mp z) (by omega), fun _ => ?_⟩
    refine f_slot hS rfl (by omega) ?_
    simp only [and_assoc, exists_and_left, exists_eq_left, exists_eq_left', Option.some.injEq, Value.int.injEq, Value.ref.injEq, Value.long.injEq, true_and, and_true, exists_eq, exists_true_left, mw_ob, mw_ia0, mw_ia2, mw_ia5, mw_ia6, mw_ia7, mw_ia8, mw_ia9, mw_ia10, mw_ia11, mw_ia15, mw_ia16, mF_0, mF_1, mF_2, mF_3, mF_4, mF_5, mF_6, mF_7, mF_8, mF_9, mF_10, mF_11, mF_12, mF_13, mF_14, mF_15, mF_16, mF_len, mF_s1, mF_s3, mF_s4, mF_s12, mF_s13, mF_s14, mw_uob, mw_u0, mw_u2, mw_u5, mw_u6, mw_u7, mw_u8, mw_u9, mw_u10, mw_u11, mw_u15, mw_u16, Nat.reduceLT, rup_s, rup_rup]
    have ek : P (186 + 710 * slG sl i) = (fGet l i).1.1 := (hF.2 i (by omega)).1.2.2.2.2.2.2.2.2.2.2.2.2.2.2.1
    rw [lit_0, nI_add, Nat.add_zero, nI_clamp (by omega), ek]
    refine ⟨vp_in_nI (by omega) (by decide), fun z => b_M_placeOf_2 ?_, fun z => ?_⟩
    · rw [nI_1]
      refine ih (i + 1) (by omega) ?_
      have : aPl (fun i => (fGet l i).1.1) key (n + 1) i = aPl (fun i => (fGet l i).1.1) key n (i + 1) := if_neg z
      rw [← this]
      exact hK
    · have : aPl (fun i => (fGet l i).1.1) key (n + 1) i = some i := if_pos z
      rw [this] at hK
      exact hK
theorem f_placeOf {key : Int32} {sl : List Nat} {l : List aFlow} (hS : SL P sl) (hF : FLs P sl l) (hK : K (mw w q c (rup r 0 P)) (some (.int (oM (aPlace l key))))) : zcall n_M_placeOf [.ref q, .int key] (mw w q c (rup r 0 P)) K :=
  e_M_placeOf (b_M_placeOf_0 (f_placeOf_loop hS hF l.length 0 (Nat.zero_add _) hK))
theorem f_leaves_loop {i n : Nat} (hn : n ≤ 4) (hi : i < n) (h57 : P 57 = nI n) (hK : K (mw w q c (rup r 0 (lvP P i n))) none) : ∀ (m j : Nat), i ≤ j → j + 1 + m = n → zwp n_M_leaves 1 [(0, .ref q), (2, .int (nI j))] [] 0 0 (mw w q c (rup r 0 (lvn P i j))) K := by
  intro m
  induction m with
  | zero =>
    intro j hj hm
    have e57 : lvn P i j (57 : Int32).toNatClampNeg = nI n := (if_neg (show ¬ (58 + i ≤ 57 ∧ 57 < 58 + j) by omega)).trans h57
    refine b_M_leaves_1 ?_
    simp only [and_assoc, exists_and_left, exists_eq_left, exists_eq_left', Option.some.injEq, Value.int.injEq, Value.ref.injEq, Value.long.injEq, true_and, and_true, exists_eq, exists_true_left, mw_ob, mw_ia0, mw_ia2, mw_ia5, mw_ia6, mw_ia7, mw_ia8, mw_ia9, mw_ia10, mw_ia11, mw_ia15, mw_ia16, mF_0, mF_1, mF_2, mF_3, mF_4, mF_5, mF_6, mF_7, mF_8, mF_9, mF_10, mF_11, mF_12, mF_13, mF_14, mF_15, mF_16, mF_len, mF_s1, mF_s3, mF_s4, mF_s12, mF_s13, mF_s14, mw_uob, mw_u0, mw_u2, mw_u5, mw_u6, mw_u7, mw_u8, mw_u9, mw_u10, mw_u11, mw_u15, mw_u16, Nat.reduceLT, rup_s, rup_rup]
    rw [e57, nI_1]
    refine ⟨vp_in_nI (n := 57) (by decide) (by decide), fun _ => b_M_leaves_2 ?_, fun z => absurd ((nI_leI (by omega) (by omega)).mpr (by omega)) z⟩
    simp only [and_assoc, exists_and_left, exists_eq_left, exists_eq_left', Option.some.injEq, Value.int.injEq, Value.ref.injEq, Value.long.injEq, true_and, and_true, exists_eq, exists_true_left, mw_ob, mw_ia0, mw_ia2, mw_ia5, mw_ia6, mw_ia7, mw_ia8, mw_ia9, mw_ia10, mw_ia11, mw_ia15, mw_ia16, mF_0, mF_1, mF_2, mF_3, mF_4, mF_5, mF_6, mF_7, mF_8, mF_9, mF_10, mF_11, mF_12, mF_13, mF_14, mF_15, mF_16, mF_len, mF_s1, mF_s3, mF_s4, mF_s12, mF_s13, mF_s14, mw_uob, mw_u0, mw_u2, mw_u5, mw_u6, mw_u7, mw_u8, mw_u9, mw_u10, mw_u11, mw_u15, mw_u16, Nat.reduceLT, rup_s, rup_rup]
    rw [e57, lit_1, pk_sub (by omega), show j = n - 1 by omega]
    exact ⟨vp_in_nI (n := 57) (by decide) (by decide), vp_in_nI (n := 57) (by decide) (by decide), hK⟩
  | succ m ih =>
    intro j hj hm
    have e57 : lvn P i j (57 : Int32).toNatClampNeg = nI n := (if_neg (show ¬ (58 + i ≤ 57 ∧ 57 < 58 + j) by omega)).trans h57
    refine b_M_leaves_1 ?_
    simp only [and_assoc, exists_and_left, exists_eq_left, exists_eq_left', Option.some.injEq, Value.int.injEq, Value.ref.injEq, Value.long.injEq, true_and, and_true, exists_eq, exists_true_left, mw_ob, mw_ia0, mw_ia2, mw_ia5, mw_ia6, mw_ia7, mw_ia8, mw_ia9, mw_ia10, mw_ia11, mw_ia15, mw_ia16, mF_0, mF_1, mF_2, mF_3, mF_4, mF_5, mF_6, mF_7, mF_8, mF_9, mF_10, mF_11, mF_12, mF_13, mF_14, mF_15, mF_16, mF_len, mF_s1, mF_s3, mF_s4, mF_s12, mF_s13, mF_s14, mw_uob, mw_u0, mw_u2, mw_u5, mw_u6, mw_u7, mw_u8, mw_u9, mw_u10, mw_u11, mw_u15, mw_u16, Nat.reduceLT, rup_s, rup_rup]
    rw [e57, nI_1, lit_58, nI_add, nI_1]
    refine ⟨vp_in_nI (n := 57) (by decide) (by decide), fun z => absurd ((nI_leI (by omega) (by omega)).mp z) (by omega), fun _ => ⟨vp_in_nI (by omega) (by decide), vp_in_nI (by omega) (by decide), ?_⟩⟩
    rw [nI_clamp (by omega), nI_clamp (by omega), show lvn P i j (58 + j + 1) = P (58 + j + 1) from if_neg (by omega), lvn_step hj]
    exact ih (j + 1) (by omega) (by omega)
theorem f_leaves {x : Int32} {i n : Nat} (hx : x = nI i) (hn : n ≤ 4) (hi : i < n) (h57 : P 57 = nI n) (hK : K (mw w q c (rup r 0 (lvP P i n))) none) : zcall n_M_leaves [.ref q, .int x] (mw w q c (rup r 0 P)) K := by
  subst hx
  have h := f_leaves_loop hn hi h57 hK (n - 1 - i) i (Nat.le_refl _) (by omega)
  rw [lvn_0] at h
  exact e_M_leaves (b_M_leaves_0 h)
/-- slot t is taken by one of the first j -/
theorem f_free_in {t : Nat} {sl : List Nat} (hS : SL P sl) (ht : t < 4) (h1 : (∃ i, i < sl.length ∧ slG sl i = t) → zwp n_M_freeSlot 6 [(0, .ref q), (1, .int (nI t)), (2, .int 1)] [] 0 0 (mw w q c (rup r 0 P)) K) (h0 : (∀ i, i < sl.length → slG sl i ≠ t) → zwp n_M_freeSlot 6 [(0, .ref q), (1, .int (nI t)), (2, .int 0)] [] 0 0 (mw w q c (rup r 0 P)) K) : ∀ (m j : Nat), j + m = sl.length →
    ((∃ i, i < j ∧ slG sl i = t) → zwp n_M_freeSlot 2 [(0, .ref q), (1, .int (nI t)), (2, .int 1), (3, .int (nI j))] [] 0 0 (mw w q c (rup r 0 P)) K) ∧ ((∀ i, i < j → slG sl i ≠ t) → zwp n_M_freeSlot 2 [(0, .ref q), (1, .int (nI t)), (2, .int 0), (3, .int (nI j))] [] 0 0 (mw w q c (rup r 0 P)) K) := by
  have h4 := hS.2.1
  have e57 : P (57 : Int32).toNatClampNeg = nI sl.length := hS.1
  intro m
  induction m with
  | zero =>
    intro j hj
    obtain rfl : j = sl.length := by omega
    refine ⟨fun h => b_M_freeSlot_2 ?_, fun h => b_M_freeSlot_2 ?_⟩
    · simp only [and_assoc, exists_and_left, exists_eq_left, exists_eq_left', Option.some.injEq, Value.int.injEq, Value.ref.injEq, Value.long.injEq, true_and, and_true, exists_eq, exists_true_left, mw_ob, mw_ia0, mw_ia2, mw_ia5, mw_ia6, mw_ia7, mw_ia8, mw_ia9, mw_ia10, mw_ia11, mw_ia15, mw_ia16, mF_0, mF_1, mF_2, mF_3, mF_4, mF_5, mF_6, mF_7, mF_8, mF_9, mF_10, mF_11, mF_12, mF_13, mF_14, mF_15, mF_16, mF_len, mF_s1, mF_s3, mF_s4, mF_s12, mF_s13, mF_s14, mw_uob, mw_u0, mw_u2, mw_u5, mw_u6, mw_u7, mw_u8, mw_u9, mw_u10, mw_u11, mw_u15, mw_u16, Nat.reduceLT, rup_s, rup_rup]
      rw [e57]
      exact ⟨vp_in_nI (n := 57) (by decide) (by decide), fun _ => h1 h, fun z => absurd ((nI_leI (by omega) (by omega)).mpr (Nat.le_refl _)) z⟩
    · simp only [and_assoc, exists_and_left, exists_eq_left, exists_eq_left', Option.some.injEq, Value.int.injEq, Value.ref.injEq, Value.long.injEq, true_and, and_true, exists_eq, exists_true_left, mw_ob, mw_ia0, mw_ia2, mw_ia5, mw_ia6, mw_ia7, mw_ia8, mw_ia9, mw_ia10, mw_ia11, mw_ia15, mw_ia16, mF_0, mF_1, mF_2, mF_3, mF_4, mF_5, mF_6, mF_7, mF_8, mF_9, mF_10, mF_11, mF_12, mF_13, mF_14, mF_15, mF_16, mF_len, mF_s1, mF_s3, mF_s4, mF_s12, mF_s13, mF_s14, mw_uob, mw_u0, mw_u2, mw_u5, mw_u6, mw_u7, mw_u8, mw_u9, mw_u10, mw_u11, mw_u15, mw_u16, Nat.reduceLT, rup_s, rup_rup]
      rw [e57]
      exact ⟨vp_in_nI (n := 57) (by decide) (by decide), fun _ => h0 h, fun z => absurd ((nI_leI (by omega) (by omega)).mpr (Nat.le_refl _)) z⟩
  | succ m ih =>
    intro j hj
    obtain ⟨i1, i0⟩ := ih (j + 1) (by omega)
    have hs := slG_lt hS (i := j) (by omega)
    have ej : P (58 + j) = nI (slG sl j) := hS.2.2.2.2 j (by omega)
    refine ⟨fun h => b_M_freeSlot_2 ?_, fun h => b_M_freeSlot_2 ?_⟩
    · simp only [and_assoc, exists_and_left, exists_eq_left, exists_eq_left', Option.some.injEq, Value.int.injEq, Value.ref.injEq, Value.long.injEq, true_and, and_true, exists_eq, exists_true_left, mw_ob, mw_ia0, mw_ia2, mw_ia5, mw_ia6, mw_ia7, mw_ia8, mw_ia9, mw_ia10, mw_ia11, mw_ia15, mw_ia16, mF_0, mF_1, mF_2, mF_3, mF_4, mF_5, mF_6, mF_7, mF_8, mF_9, mF_10, mF_11, mF_12, mF_13, mF_14, mF_15, mF_16, mF_len, mF_s1, mF_s3, mF_s4, mF_s12, mF_s13, mF_s14, mw_uob, mw_u0, mw_u2, mw_u5, mw_u6, mw_u7, mw_u8, mw_u9, mw_u10, mw_u11, mw_u15, mw_u16, Nat.reduceLT, rup_s, rup_rup]
      rw [e57]
      refine ⟨vp_in_nI (n := 57) (by decide) (by decide), fun z => absurd ((nI_leI (by omega) (by omega)).mp z) (by omega), fun _ => ⟨fun _ => b_M_freeSlot_3 (b_M_freeSlot_5 ?_), fun z => absurd z (by decide)⟩⟩
      rw [nI_1]
      obtain ⟨i, a1, a2⟩ := h
      exact i1 ⟨i, by omega, a2⟩
    · simp only [and_assoc, exists_and_left, exists_eq_left, exists_eq_left', Option.some.injEq, Value.int.injEq, Value.ref.injEq, Value.long.injEq, true_and, and_true, exists_eq, exists_true_left, mw_ob, mw_ia0, mw_ia2, mw_ia5, mw_ia6, mw_ia7, mw_ia8, mw_ia9, mw_ia10, mw_ia11, mw_ia15, mw_ia16, mF_0, mF_1, mF_2, mF_3, mF_4, mF_5, mF_6, mF_7, mF_8, mF_9, mF_10, mF_11, mF_12, mF_13, mF_14, mF_15, mF_16, mF_len, mF_s1, mF_s3, mF_s4, mF_s12, mF_s13, mF_s14, mw_uob, mw_u0, mw_u2, mw_u5, mw_u6, mw_u7, mw_u8, mw_u9, mw_u10, mw_u11, mw_u15, mw_u16, Nat.reduceLT, rup_s, rup_rup]
      rw [e57, lit_58, nI_add, nI_clamp (by omega), ej]
      refine ⟨vp_in_nI (n := 57) (by decide) (by decide), fun z => absurd ((nI_leI (by omega) (by omega)).mp z) (by omega), fun _ => ⟨fun z => absurd trivial z, fun _ => ⟨vp_in_nI (by omega) (by decide), fun z => b_M_freeSlot_4 (b_M_freeSlot_5 ?_), fun z => b_M_freeSlot_3 (b_M_freeSlot_5 ?_)⟩⟩⟩
      · rw [nI_1]
        refine i0 (fun i hi e => ?_)
        by_cases hij : i = j
        · exact z (by rw [← hij, e])
        · exact h i (by omega) e
      · rw [nI_1]
        exact i1 ⟨j, by omega, (nI_eq (by omega) (by omega)).mp z⟩
theorem f_free_out {sl : List Nat} (hS : SL P sl) (h3 : sl.length < 4) (hK : ∀ s, s < 4 → (∀ i, i < sl.length → slG sl i ≠ s) → K (mw w q c (rup r 0 P)) (some (.int (nI s)))) : ∀ (m t : Nat), t + m = 4 → (∀ u, u < t → ∃ i, i < sl.length ∧ slG sl i = u) → zwp n_M_freeSlot 1 [(0, .ref q), (1, .int (nI t)), (2, .int 1)] [] 0 0 (mw w q c (rup r 0 P)) K := by
  intro m
  induction m with
  | zero =>
    intro t ht h
    obtain ⟨i0, a0, b0⟩ := h 0 (by omega)
    obtain ⟨i1, a1, b1⟩ := h 1 (by omega)
    obtain ⟨i2, a2, b2⟩ := h 2 (by omega)
    obtain ⟨i3, a3, b3⟩ := h 3 (by omega)
    have n01 : i0 ≠ i1 := fun e => by rw [e] at b0; omega
    have n02 : i0 ≠ i2 := fun e => by rw [e] at b0; omega
    have n03 : i0 ≠ i3 := fun e => by rw [e] at b0; omega
    have n12 : i1 ≠ i2 := fun e => by rw [e] at b1; omega
    have n13 : i1 ≠ i3 := fun e => by rw [e] at b1; omega
    have n23 : i2 ≠ i3 := fun e => by rw [e] at b2; omega
    omega
  | succ m ih =>
    intro t ht h
    refine b_M_freeSlot_1 ⟨fun z => absurd z (by decide), fun _ => ?_⟩
    refine (f_free_in hS (t := t) (by omega) (fun g => b_M_freeSlot_6 ⟨fun z => absurd z (by decide), fun _ => b_M_freeSlot_8 ?_⟩) (fun g => b_M_freeSlot_6 ⟨fun _ => b_M_freeSlot_7 (b_M_freeSlot_8 ?_), fun z => absurd rfl z⟩) sl.length 0 (Nat.zero_add _)).2 (fun i hi => absurd hi (Nat.not_lt_zero _))
    · rw [nI_1]
      refine ih (t + 1) (by omega) (fun u hu => ?_)
      by_cases hut : u = t
      · rw [hut]; exact g
      · exact h u (by omega)
    · refine b_M_freeSlot_1 ⟨fun _ => b_M_freeSlot_9 ?_, fun z => absurd rfl z⟩
      rw [lit_0, nI_add, Nat.add_zero]
      exact hK t (by omega) g
theorem f_freeSlot {sl : List Nat} (hS : SL P sl) (h3 : sl.length < 4) (hK : ∀ s, s < 4 → (∀ i, i < sl.length → slG sl i ≠ s) → K (mw w q c (rup r 0 P)) (some (.int (nI s)))) : zcall n_M_freeSlot [.ref q] (mw w q c (rup r 0 P)) K :=
  e_M_freeSlot (b_M_freeSlot_0 (f_free_out hS h3 hK 4 0 rfl (fun u hu => absurd hu (Nat.not_lt_zero _))))
end MSlots
