/-! THE MODEL: lays() -/
def paI (N : aNL) (n : Nat) : Int32 := if n = 0 then -9 else nI (auPa N n)
def faI (N : aNL) (n : Nat) : Int32 := if n = 0 then -9 else nI (auFa N n)
def rowOk (wd : Nat → List Nat) (N : aNL) (Pa Fa S X : Nat → Int32) (n : Nat) : Prop := Pa n = paI N n ∧ Fa n = faI N n ∧ S n = nI (setK wd (nGet N n) 6) ∧ ∀ l, l < 26 → X (26 * n + l) = nI (auNx N n l)
/-- the model's automaton of the words wd -/
def MAu (c : Nat → Int32) (r : Nat → Nat → Int32) (wd : Nat → List Nat) : Prop := MNd c r (nodesOf wd) ∧ ∀ n, n < (nodesOf wd).length → rowOk wd (nodesOf wd) (r 7) (r 8) (r 9) (r 10) n
theorem MAu_MA {c : Nat → Int32} {r : Nat → Nat → Int32} {wd : Nat → List Nat} (h : MAu c r wd) : MA c r (auOf wd) := ⟨h.1.1, fun n hn => (h.2 n hn).2.2.1, fun n l hn hl => (h.2 n hn).2.2.2 l hl⟩
def r7w (r : Nat → Nat → Int32) (S R Pa Fa X : Nat → Int32) : Nat → Nat → Int32 := fun j => if j = 9 then S else if j = 11 then R else if j = 7 then Pa else if j = 8 then Fa else if j = 10 then X else r j
section R7w
variable {r : Nat → Nat → Int32} {S R Pa Fa X Y : Nat → Int32}
theorem r7_9 : r7w r S R Pa Fa X 9 = S := rfl
theorem r7_11 : r7w r S R Pa Fa X 11 = R := rfl
theorem r7_7 : r7w r S R Pa Fa X 7 = Pa := rfl
theorem r7_8 : r7w r S R Pa Fa X 8 = Fa := rfl
theorem r7_10 : r7w r S R Pa Fa X 10 = X := rfl
theorem r7_5 : r7w r S R Pa Fa X 5 = r 5 := rfl
theorem r7_6 : r7w r S R Pa Fa X 6 = r 6 := rfl
theorem r7_0 : r7w r S R Pa Fa X 0 = r 0 := rfl
theorem r7_u9 : rup (r7w r S R Pa Fa X) 9 Y = r7w r Y R Pa Fa X := by
  funext j
  unfold rup r7w
  by_cases h : j = 9
  · subst h; rfl
  · simp only [h, if_false]
theorem r7_u11 : rup (r7w r S R Pa Fa X) 11 Y = r7w r S Y Pa Fa X := by
  funext j
  unfold rup r7w
  by_cases h : j = 11
  · subst h; rfl
  · simp only [h, if_false]
theorem r7_u7 : rup (r7w r S R Pa Fa X) 7 Y = r7w r S R Y Fa X := by
  funext j
  unfold rup r7w
  by_cases h : j = 7
  · subst h; rfl
  · simp only [h, if_false]
theorem r7_u8 : rup (r7w r S R Pa Fa X) 8 Y = r7w r S R Pa Y X := by
  funext j
  unfold rup r7w
  by_cases h : j = 8
  · subst h; rfl
  · simp only [h, if_false]
theorem r7_u10 : rup (r7w r S R Pa Fa X) 10 Y = r7w r S R Pa Fa Y := by
  funext j
  unfold rup r7w
  by_cases h : j = 10
  · subst h; rfl
  · simp only [h, if_false]
theorem r7_id : r7w r (r 9) (r 11) (r 7) (r 8) (r 10) = r := by
  funext j
  unfold r7w
  by_cases h1 : j = 9
  · rw [if_pos h1, h1]
  · rw [if_neg h1]
    by_cases h2 : j = 11
    · rw [if_pos h2, h2]
    · rw [if_neg h2]
      by_cases h3 : j = 7
      · rw [if_pos h3, h3]
      · rw [if_neg h3]
        by_cases h4 : j = 8
        · rw [if_pos h4, h4]
        · rw [if_neg h4]
          by_cases h5 : j = 10
          · rw [if_pos h5, h5]
          · rw [if_neg h5]
end R7w
theorem nodes_mem {wd : Nat → List Nat} {z : List Nat} : z ∈ nodesOf wd ↔ z = [] ∨ ∃ u, u < 6 ∧ ∃ k, 1 ≤ k ∧ k ≤ (wd u).length ∧ z = (wd u).take k := nodesK_mem 6
theorem nGet_par {wd : Nat → List Nat} {n : Nat} (hw : wdOk wd) (hn : n < (nodesOf wd).length) : (nGet (nodesOf wd) n).take ((nGet (nodesOf wd) n).length - 1) ∈ nodesOf wd := by
  rcases nodes_mem.mp (nGet_mem hn) with h | ⟨u, hu, k, k1, k2, e⟩
  · rw [h]; exact nodes_mem.mpr (Or.inl rfl)
  · rw [e, List.length_take, Nat.min_eq_left k2, List.take_take, Nat.min_eq_left (by omega)]
    by_cases h1 : k = 1
    · rw [h1]; exact nodes_mem.mpr (Or.inl (by simp))
    · exact nodes_mem.mpr (Or.inr ⟨u, hu, k - 1, by omega, by omega, rfl⟩)
theorem paI_of {wd : Nat → List Nat} {n : Nat} (hw : wdOk wd) (hn : n < (nodesOf wd).length) (h0 : n ≠ 0) : oM (nodeIx (nodesOf wd) ((nGet (nodesOf wd) n).take ((nGet (nodesOf wd) n).length - 1))) = paI (nodesOf wd) n := by
  obtain ⟨k, hk⟩ := nodeIx_of (nGet_par hw hn)
  unfold paI auPa
  rw [if_neg h0, hk]; rfl
theorem tkR_in {f : Nat → Int32} {a : List Nat} {k : Nat} (h : k < a.length) : tkR f a a.length k = nI (a.getD k 0) := if_pos h
theorem getD_app {a : List Nat} {l k : Nat} : (a ++ [l]).getD k 0 = if k < a.length then a.getD k 0 else if k = a.length then l else 0 := by
  rw [List.getD_eq_getElem?_getD, List.getD_eq_getElem?_getD]
  by_cases h : k < a.length
  · rw [if_pos h, List.getElem?_append_left h]
  · rw [if_neg h, List.getElem?_append_right (by omega)]
    by_cases h2 : k = a.length
    · rw [if_pos h2, h2, Nat.sub_self]; rfl
    · rw [if_neg h2, show k - a.length = (k - a.length - 1) + 1 by omega]; rfl
section MLays
variable {w : jx_W} {q : Nat} {c : Nat → Int32} {r : Nat → Nat → Int32} {K : jx_Q} {wd : Nat → List Nat}
theorem f_lay_set {n : Nat} {R Pa Fa X : Nat → Int32} {S : Nat → Int32} (hw : wdOk wd) (hW : PSw (r 0) wd) (hM : MNd c r (nodesOf wd)) (hn : n < (nodesOf wd).length) (hK : zwp n_M_lays 11 [(0, .ref q), (1, .int (nI n))] [] 0 0 (mw w q c (r7w r (upd S n (nI (setK wd (nGet (nodesOf wd) n) 6))) R Pa Fa X)) K) : ∀ (m v : Nat), v + m = 6 → zwp n_M_lays 8 [(0, .ref q), (1, .int (nI n)), (2, .int (nI v))] [] 0 0 (mw w q c (r7w r (upd S n (nI (setK wd (nGet (nodesOf wd) n) v))) R Pa Fa X)) K := by
  obtain ⟨hN, h49⟩ := nodes_ok hw
  intro m
  induction m with
  | zero =>
    intro v hv
    obtain rfl : v = 6 := by omega
    exact b_M_lays_8 ⟨fun _ => hK, fun z => absurd (by decide) z⟩
  | succ m ih =>
    intro v hv
    refine b_M_lays_8 ⟨fun z => absurd ((nI_leI (a := 6) (by decide) (by omega)).mp z) (by omega), fun _ => ?_⟩
    simp only [and_assoc, exists_and_left, exists_eq_left, exists_eq_left', Option.some.injEq, Value.int.injEq, Value.ref.injEq, Value.long.injEq, true_and, and_true, exists_eq, exists_true_left, mw_ob, mw_ia0, mw_ia2, mw_ia5, mw_ia6, mw_ia7, mw_ia8, mw_ia9, mw_ia10, mw_ia11, mw_ia15, mw_ia16, mF_0, mF_1, mF_2, mF_3, mF_4, mF_5, mF_6, mF_7, mF_8, mF_9, mF_10, mF_11, mF_12, mF_13, mF_14, mF_15, mF_16, mF_len, mF_s1, mF_s3, mF_s4, mF_s12, mF_s13, mF_s14, mw_uob, mw_u0, mw_u2, mw_u5, mw_u6, mw_u7, mw_u8, mw_u9, mw_u10, mw_u11, mw_u15, mw_u16, Nat.reduceLT, r7_9]
    rw [nI_clamp (by omega)]
    refine ⟨vp_in_nI (by omega) (by decide), ?_⟩
    refine f_endsWith (N := nodesOf wd) (wd := wd) hN h49 hM hn (by omega) hw hW rfl rfl ?_
    simp only [and_assoc, exists_and_left, exists_eq_left, exists_eq_left', Option.some.injEq, Value.int.injEq, Value.ref.injEq, Value.long.injEq, true_and, and_true, exists_eq, exists_true_left, mw_ob, mw_ia0, mw_ia2, mw_ia5, mw_ia6, mw_ia7, mw_ia8, mw_ia9, mw_ia10, mw_ia11, mw_ia15, mw_ia16, mF_0, mF_1, mF_2, mF_3, mF_4, mF_5, mF_6, mF_7, mF_8, mF_9, mF_10, mF_11, mF_12, mF_13, mF_14, mF_15, mF_16, mF_len, mF_s1, mF_s3, mF_s4, mF_s12, mF_s13, mF_s14, mw_uob, mw_u0, mw_u2, mw_u5, mw_u6, mw_u7, mw_u8, mw_u9, mw_u10, mw_u11, mw_u15, mw_u16, Nat.reduceLT, rup_s, rup_rup]
    have es : setK wd (nGet (nodesOf wd) n) (v + 1) = setK wd (nGet (nodesOf wd) n) v ||| (if endsW (wd v) (nGet (nodesOf wd) n) then 2 ^ v else 0) := rfl
    have eu : upd S n (nI (setK wd (nGet (nodesOf wd) n) v)) n = nI (setK wd (nGet (nodesOf wd) n) v) := if_pos rfl
    have go : ∀ y : Int32, y = nI (if endsW (wd v) (nGet (nodesOf wd) n) then 2 ^ v else 0) → zwp n_M_lays 10 [(0, .ref q), (1, .int (nI n)), (2, .int (nI v))] [.int y, .int (upd S n (nI (setK wd (nGet (nodesOf wd) n) v)) n), .int (nI n), .ref (q + 7)] 0 0 (mw w q c (r7w r (upd S n (nI (setK wd (nGet (nodesOf wd) n) v))) R Pa Fa X)) K := fun y hy => by
      refine b_M_lays_10 ?_
      simp only [and_assoc, exists_and_left, exists_eq_left, exists_eq_left', Option.some.injEq, Value.int.injEq, Value.ref.injEq, Value.long.injEq, true_and, and_true, exists_eq, exists_true_left, mw_ob, mw_ia0, mw_ia2, mw_ia5, mw_ia6, mw_ia7, mw_ia8, mw_ia9, mw_ia10, mw_ia11, mw_ia15, mw_ia16, mF_0, mF_1, mF_2, mF_3, mF_4, mF_5, mF_6, mF_7, mF_8, mF_9, mF_10, mF_11, mF_12, mF_13, mF_14, mF_15, mF_16, mF_len, mF_s1, mF_s3, mF_s4, mF_s12, mF_s13, mF_s14, mw_uob, mw_u0, mw_u2, mw_u5, mw_u6, mw_u7, mw_u8, mw_u9, mw_u10, mw_u11, mw_u15, mw_u16, Nat.reduceLT, r7_9, r7_u9]
      rw [eu, hy, nI_or, ← es, nI_clamp (by omega), upd_upd, nI_1]
      exact ⟨vp_in_nI (by omega) (by decide), ih (v + 1) (by omega)⟩
    cases he : endsW (wd v) (nGet (nodesOf wd) n) with
    | true => exact ⟨fun z => absurd z (by decide), fun _ => go _ (by rw [he, if_pos rfl, nI_pow v (by omega)])⟩
    | false => exact ⟨fun _ => b_M_lays_9 (go _ (by rw [he]; rfl)), fun z => absurd rfl z⟩
theorem f_lay_next {n : Nat} {S R Pa Fa X : Nat → Int32} (hw : wdOk wd) (hM : MNd c r (nodesOf wd)) (hn : n < (nodesOf wd).length) (hR : ∀ k, k < (nGet (nodesOf wd) n).length → R k = nI ((nGet (nodesOf wd) n).getD k 0)) (hK : ∀ R' X', (∀ l, l < 26 → X' (26 * n + l) = nI (auNx (nodesOf wd) n l)) → (∀ j, j < 26 * n → X' j = X j) → zwp n_M_lays 17 [(0, .ref q), (1, .int (nI n))] [] 0 0 (mw w q c (r7w r S R' Pa Fa X')) K) : ∀ (m l : Nat), l + m = 26 → ∀ R' X', (∀ k, k < (nGet (nodesOf wd) n).length → R' k = nI ((nGet (nodesOf wd) n).getD k 0)) → (∀ i, i < l → X' (26 * n + i) = nI (auNx (nodesOf wd) n i)) → (∀ j, j < 26 * n → X' j = X j) → zwp n_M_lays 16 [(0, .ref q), (1, .int (nI n)), (2, .int (nI l))] [] 0 0 (mw w q c (r7w r S R' Pa Fa X')) K := by
  obtain ⟨hN, h49⟩ := nodes_ok hw
  obtain ⟨no, n8⟩ := hN.2.1 _ (nGet_mem hn)
  intro m
  induction m with
  | zero =>
    intro l hl R' X' h1 h2 h3
    obtain rfl : l = 26 := by omega
    exact b_M_lays_16 ⟨fun _ => hK R' X' h2 h3, fun z => absurd (by decide) z⟩
  | succ m ih =>
    intro l hl R' X' h1 h2 h3
    refine b_M_lays_16 ⟨fun z => absurd ((nI_leI (a := 26) (by decide) (by omega)).mp z) (by omega), fun _ => ?_⟩
    simp only [and_assoc, exists_and_left, exists_eq_left, exists_eq_left', Option.some.injEq, Value.int.injEq, Value.ref.injEq, Value.long.injEq, true_and, and_true, exists_eq, exists_true_left, mw_ob, mw_ia0, mw_ia2, mw_ia5, mw_ia6, mw_ia7, mw_ia8, mw_ia9, mw_ia10, mw_ia11, mw_ia15, mw_ia16, mF_0, mF_1, mF_2, mF_3, mF_4, mF_5, mF_6, mF_7, mF_8, mF_9, mF_10, mF_11, mF_12, mF_13, mF_14, mF_15, mF_16, mF_len, mF_s1, mF_s3, mF_s4, mF_s12, mF_s13, mF_s14, mw_uob, mw_u0, mw_u2, mw_u5, mw_u6, mw_u7, mw_u8, mw_u9, mw_u10, mw_u11, mw_u15, mw_u16, Nat.reduceLT, r7_11, r7_5, r7_u11, r7_10]
    rw [nI_clamp (by omega), (hM.2 n hn).1, nI_clamp (by omega), nI_1]
    refine ⟨vp_in_nI (by omega) (by decide), vp_in_nI (by omega) (by decide), vp_in_nI (by omega) (by decide), ?_⟩
    refine f_longest (N := nodesOf wd) (x := nGet (nodesOf wd) n ++ [l]) (mo := 8) hN h49 hM (by rw [List.length_append]; show (nGet (nodesOf wd) n).length + 1 ≤ 9; omega) (by decide) (fun k hk => ?_) (fun y hy => ?_) (by rw [List.length_append]; rfl) rfl ?_
    · rw [List.length_append] at hk
      have hk : k < (nGet (nodesOf wd) n).length + 1 := hk
      rw [r7_11, getD_app]
      by_cases e : k = (nGet (nodesOf wd) n).length
      · rw [if_neg (by omega), if_pos e]
        exact if_pos e
      · rw [if_pos (by omega)]
        exact (if_neg e).trans (h1 k (by omega))
    · rcases List.mem_append.mp hy with hy | hy
      · exact no y hy
      · rw [List.mem_singleton.mp hy]; omega
    · simp only [and_assoc, exists_and_left, exists_eq_left, exists_eq_left', Option.some.injEq, Value.int.injEq, Value.ref.injEq, Value.long.injEq, true_and, and_true, exists_eq, exists_true_left, mw_ob, mw_ia0, mw_ia2, mw_ia5, mw_ia6, mw_ia7, mw_ia8, mw_ia9, mw_ia10, mw_ia11, mw_ia15, mw_ia16, mF_0, mF_1, mF_2, mF_3, mF_4, mF_5, mF_6, mF_7, mF_8, mF_9, mF_10, mF_11, mF_12, mF_13, mF_14, mF_15, mF_16, mF_len, mF_s1, mF_s3, mF_s4, mF_s12, mF_s13, mF_s14, mw_uob, mw_u0, mw_u2, mw_u5, mw_u6, mw_u7, mw_u8, mw_u9, mw_u10, mw_u11, mw_u15, mw_u16, Nat.reduceLT, r7_10, r7_u10]
      rw [lit_26, pk_mul, nI_add, nI_clamp (by omega), nI_1]
      refine ⟨vp_in_nI (by omega) (by decide), ih (l + 1) (by omega) _ _ (fun k hk => (if_neg (by omega)).trans (h1 k hk)) (fun i hi => ?_) (fun j hj => (if_neg (by omega)).trans (h3 j hj))⟩
      by_cases e : i = l
      · rw [e]
        refine (if_pos rfl).trans ?_
        unfold auNx
        rw [List.length_append]; rfl
      · exact (if_neg (by omega)).trans (h2 i (by omega))
theorem f_lay2 (hw : wdOk wd) (hW : PSw (r 0) wd) (hM : MNd c r (nodesOf wd)) (hK : ∀ r', MAu c r' wd → (∀ j, j < 7 ∨ 12 ≤ j → r' j = r j) → K (mw w q c r') none) : ∀ (m n : Nat), n + m = (nodesOf wd).length → ∀ S R Pa Fa X, (∀ k, k < n → rowOk wd (nodesOf wd) Pa Fa S X k) → zwp n_M_lays 7 [(0, .ref q), (1, .int (nI n))] [] 0 0 (mw w q c (r7w r S R Pa Fa X)) K := by
  obtain ⟨hN, h49⟩ := nodes_ok hw
  intro m
  induction m with
  | zero =>
    intro n hn S R Pa Fa X h
    refine b_M_lays_7 ?_
    simp only [and_assoc, exists_and_left, exists_eq_left, exists_eq_left', Option.some.injEq, Value.int.injEq, Value.ref.injEq, Value.long.injEq, true_and, and_true, exists_eq, exists_true_left, mw_ob, mw_ia0, mw_ia2, mw_ia5, mw_ia6, mw_ia7, mw_ia8, mw_ia9, mw_ia10, mw_ia11, mw_ia15, mw_ia16, mF_0, mF_1, mF_2, mF_3, mF_4, mF_5, mF_6, mF_7, mF_8, mF_9, mF_10, mF_11, mF_12, mF_13, mF_14, mF_15, mF_16, mF_len, mF_s1, mF_s3, mF_s4, mF_s12, mF_s13, mF_s14, mw_uob, mw_u0, mw_u2, mw_u5, mw_u6, mw_u7, mw_u8, mw_u9, mw_u10, mw_u11, mw_u15, mw_u16, Nat.reduceLT, rup_s, rup_rup]
    rw [hM.1]
    refine ⟨fun _ => b_M_lays_18 (hK _ ⟨hM, fun k hk => h k (by omega)⟩ (fun j hj => ?_)), fun z => absurd ((nI_leI (by omega) (by omega)).mpr (by omega)) z⟩
    unfold r7w
    rw [if_neg (by omega), if_neg (by omega), if_neg (by omega), if_neg (by omega), if_neg (by omega)]
  | succ m ih =>
    intro n hn S R Pa Fa X h
    have hlt : n < (nodesOf wd).length := by omega
    obtain ⟨no, n8⟩ := hN.2.1 _ (nGet_mem hlt)
    have fin : ∀ (Pa' Fa' R' : Nat → Int32), (∀ k, k < (nGet (nodesOf wd) n).length → R' k = nI ((nGet (nodesOf wd) n).getD k 0)) → Pa' = upd Pa n (paI (nodesOf wd) n) → Fa' = upd Fa n (faI (nodesOf wd) n) → zwp n_M_lays 16 [(0, .ref q), (1, .int (nI n)), (2, .int 0)] [] 0 0 (mw w q c (r7w r (upd S n (nI (setK wd (nGet (nodesOf wd) n) 6))) R' Pa' Fa' X)) K := fun Pa' Fa' R' hR' e1 e2 => by
      refine f_lay_next (X := X) hw hM hlt hR' (fun R2 X2 x1 x2 => b_M_lays_17 ?_) 26 0 rfl R' X hR' (fun i hi => absurd hi (Nat.not_lt_zero _)) (fun _ _ => rfl)
      rw [nI_1]
      refine ih (n + 1) (by omega) _ _ _ _ _ (fun k hk => ?_)
      subst e1 e2
      by_cases e : k = n
      · subst e
        exact ⟨if_pos rfl, if_pos rfl, if_pos rfl, x1⟩
      · obtain ⟨g1, g2, g3, g4⟩ := h k (by omega)
        exact ⟨(if_neg e).trans g1, (if_neg e).trans g2, (if_neg e).trans g3, fun l hl => (x2 _ (by omega)).trans (g4 l hl)⟩
    have hR1 : ∀ k, k < (nGet (nodesOf wd) n).length → tkR R (nGet (nodesOf wd) n) (nGet (nodesOf wd) n).length k = nI ((nGet (nodesOf wd) n).getD k 0) := fun k hk => tkR_in hk
    have b15 : ∀ (Pa' : Nat → Int32) (y : Int32), Pa' = upd Pa n (paI (nodesOf wd) n) → y = faI (nodesOf wd) n → zwp n_M_lays 15 [(0, .ref q), (1, .int (nI n))] [.int y, .int (nI n), .ref (q + 6)] 0 0 (mw w q c (r7w r (upd S n (nI (setK wd (nGet (nodesOf wd) n) 6))) (tkR R (nGet (nodesOf wd) n) (nGet (nodesOf wd) n).length) Pa' Fa X)) K := fun Pa' y e1 e2 => by
      refine b_M_lays_15 ?_
      simp only [and_assoc, exists_and_left, exists_eq_left, exists_eq_left', Option.some.injEq, Value.int.injEq, Value.ref.injEq, Value.long.injEq, true_and, and_true, exists_eq, exists_true_left, mw_ob, mw_ia0, mw_ia2, mw_ia5, mw_ia6, mw_ia7, mw_ia8, mw_ia9, mw_ia10, mw_ia11, mw_ia15, mw_ia16, mF_0, mF_1, mF_2, mF_3, mF_4, mF_5, mF_6, mF_7, mF_8, mF_9, mF_10, mF_11, mF_12, mF_13, mF_14, mF_15, mF_16, mF_len, mF_s1, mF_s3, mF_s4, mF_s12, mF_s13, mF_s14, mw_uob, mw_u0, mw_u2, mw_u5, mw_u6, mw_u7, mw_u8, mw_u9, mw_u10, mw_u11, mw_u15, mw_u16, Nat.reduceLT, r7_8, r7_u8]
      rw [nI_clamp (by omega)]
      exact ⟨vp_in_nI (by omega) (by decide), fin _ _ _ hR1 e1 (by rw [e2])⟩
    have b13 : ∀ (y : Int32), y = paI (nodesOf wd) n → zwp n_M_lays 13 [(0, .ref q), (1, .int (nI n))] [.int y, .int (nI n), .ref (q + 5)] 0 0 (mw w q c (r7w r (upd S n (nI (setK wd (nGet (nodesOf wd) n) 6))) (tkR R (nGet (nodesOf wd) n) (nGet (nodesOf wd) n).length) Pa Fa X)) K := fun y e1 => by
      refine b_M_lays_13 ?_
      simp only [and_assoc, exists_and_left, exists_eq_left, exists_eq_left', Option.some.injEq, Value.int.injEq, Value.ref.injEq, Value.long.injEq, true_and, and_true, exists_eq, exists_true_left, mw_ob, mw_ia0, mw_ia2, mw_ia5, mw_ia6, mw_ia7, mw_ia8, mw_ia9, mw_ia10, mw_ia11, mw_ia15, mw_ia16, mF_0, mF_1, mF_2, mF_3, mF_4, mF_5, mF_6, mF_7, mF_8, mF_9, mF_10, mF_11, mF_12, mF_13, mF_14, mF_15, mF_16, mF_len, mF_s1, mF_s3, mF_s4, mF_s12, mF_s13, mF_s14, mw_uob, mw_u0, mw_u2, mw_u5, mw_u6, mw_u7, mw_u8, mw_u9, mw_u10, mw_u11, mw_u15, mw_u16, Nat.reduceLT, r7_7, r7_u7]
      rw [nI_clamp (by omega)]
      refine ⟨vp_in_nI (by omega) (by decide), fun z => b_M_lays_14 ?_, fun z => b15 _ _ (by rw [e1]) ?_⟩
      · have z : ¬ n = 0 := fun t => z (by rw [t]; rfl)
        have np : (nGet (nodesOf wd) n).length ≠ 0 := fun t => nGet_pos hN hlt (by omega) (List.length_eq_zero_iff.mp t)
        simp only [and_assoc, exists_and_left, exists_eq_left, exists_eq_left', Option.some.injEq, Value.int.injEq, Value.ref.injEq, Value.long.injEq, true_and, and_true, exists_eq, exists_true_left, mw_ob, mw_ia0, mw_ia2, mw_ia5, mw_ia6, mw_ia7, mw_ia8, mw_ia9, mw_ia10, mw_ia11, mw_ia15, mw_ia16, mF_0, mF_1, mF_2, mF_3, mF_4, mF_5, mF_6, mF_7, mF_8, mF_9, mF_10, mF_11, mF_12, mF_13, mF_14, mF_15, mF_16, mF_len, mF_s1, mF_s3, mF_s4, mF_s12, mF_s13, mF_s14, mw_uob, mw_u0, mw_u2, mw_u5, mw_u6, mw_u7, mw_u8, mw_u9, mw_u10, mw_u11, mw_u15, mw_u16, Nat.reduceLT, r7_5]
        rw [nI_clamp (by omega), (hM.2 n hlt).1, lit_1, pk_sub (by omega)]
        refine ⟨vp_in_nI (by omega) (by decide), vp_in_nI (by omega) (by decide), ?_⟩
        refine f_longest (N := nodesOf wd) (x := nGet (nodesOf wd) n) (mo := (nGet (nodesOf wd) n).length - 1) hN h49 hM (by omega) (by omega) (fun k hk => hR1 k hk) no rfl rfl ?_
        simp only [and_assoc, exists_and_left, exists_eq_left, exists_eq_left', Option.some.injEq, Value.int.injEq, Value.ref.injEq, Value.long.injEq, true_and, and_true, exists_eq, exists_true_left, mw_ob, mw_ia0, mw_ia2, mw_ia5, mw_ia6, mw_ia7, mw_ia8, mw_ia9, mw_ia10, mw_ia11, mw_ia15, mw_ia16, mF_0, mF_1, mF_2, mF_3, mF_4, mF_5, mF_6, mF_7, mF_8, mF_9, mF_10, mF_11, mF_12, mF_13, mF_14, mF_15, mF_16, mF_len, mF_s1, mF_s3, mF_s4, mF_s12, mF_s13, mF_s14, mw_uob, mw_u0, mw_u2, mw_u5, mw_u6, mw_u7, mw_u8, mw_u9, mw_u10, mw_u11, mw_u15, mw_u16, Nat.reduceLT, rup_s, rup_rup]
        refine b15 _ _ (by rw [e1]) ?_
        rw [Nat.min_eq_left (by omega)]
        unfold faI
        rw [if_neg z]; rfl
      · have z : n = 0 := (nI_eq (by omega) (b := 0) (by decide)).mp z
        unfold faI
        rw [if_pos z]
    refine b_M_lays_7 ?_
    simp only [and_assoc, exists_and_left, exists_eq_left, exists_eq_left', Option.some.injEq, Value.int.injEq, Value.ref.injEq, Value.long.injEq, true_and, and_true, exists_eq, exists_true_left, mw_ob, mw_ia0, mw_ia2, mw_ia5, mw_ia6, mw_ia7, mw_ia8, mw_ia9, mw_ia10, mw_ia11, mw_ia15, mw_ia16, mF_0, mF_1, mF_2, mF_3, mF_4, mF_5, mF_6, mF_7, mF_8, mF_9, mF_10, mF_11, mF_12, mF_13, mF_14, mF_15, mF_16, mF_len, mF_s1, mF_s3, mF_s4, mF_s12, mF_s13, mF_s14, mw_uob, mw_u0, mw_u2, mw_u5, mw_u6, mw_u7, mw_u8, mw_u9, mw_u10, mw_u11, mw_u15, mw_u16, Nat.reduceLT, r7_9, r7_u9]
    rw [hM.1, nI_clamp (by omega)]
    refine ⟨fun z => absurd ((nI_leI (by omega) (by omega)).mp z) (by omega), fun _ => ⟨vp_in_nI (by omega) (by decide), ?_⟩⟩
    refine f_lay_set (wd := wd) (S := S) hw hW hM hlt (b_M_lays_11 ?_) 6 0 rfl
    simp only [and_assoc, exists_and_left, exists_eq_left, exists_eq_left', Option.some.injEq, Value.int.injEq, Value.ref.injEq, Value.long.injEq, true_and, and_true, exists_eq, exists_true_left, mw_ob, mw_ia0, mw_ia2, mw_ia5, mw_ia6, mw_ia7, mw_ia8, mw_ia9, mw_ia10, mw_ia11, mw_ia15, mw_ia16, mF_0, mF_1, mF_2, mF_3, mF_4, mF_5, mF_6, mF_7, mF_8, mF_9, mF_10, mF_11, mF_12, mF_13, mF_14, mF_15, mF_16, mF_len, mF_s1, mF_s3, mF_s4, mF_s12, mF_s13, mF_s14, mw_uob, mw_u0, mw_u2, mw_u5, mw_u6, mw_u7, mw_u8, mw_u9, mw_u10, mw_u11, mw_u15, mw_u16, Nat.reduceLT, rup_s, rup_rup]
    refine f_takes (N := nodesOf wd) hN h49 hM hlt rfl ?_
    rw [r7_11, r7_u11]
    simp only [and_assoc, exists_and_left, exists_eq_left, exists_eq_left', Option.some.injEq, Value.int.injEq, Value.ref.injEq, Value.long.injEq, true_and, and_true, exists_eq, exists_true_left, mw_ob, mw_ia0, mw_ia2, mw_ia5, mw_ia6, mw_ia7, mw_ia8, mw_ia9, mw_ia10, mw_ia11, mw_ia15, mw_ia16, mF_0, mF_1, mF_2, mF_3, mF_4, mF_5, mF_6, mF_7, mF_8, mF_9, mF_10, mF_11, mF_12, mF_13, mF_14, mF_15, mF_16, mF_len, mF_s1, mF_s3, mF_s4, mF_s12, mF_s13, mF_s14, mw_uob, mw_u0, mw_u2, mw_u5, mw_u6, mw_u7, mw_u8, mw_u9, mw_u10, mw_u11, mw_u15, mw_u16, Nat.reduceLT, rup_s, rup_rup]
    refine ⟨fun z => b_M_lays_12 ?_, fun z => b13 _ ?_⟩
    · have z : ¬ n = 0 := fun t => z (by rw [t]; rfl)
      have np : (nGet (nodesOf wd) n).length ≠ 0 := fun t => nGet_pos hN hlt (by omega) (List.length_eq_zero_iff.mp t)
      have hl : ((nGet (nodesOf wd) n).take ((nGet (nodesOf wd) n).length - 1)).length = (nGet (nodesOf wd) n).length - 1 := by rw [List.length_take]; omega
      simp only [and_assoc, exists_and_left, exists_eq_left, exists_eq_left', Option.some.injEq, Value.int.injEq, Value.ref.injEq, Value.long.injEq, true_and, and_true, exists_eq, exists_true_left, mw_ob, mw_ia0, mw_ia2, mw_ia5, mw_ia6, mw_ia7, mw_ia8, mw_ia9, mw_ia10, mw_ia11, mw_ia15, mw_ia16, mF_0, mF_1, mF_2, mF_3, mF_4, mF_5, mF_6, mF_7, mF_8, mF_9, mF_10, mF_11, mF_12, mF_13, mF_14, mF_15, mF_16, mF_len, mF_s1, mF_s3, mF_s4, mF_s12, mF_s13, mF_s14, mw_uob, mw_u0, mw_u2, mw_u5, mw_u6, mw_u7, mw_u8, mw_u9, mw_u10, mw_u11, mw_u15, mw_u16, Nat.reduceLT, r7_5]
      rw [nI_clamp (by omega), (hM.2 n hlt).1, lit_1, pk_sub (by omega)]
      refine ⟨vp_in_nI (by omega) (by decide), ?_⟩
      refine f_nodeOf (N := nodesOf wd) (fr := 0) (y := (nGet (nodesOf wd) n).take ((nGet (nodesOf wd) n).length - 1)) hN h49 hM (by rw [hl]; omega) (by rw [hl]; omega) (fun i hi => ?_) (lOk_take no) rfl (by rw [hl]) ?_
      · rw [hl] at hi
        rw [r7_11, Nat.zero_add, hR1 i (by omega), List.getD_eq_getElem?_getD, List.getD_eq_getElem?_getD, List.getElem?_take, if_pos hi]
      · simp only [and_assoc, exists_and_left, exists_eq_left, exists_eq_left', Option.some.injEq, Value.int.injEq, Value.ref.injEq, Value.long.injEq, true_and, and_true, exists_eq, exists_true_left, mw_ob, mw_ia0, mw_ia2, mw_ia5, mw_ia6, mw_ia7, mw_ia8, mw_ia9, mw_ia10, mw_ia11, mw_ia15, mw_ia16, mF_0, mF_1, mF_2, mF_3, mF_4, mF_5, mF_6, mF_7, mF_8, mF_9, mF_10, mF_11, mF_12, mF_13, mF_14, mF_15, mF_16, mF_len, mF_s1, mF_s3, mF_s4, mF_s12, mF_s13, mF_s14, mw_uob, mw_u0, mw_u2, mw_u5, mw_u6, mw_u7, mw_u8, mw_u9, mw_u10, mw_u11, mw_u15, mw_u16, Nat.reduceLT, rup_s, rup_rup]
        exact b13 _ (paI_of hw hlt z)
    · have z : n = 0 := (nI_eq (by omega) (b := 0) (by decide)).mp z
      unfold paI
      rw [if_pos z]
theorem f_lay_row {v n : Nat} {R0 : Nat → Int32} (hv : v < 6) (hW : PSw (r 0) wd) (hn : n ≤ (wd v).length) (hK : ∀ R, (∀ k, k < n → R k = nI ((wd v).getD k 0)) → zwp n_M_lays 4 [(0, .ref q), (1, .int (nI v)), (2, .int (nI n))] [] 0 0 (mw w q c (rup r 11 R)) K) : ∀ (m i : Nat), i + m = n → ∀ R, (∀ k, k < i → R k = nI ((wd v).getD k 0)) → zwp n_M_lays 3 [(0, .ref q), (1, .int (nI v)), (2, .int (nI n)), (3, .int (nI i))] [] 0 0 (mw w q c (rup r 11 R)) K := by
  obtain ⟨w1, w2, w3⟩ := hW v hv
  intro m
  induction m with
  | zero =>
    intro i hi R hR
    obtain rfl : i = n := by omega
    exact b_M_lays_3 ⟨fun _ => hK R hR, fun z => absurd (Int32.le_refl _) z⟩
  | succ m ih =>
    intro i hi R hR
    refine b_M_lays_3 ⟨fun z => absurd ((nI_leI (by omega) (by omega)).mp z) (by omega), fun _ => ?_⟩
    simp only [and_assoc, exists_and_left, exists_eq_left, exists_eq_left', Option.some.injEq, Value.int.injEq, Value.ref.injEq, Value.long.injEq, true_and, and_true, exists_eq, exists_true_left, mw_ob, mw_ia0, mw_ia2, mw_ia5, mw_ia6, mw_ia7, mw_ia8, mw_ia9, mw_ia10, mw_ia11, mw_ia15, mw_ia16, mF_0, mF_1, mF_2, mF_3, mF_4, mF_5, mF_6, mF_7, mF_8, mF_9, mF_10, mF_11, mF_12, mF_13, mF_14, mF_15, mF_16, mF_len, mF_s1, mF_s3, mF_s4, mF_s12, mF_s13, mF_s14, mw_uob, mw_u0, mw_u2, mw_u5, mw_u6, mw_u7, mw_u8, mw_u9, mw_u10, mw_u11, mw_u15, mw_u16, Nat.reduceLT, rup_s, rup_rup]
    refine s_M_letterOf (i := v) (j := i) rfl rfl hv (by omega) ?_
    simp only [and_assoc, exists_and_left, exists_eq_left, exists_eq_left', Option.some.injEq, Value.int.injEq, Value.ref.injEq, Value.long.injEq, true_and, and_true, exists_eq, exists_true_left, mw_ob, mw_ia0, mw_ia2, mw_ia5, mw_ia6, mw_ia7, mw_ia8, mw_ia9, mw_ia10, mw_ia11, mw_ia15, mw_ia16, mF_0, mF_1, mF_2, mF_3, mF_4, mF_5, mF_6, mF_7, mF_8, mF_9, mF_10, mF_11, mF_12, mF_13, mF_14, mF_15, mF_16, mF_len, mF_s1, mF_s3, mF_s4, mF_s12, mF_s13, mF_s14, mw_uob, mw_u0, mw_u2, mw_u5, mw_u6, mw_u7, mw_u8, mw_u9, mw_u10, mw_u11, mw_u15, mw_u16, Nat.reduceLT, rup_s, rup_rup]
    rw [rup_n (j := 0) (by decide), w3 i (by omega), nI_clamp (by omega), nI_1]
    refine ⟨vp_in_nI (by omega) (by decide), ih (i + 1) (by omega) _ (fun k hk => ?_)⟩
    by_cases e : k = i
    · rw [e]; exact if_pos rfl
    · exact (if_neg e).trans (hR k (by omega))
theorem f_lay_word {v : Nat} (hw : wdOk wd) (hv : v < 6) (hK : ∀ c' r', MNd c' r' (nodesK wd (v + 1)) → (∀ j, j ≠ 5 → j ≠ 6 → j ≠ 11 → r' j = r j) → (∀ j, j ≠ 4 → c' j = c j) → zwp n_M_lays 5 [(0, .ref q), (1, .int (nI v))] [] 0 0 (mw w q c' r') K) (hW : PSw (r 0) wd) : ∀ (m n : Nat), n + m = (wd v).length → ∀ c' r', MNd c' r' (insW (wd v) (nodesK wd v) n) → (∀ j, j ≠ 5 → j ≠ 6 → j ≠ 11 → r' j = r j) → (∀ j, j ≠ 4 → c' j = c j) → zwp n_M_lays 2 [(0, .ref q), (1, .int (nI v)), (2, .int (nI (n + 1)))] [] 0 0 (mw w q c' r') K := by
  obtain ⟨w1, w2, w3⟩ := hW v hv
  obtain ⟨v1, v2⟩ := hw v hv
  obtain ⟨hN, hl⟩ := nodesK_ok hw v (by omega)
  intro m
  induction m with
  | zero =>
    intro n hn c' r' h1 h2 h3
    obtain rfl : n = (wd v).length := by omega
    refine b_M_lays_2 ?_
    simp only [and_assoc, exists_and_left, exists_eq_left, exists_eq_left', Option.some.injEq, Value.int.injEq, Value.ref.injEq, Value.long.injEq, true_and, and_true, exists_eq, exists_true_left, mw_ob, mw_ia0, mw_ia2, mw_ia5, mw_ia6, mw_ia7, mw_ia8, mw_ia9, mw_ia10, mw_ia11, mw_ia15, mw_ia16, mF_0, mF_1, mF_2, mF_3, mF_4, mF_5, mF_6, mF_7, mF_8, mF_9, mF_10, mF_11, mF_12, mF_13, mF_14, mF_15, mF_16, mF_len, mF_s1, mF_s3, mF_s4, mF_s12, mF_s13, mF_s14, mw_uob, mw_u0, mw_u2, mw_u5, mw_u6, mw_u7, mw_u8, mw_u9, mw_u10, mw_u11, mw_u15, mw_u16, Nat.reduceLT, rup_s, rup_rup]
    refine s_M_wordLength rfl hv ?_
    simp only [and_assoc, exists_and_left, exists_eq_left, exists_eq_left', Option.some.injEq, Value.int.injEq, Value.ref.injEq, Value.long.injEq, true_and, and_true, exists_eq, exists_true_left, mw_ob, mw_ia0, mw_ia2, mw_ia5, mw_ia6, mw_ia7, mw_ia8, mw_ia9, mw_ia10, mw_ia11, mw_ia15, mw_ia16, mF_0, mF_1, mF_2, mF_3, mF_4, mF_5, mF_6, mF_7, mF_8, mF_9, mF_10, mF_11, mF_12, mF_13, mF_14, mF_15, mF_16, mF_len, mF_s1, mF_s3, mF_s4, mF_s12, mF_s13, mF_s14, mw_uob, mw_u0, mw_u2, mw_u5, mw_u6, mw_u7, mw_u8, mw_u9, mw_u10, mw_u11, mw_u15, mw_u16, Nat.reduceLT, rup_s, rup_rup]
    rw [h2 0 (by decide) (by decide) (by decide), w1]
    exact ⟨fun _ => hK c' r' h1 h2 h3, fun z => absurd ((nI_ltI (by omega) (by omega)).mpr (by omega)) z⟩
  | succ m ih =>
    intro n hn c' r' h1 h2 h3
    refine b_M_lays_2 ?_
    simp only [and_assoc, exists_and_left, exists_eq_left, exists_eq_left', Option.some.injEq, Value.int.injEq, Value.ref.injEq, Value.long.injEq, true_and, and_true, exists_eq, exists_true_left, mw_ob, mw_ia0, mw_ia2, mw_ia5, mw_ia6, mw_ia7, mw_ia8, mw_ia9, mw_ia10, mw_ia11, mw_ia15, mw_ia16, mF_0, mF_1, mF_2, mF_3, mF_4, mF_5, mF_6, mF_7, mF_8, mF_9, mF_10, mF_11, mF_12, mF_13, mF_14, mF_15, mF_16, mF_len, mF_s1, mF_s3, mF_s4, mF_s12, mF_s13, mF_s14, mw_uob, mw_u0, mw_u2, mw_u5, mw_u6, mw_u7, mw_u8, mw_u9, mw_u10, mw_u11, mw_u15, mw_u16, Nat.reduceLT, rup_s, rup_rup]
    refine s_M_wordLength rfl hv ?_
    simp only [and_assoc, exists_and_left, exists_eq_left, exists_eq_left', Option.some.injEq, Value.int.injEq, Value.ref.injEq, Value.long.injEq, true_and, and_true, exists_eq, exists_true_left, mw_ob, mw_ia0, mw_ia2, mw_ia5, mw_ia6, mw_ia7, mw_ia8, mw_ia9, mw_ia10, mw_ia11, mw_ia15, mw_ia16, mF_0, mF_1, mF_2, mF_3, mF_4, mF_5, mF_6, mF_7, mF_8, mF_9, mF_10, mF_11, mF_12, mF_13, mF_14, mF_15, mF_16, mF_len, mF_s1, mF_s3, mF_s4, mF_s12, mF_s13, mF_s14, mw_uob, mw_u0, mw_u2, mw_u5, mw_u6, mw_u7, mw_u8, mw_u9, mw_u10, mw_u11, mw_u15, mw_u16, Nat.reduceLT, rup_s, rup_rup]
    rw [h2 0 (by decide) (by decide) (by decide), w1]
    refine ⟨fun z => absurd ((nI_ltI (by omega) (by omega)).mp z) (by omega), fun _ => ?_⟩
    have hW' : PSw (r' 0) wd := by rw [h2 0 (by decide) (by decide) (by decide)]; exact hW
    have hlen := insW_len (u := wd v) (N := nodesK wd v) n
    have hl2 : ((wd v).take (n + 1)).length = n + 1 := by rw [List.length_take]; omega
    have h3b := f_lay_row (w := w) (q := q) (c := c') (r := r') (K := K) (wd := wd) (R0 := r' 11) (n := n + 1) hv hW' (by omega) (fun R hR => b_M_lays_4 (by
      simp only [and_assoc, exists_and_left, exists_eq_left, exists_eq_left', Option.some.injEq, Value.int.injEq, Value.ref.injEq, Value.long.injEq, true_and, and_true, exists_eq, exists_true_left, mw_ob, mw_ia0, mw_ia2, mw_ia5, mw_ia6, mw_ia7, mw_ia8, mw_ia9, mw_ia10, mw_ia11, mw_ia15, mw_ia16, mF_0, mF_1, mF_2, mF_3, mF_4, mF_5, mF_6, mF_7, mF_8, mF_9, mF_10, mF_11, mF_12, mF_13, mF_14, mF_15, mF_16, mF_len, mF_s1, mF_s3, mF_s4, mF_s12, mF_s13, mF_s14, mw_uob, mw_u0, mw_u2, mw_u5, mw_u6, mw_u7, mw_u8, mw_u9, mw_u10, mw_u11, mw_u15, mw_u16, Nat.reduceLT, rup_s, rup_rup]
      refine f_inserts (N := insW (wd v) (nodesK wd v) n) (x := (wd v).take (n + 1)) (insW_ok v2 v1 hN n) (by omega) h1 (lOk_take v2) (by rw [hl2]; omega) (fun i hi => ?_) (by rw [hl2]) (fun c2 r2 g1 g2 g3 => ?_)
      · rw [hl2] at hi
        rw [rup_s, hR i hi, List.getD_eq_getElem?_getD, List.getD_eq_getElem?_getD, List.getElem?_take, if_pos hi]
      · simp only [and_assoc, exists_and_left, exists_eq_left, exists_eq_left', Option.some.injEq, Value.int.injEq, Value.ref.injEq, Value.long.injEq, true_and, and_true, exists_eq, exists_true_left, mw_ob, mw_ia0, mw_ia2, mw_ia5, mw_ia6, mw_ia7, mw_ia8, mw_ia9, mw_ia10, mw_ia11, mw_ia15, mw_ia16, mF_0, mF_1, mF_2, mF_3, mF_4, mF_5, mF_6, mF_7, mF_8, mF_9, mF_10, mF_11, mF_12, mF_13, mF_14, mF_15, mF_16, mF_len, mF_s1, mF_s3, mF_s4, mF_s12, mF_s13, mF_s14, mw_uob, mw_u0, mw_u2, mw_u5, mw_u6, mw_u7, mw_u8, mw_u9, mw_u10, mw_u11, mw_u15, mw_u16, Nat.reduceLT, rup_s, rup_rup]
        rw [nI_1]
        exact ih (n + 1) (by omega) c2 r2 g1 (fun j a1 a2 a3 => (g2 j a1 a2).trans ((rup_n a3).trans (h2 j a1 a2 a3))) (fun j a => (g3 j a).trans (h3 j a)))) (n + 1) 0 (Nat.zero_add _) (r' 11) (fun k hk => absurd hk (Nat.not_lt_zero _))
    rw [rup_id] at h3b
    exact h3b
theorem f_lays (hw : wdOk wd) (hW : PSw (r 0) wd) (hK : ∀ c' r', MAu c' r' wd → (∀ j, j < 5 ∨ 12 ≤ j → r' j = r j) → (∀ j, j ≠ 4 → c' j = c j) → K (mw w q c' r') none) : zcall n_M_lays [.ref q] (mw w q c r) K := by
  have loop : ∀ (m v : Nat), v + m = 6 → ∀ c' r', MNd c' r' (nodesK wd v) → (∀ j, j ≠ 5 → j ≠ 6 → j ≠ 11 → r' j = r j) → (∀ j, j ≠ 4 → c' j = c j) → zwp n_M_lays 1 [(0, .ref q), (1, .int (nI v))] [] 0 0 (mw w q c' r') K := by
    intro m
    induction m with
    | zero =>
      intro v hv c' r' h1 h2 h3
      obtain rfl : v = 6 := by omega
      refine b_M_lays_1 ⟨fun _ => b_M_lays_6 ?_, fun z => absurd (by decide) z⟩
      have hW' : PSw (r' 0) wd := by rw [h2 0 (by decide) (by decide) (by decide)]; exact hW
      have h7 := f_lay2 (w := w) (q := q) (c := c') (r := r') (K := K) (wd := wd) hw hW' h1 (fun r2 g1 g2 => hK c' r2 g1 (fun j hj => (g2 j (by omega)).trans (h2 j (by omega) (by omega) (by omega))) h3) (nodesOf wd).length 0 (Nat.zero_add _) (r' 9) (r' 11) (r' 7) (r' 8) (r' 10) (fun k hk => absurd hk (Nat.not_lt_zero _))
      rw [r7_id] at h7
      exact h7
    | succ m ih =>
      intro v hv c' r' h1 h2 h3
      refine b_M_lays_1 ⟨fun z => absurd ((nI_leI (a := 6) (by decide) (by omega)).mp z) (by omega), fun _ => ?_⟩
      have hW' : PSw (r' 0) wd := by rw [h2 0 (by decide) (by decide) (by decide)]; exact hW
      refine f_lay_word (c := c') (r := r') hw (by omega) (fun c2 r2 g1 g2 g3 => b_M_lays_5 ?_) hW' (wd v).length 0 (Nat.zero_add _) c' r' h1 (fun _ _ _ _ => rfl) (fun _ _ => rfl)
      rw [nI_1]
      exact ih (v + 1) (by omega) c2 r2 g1 (fun j a1 a2 a3 => (g2 j a1 a2 a3).trans (h2 j a1 a2 a3)) (fun j a => (g3 j a).trans (h3 j a))
  refine e_M_lays (b_M_lays_0 ?_)
  simp only [and_assoc, exists_and_left, exists_eq_left, exists_eq_left', Option.some.injEq, Value.int.injEq, Value.ref.injEq, Value.long.injEq, true_and, and_true, exists_eq, exists_true_left, mw_ob, mw_ia0, mw_ia2, mw_ia5, mw_ia6, mw_ia7, mw_ia8, mw_ia9, mw_ia10, mw_ia11, mw_ia15, mw_ia16, mF_0, mF_1, mF_2, mF_3, mF_4, mF_5, mF_6, mF_7, mF_8, mF_9, mF_10, mF_11, mF_12, mF_13, mF_14, mF_15, mF_16, mF_len, mF_s1, mF_s3, mF_s4, mF_s12, mF_s13, mF_s14, mw_uob, mw_u0, mw_u2, mw_u5, mw_u6, mw_u7, mw_u8, mw_u9, mw_u10, mw_u11, mw_u15, mw_u16, Nat.reduceLT, rup_s, rup_rup]
  refine ⟨vp_in_nI (n := 0) (by decide) (by decide), loop 6 0 rfl _ _ ⟨rfl, fun n hn => ?_⟩ (fun j a1 _ _ => rup_n a1) (fun j a => if_neg a)⟩
  have hn : n < 1 := hn
  obtain rfl : n = 0 := by omega
  exact ⟨rfl, fun i hi => absurd hi (Nat.not_lt_zero _)⟩
end MLays
