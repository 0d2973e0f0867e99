/-! THE CLASS: how the automaton is built -/
/-- nodes up to n are made -/
def BIr (wd : Nat → List Nat) (n v : Nat) (y : Int32) : Prop := ∃ j m, j < n ∧ y = nI j ∧ m ≤ (wd v).length ∧ nGet (nodesOf wd) j = (wd v).take m ∧ (m < (wd v).length → ∀ i, i < (nodesOf wd).length → nGet (nodesOf wd) i = (wd v).take (m + 1) → n ≤ i)
def BIx (wd : Nat → List Nat) (n : Nat) (g : Nat → Int32) : Prop := ∀ i l, i < (nodesOf wd).length → l < 26 → (∀ j, j < (nodesOf wd).length → nGet (nodesOf wd) j = nGet (nodesOf wd) i ++ [l] → g (26 * i + l) = if j < n then nI j else 0) ∧ (nGet (nodesOf wd) i ++ [l] ∉ nodesOf wd → g (26 * i + l) = 0)
def lastL (x : List Nat) : Nat := x.getD (x.length - 1) 0
def BI (wd : Nat → List Nat) (n : Nat) (c : Nat → Int32) (r : Nat → Nat → Int32) : Prop :=
  c 0 = nI n ∧ (∀ i, i < n → r 1 i = nI (nGet (nodesOf wd) i).length ∧ r 5 i = nI (ownK wd (nGet (nodesOf wd) i) 6) ∧ (i ≠ 0 → r 2 i = nI (auPa (nodesOf wd) i) ∧ r 3 i = nI (lastL (nGet (nodesOf wd) i)))) ∧ BIx wd n (r 7) ∧ ∀ v, v < 6 → r 6 v = nI (wd v).length ∧ BIr wd n v (r 8 v)
def Ord (wd : Nat → List Nat) (n k : Nat) : Prop := n ≤ (nodesOf wd).length ∧ ∀ i, i < (nodesOf wd).length → (i < n ↔ enc (nGet (nodesOf wd) i) < k)
def ht (wd : Nat → List Nat) (x : List Nat) (u : Nat) : Prop := x.length ≤ (wd u).length ∧ (wd u).take x.length = x
theorem tk_snoc {u : List Nat} {m : Nat} (h : m < u.length) : u.take (m + 1) = u.take m ++ [u.getD m 0] := by
  rw [List.take_succ_eq_append_getElem h, List.getD_eq_getElem?_getD, List.getElem?_eq_getElem h]; rfl
theorem snoc_len {x : List Nat} {a : Nat} : (x ++ [a]).length = x.length + 1 := by rw [List.length_append]; rfl
theorem take_len {u : List Nat} {m : Nat} (h : m ≤ u.length) : (u.take m).length = m := by rw [List.length_take, Nat.min_eq_left h]
theorem ht_iff {wd : Nat → List Nat} {n u p a j m : Nat} (hw : wdOk wd) (hu : u < 6) (hp : p < (nodesOf wd).length) (hO : Ord wd n (enc (nGet (nodesOf wd) p ++ [a]))) (hj : j < n) (hm : m ≤ (wd u).length) (e : nGet (nodesOf wd) j = (wd u).take m) (hx : m < (wd u).length → ∀ i, i < (nodesOf wd).length → nGet (nodesOf wd) i = (wd u).take (m + 1) → n ≤ i) : ht wd (nGet (nodesOf wd) p ++ [a]) u ↔ j = p ∧ (nGet (nodesOf wd) p).length < (wd u).length ∧ (wd u).getD (nGet (nodesOf wd) p).length 0 = a := by
  obtain ⟨hN, -⟩ := nodes_ok hw
  obtain ⟨v8, vo⟩ := hw u hu
  unfold ht
  rw [snoc_len]
  constructor
  · rintro ⟨h1, h2⟩
    rw [tk_snoc (by omega)] at h2
    have h3 := List.append_inj h2 (by rw [take_len (by omega)])
    have h4 : (wd u).getD (nGet (nodesOf wd) p).length 0 = a := by have := h3.2; simpa using this
    refine ⟨?_, by omega, h4⟩
    have hL : enc ((wd u).take ((nGet (nodesOf wd) p).length + 1)) = enc (nGet (nodesOf wd) p ++ [a]) := by rw [tk_snoc (by omega), h2]
    have hmm : m = (nGet (nodesOf wd) p).length := by
      rcases Nat.lt_trichotomy m (nGet (nodesOf wd) p).length with h | h | h
      · exfalso
        obtain ⟨i, hi, ei⟩ := nGet_of (nodes_mem.mpr (Or.inr ⟨u, hu, m + 1, by omega, by omega, rfl⟩) : (wd u).take (m + 1) ∈ nodesOf wd)
        have h5 := hx (by omega) i hi ei
        have h6 := enc_len (l := (wd u).take (m + 1)) (m := (wd u).take ((nGet (nodesOf wd) p).length + 1)) (lOk_take vo) (by rw [take_len (by omega), take_len h1]; omega)
        rw [hL, ← ei] at h6
        have := (hO.2 i hi).mpr h6
        omega
      · exact h
      · exfalso
        have h5 := (hO.2 j (Nat.lt_of_lt_of_le hj hO.1)).mp hj
        rw [e, ← hL] at h5
        by_cases h6 : m = (nGet (nodesOf wd) p).length + 1
        · rw [h6] at h5; omega
        · have := enc_len (l := (wd u).take ((nGet (nodesOf wd) p).length + 1)) (m := (wd u).take m) (lOk_take vo) (by rw [take_len h1, take_len hm]; omega)
          omega
    refine srt_inj hN.1 (Nat.lt_of_lt_of_le hj hO.1) hp ?_
    rw [e, hmm]; exact h3.1
  · rintro ⟨rfl, h2, h3⟩
    have : m = (nGet (nodesOf wd) j).length := by rw [e, take_len hm]
    refine ⟨h2, ?_⟩
    rw [tk_snoc h2, h3, ← this, ← e]
theorem ord_at {wd : Nat → List Nat} {n : Nat} {x : List Nat} (hw : wdOk wd) (hO : Ord wd n (enc x)) (hx : x ∈ nodesOf wd) : n < (nodesOf wd).length ∧ nGet (nodesOf wd) n = x := by
  obtain ⟨hN, -⟩ := nodes_ok hw
  obtain ⟨i, hi, e⟩ := nGet_of hx
  have h1 : ¬ i < n := fun h => by
    have := (hO.2 i hi).mp h
    rw [e] at this; omega
  have h2 : ¬ n < i := fun h => by
    have := srt_lt hN.1 h hi
    rw [e] at this
    exact absurd ((hO.2 n (by omega)).mpr this) (by omega)
  obtain rfl : i = n := by omega
  exact ⟨hi, e⟩
theorem ord_hit {wd : Nat → List Nat} {n : Nat} {x : List Nat} (hw : wdOk wd) (hO : Ord wd n (enc x)) (hn : n < (nodesOf wd).length) (e : nGet (nodesOf wd) n = x) : Ord wd (n + 1) (enc x + 1) := by
  obtain ⟨hN, -⟩ := nodes_ok hw
  refine ⟨by omega, fun i hi => ?_⟩
  have h1 := hO.2 i hi
  constructor
  · intro h
    by_cases h2 : i = n
    · rw [h2, e]; omega
    · have := h1.mp (by omega); omega
  · intro h
    rcases Nat.lt_or_ge n i with h2 | h2
    · have := srt_lt hN.1 h2 hi
      rw [e] at this; omega
    · omega
theorem ord_miss {wd : Nat → List Nat} {n : Nat} {x : List Nat} (hw : wdOk wd) (hl : lOk x) (hO : Ord wd n (enc x)) (hx : x ∉ nodesOf wd) : Ord wd n (enc x + 1) := by
  obtain ⟨hN, -⟩ := nodes_ok hw
  refine ⟨hO.1, fun i hi => (hO.2 i hi).trans ⟨fun h => by omega, fun h => ?_⟩⟩
  have : enc (nGet (nodesOf wd) i) ≠ enc x := fun e => hx (by rw [← enc_inj (hN.2.1 _ (nGet_mem hi)).1 hl e]; exact nGet_mem hi)
  omega
theorem ht_node {wd : Nat → List Nat} {x : List Nat} {u : Nat} (hu : u < 6) (hx : x ≠ []) (h : ht wd x u) : x ∈ nodesOf wd := nodes_mem.mpr (Or.inr ⟨u, hu, x.length, List.length_pos_iff.mpr hx, h.1, h.2.symm⟩)
theorem node_ht {wd : Nat → List Nat} {x : List Nat} (hx : x ≠ []) (h : x ∈ nodesOf wd) : ∃ u, u < 6 ∧ ht wd x u := by
  rcases nodes_mem.mp h with e | ⟨u, hu, k, k1, k2, e⟩
  · exact absurd e hx
  · have : x.length = k := by rw [e, take_len k2]
    exact ⟨u, hu, by omega, by rw [this, ← e]⟩
theorem snoc_ne {x : List Nat} {a : Nat} : x ++ [a] ≠ [] := by simp
theorem auPa_snoc {wd : Nat → List Nat} {n p a : Nat} (hw : wdOk wd) (hp : p < (nodesOf wd).length) (e : nGet (nodesOf wd) n = nGet (nodesOf wd) p ++ [a]) : auPa (nodesOf wd) n = p := by
  obtain ⟨hN, -⟩ := nodes_ok hw
  unfold auPa
  rw [e, snoc_len, Nat.add_sub_cancel, List.take_left, nodeIx_at hN.1 hp]; rfl
theorem lastL_snoc {x : List Nat} {a : Nat} : lastL (x ++ [a]) = a := by
  unfold lastL
  rw [snoc_len, Nat.add_sub_cancel, List.getD_eq_getElem?_getD, List.getElem?_append_right (Nat.le_refl _), Nat.sub_self]; rfl
theorem ownK_no {wd : Nat → List Nat} {x : List Nat} : ∀ {v : Nat}, (∀ u, u < v → ¬ ht wd x u) → ownK wd x v = 0
  | 0, _ => rfl
  | v + 1, h => by
    show ownK wd x v ||| _ = 0
    rw [ownK_no (fun u hu => h u (by omega)), if_neg (fun t => h v (by omega) ⟨by rw [t.2]; exact Nat.le_refl _, by rw [t.2, List.take_length]⟩)]; rfl
/-- what a child that was added left -/
def AD (wd : Nat → List Nat) (n p a v : Nat) (r : Nat → Nat → Int32) (c' : Nat → Int32) (r' : Nat → Nat → Int32) : Prop := c' 0 = nI (n + 1) ∧ r' 1 = upd (r 1) n (nI ((nGet (nodesOf wd) p).length + 1)) ∧ r' 2 = upd (r 2) n (nI p) ∧ r' 3 = upd (r 3) n (nI a) ∧ r' 5 = upd (r 5) n (nI (ownK wd (nGet (nodesOf wd) p ++ [a]) v)) ∧ r' 6 = r 6 ∧ r' 7 = upd (r 7) (26 * p + a) (nI n) ∧ (∀ u, u < v → ht wd (nGet (nodesOf wd) p ++ [a]) u → r' 8 u = nI n) ∧ ∀ u, ¬ (u < v ∧ ht wd (nGet (nodesOf wd) p ++ [a]) u) → r' 8 u = r 8 u
theorem upd_n {f : Nat → Int32} {k i : Nat} {x : Int32} (h : i ≠ k) : upd f k x i = f i := if_neg h
theorem upd_s {f : Nat → Int32} {k : Nat} {x : Int32} : upd f k x k = x := if_pos rfl
theorem BI_hit {wd : Nat → List Nat} {n p a : Nat} {c c' : Nat → Int32} {r r' : Nat → Nat → Int32} (hw : wdOk wd) (hp : p < (nodesOf wd).length) (ha : a < 26) (hO : Ord wd n (enc (nGet (nodesOf wd) p ++ [a]))) (hn : n < (nodesOf wd).length) (e : nGet (nodesOf wd) n = nGet (nodesOf wd) p ++ [a]) (hB : BI wd n c r) (hA : AD wd n p a 6 r c' r') : BI wd (n + 1) c' r' := by
  obtain ⟨hN, -⟩ := nodes_ok hw
  obtain ⟨b0, b1, b2, b3⟩ := hB
  obtain ⟨a0, a1, a2, a3, a5, a6, a7, a8, a9⟩ := hA
  refine ⟨a0, fun i hi => ?_, fun i l hi hl => ?_, fun v hv => ?_⟩
  · rw [a1, a2, a3, a5]
    by_cases h : i = n
    · rw [h, upd_s, upd_s, upd_s, upd_s, auPa_snoc hw hp e, e, snoc_len, lastL_snoc]
      exact ⟨rfl, rfl, fun _ => ⟨rfl, rfl⟩⟩
    · rw [upd_n h, upd_n h, upd_n h, upd_n h]
      exact b1 i (by omega)
  · obtain ⟨x1, x2⟩ := b2 i l hi hl
    rw [a7]
    by_cases h : i = p ∧ l = a
    · rw [h.1, h.2, upd_s]
      refine ⟨fun j hj ej => ?_, fun z => absurd (by rw [← e]; exact nGet_mem hn) z⟩
      have : j = n := srt_inj hN.1 hj hn (by rw [ej, e])
      rw [this, if_pos (Nat.lt_succ_self _)]
    · rw [upd_n (by omega)]
      refine ⟨fun j hj ej => ?_, x2⟩
      have hne : j ≠ n := fun t => by
        rw [t, e] at ej
        have h2 := List.append_inj' ej rfl
        exact h ⟨(srt_inj hN.1 hp hi h2.1).symm, by have := h2.2; simp at this; exact this.symm⟩
      rw [x1 j hj ej]
      by_cases h3 : j < n
      · rw [if_pos h3, if_pos (by omega)]
      · rw [if_neg h3, if_neg (by omega)]
  · obtain ⟨y1, j, m, y2, y3, y4, y5, y6⟩ := b3 v hv
    obtain ⟨v8, vo⟩ := hw v hv
    refine ⟨by rw [a6]; exact y1, ?_⟩
    by_cases h : ht wd (nGet (nodesOf wd) p ++ [a]) v
    · refine ⟨n, _, Nat.lt_succ_self _, a8 v hv h, h.1, by rw [e]; exact h.2.symm, fun h1 i hi ei => ?_⟩
      have h2 := enc_len (l := (wd v).take (nGet (nodesOf wd) p ++ [a]).length) (m := (wd v).take ((nGet (nodesOf wd) p ++ [a]).length + 1)) (lOk_take vo) (by rw [take_len h.1, take_len h1]; omega)
      rw [h.2, ← ei] at h2
      have h3 : ¬ i < n := fun t => by have := (hO.2 i hi).mp t; omega
      have h4 : i ≠ n := fun t => by rw [t, e] at h2; omega
      omega
    · refine ⟨j, m, by omega, by rw [a9 v (fun t => h t.2)]; exact y3, y4, y5, fun h1 i hi ei => ?_⟩
      have h3 := y6 h1 i hi ei
      have h4 : i ≠ n := fun t => by
        rw [t, e] at ei
        have hl : (nGet (nodesOf wd) p ++ [a]).length = m + 1 := by rw [ei, take_len h1]
        exact h ⟨by omega, by rw [hl]; exact ei.symm⟩
      omega
theorem AD_next {wd : Nat → List Nat} {n p a v : Nat} {r : Nat → Nat → Int32} {c' : Nat → Int32} {r' r2 : Nat → Nat → Int32} (h : AD wd n p a v r c' r') (hh : ht wd (nGet (nodesOf wd) p ++ [a]) v) (e1 : r2 1 = r' 1) (e2 : r2 2 = r' 2) (e3 : r2 3 = r' 3) (e5 : r2 5 = upd (r 5) n (nI (ownK wd (nGet (nodesOf wd) p ++ [a]) (v + 1)))) (e6 : r2 6 = r' 6) (e7 : r2 7 = r' 7) (e8 : r2 8 = upd (r' 8) v (nI n)) : AD wd n p a (v + 1) r c' r2 := by
  obtain ⟨a0, a1, a2, a3, a5, a6, a7, a8, a9⟩ := h
  refine ⟨a0, e1.trans a1, e2.trans a2, e3.trans a3, e5, e6.trans a6, e7.trans a7, fun u hu t => ?_, fun u t => ?_⟩
  · rw [e8]
    by_cases e : u = v
    · rw [e, upd_s]
    · rw [upd_n e]; exact a8 u (by omega) t
  · rw [e8]
    have e : u ≠ v := fun e => t ⟨by omega, by rw [e]; exact hh⟩
    rw [upd_n e]; exact a9 u (fun t2 => t ⟨by omega, t2.2⟩)
section CBuild
variable {W : jx_W} {s : Nat} {c : Nat → Int32} {r : Nat → Nat → Int32} {K : jx_Q} {wd : Nat → List Nat}
theorem c_added {x1 x2 x3 : Int32} {n p a : Nat} (hW : At W s 9 (AuC s c r)) (hn : n ≤ 48) (hp : p < 49) (ha : a < 26) (hc : c 0 = nI n) (e1 : x1 = nI p) (e2 : x2 = nI a) (hK : ∀ c' r', c' 0 = nI (n + 1) → r' 1 = upd (r 1) n x3 → r' 2 = upd (r 2) n (nI p) → r' 3 = upd (r 3) n (nI a) → r' 5 = upd (r 5) n 0 → r' 6 = r 6 → r' 7 = upd (r 7) (26 * p + a) (nI n) → r' 8 = r 8 → K (Auw W s c' r') (some (.int (nI n)))) : zcall n_A_added [.ref s, .int x1, .int x2, .int x3] W K := by
  subst e1 e2
  rw [← Auw_eq hW]
  refine e_A_added (b_A_added_0 ?_)
  simp only [and_assoc, exists_and_left, exists_eq_left, exists_eq_left', Option.some.injEq, Value.int.injEq, Value.ref.injEq, Value.long.injEq, true_and, and_true, exists_eq, exists_true_left, FdF_0, FdF_s0, FdF_1, FdF_s1, FdF_2, FdF_s2, FdF_3, FdF_s3, FdF_4, FdF_5, FdF_6, FdF_7, FdF_len, Fdw_ob, Fdw_uob, Fdw_4, Fdw_g4, Fdw_v4, Fdw_u4, Fdw_5, Fdw_g5, Fdw_v5, Fdw_u5, Fdw_6, Fdw_g6, Fdw_v6, Fdw_u6, Fdw_7, Fdw_g7, Fdw_v7, Fdw_u7, WdF_0, WdF_1, WdF_len, Wdw_ob, Wdw_0, Wdw_g0, Wdw_v0, Wdw_u0, Wdw_1, Wdw_g1, Wdw_v1, Wdw_u1, AuF_0, AuF_s0, AuF_1, AuF_2, AuF_3, AuF_4, AuF_5, AuF_6, AuF_7, AuF_8, AuF_len, Auw_ob, Auw_uob, Auw_1, Auw_g1, Auw_v1, Auw_u1, Auw_2, Auw_g2, Auw_v2, Auw_u2, Auw_3, Auw_g3, Auw_v3, Auw_u3, Auw_4, Auw_g4, Auw_v4, Auw_u4, Auw_5, Auw_g5, Auw_v5, Auw_u5, Auw_6, Auw_g6, Auw_v6, Auw_u6, Auw_7, Auw_g7, Auw_v7, Auw_u7, Auw_8, Auw_g8, Auw_v8, Auw_u8, SgF_0, SgF_s0, SgF_1, SgF_2, SgF_3, SgF_len, Sgw_ob, Sgw_uob, Sgw_1, Sgw_g1, Sgw_v1, Sgw_u1, Sgw_2, Sgw_g2, Sgw_v2, Sgw_u2, Sgw_3, Sgw_g3, Sgw_v3, Sgw_u3, RdF_0, RdF_1, RdF_2, RdF_s2, RdF_3, RdF_s3, RdF_4, RdF_s4, RdF_5, RdF_s5, RdF_6, RdF_s6, RdF_7, RdF_s7, RdF_8, RdF_s8, RdF_9, RdF_10, RdF_11, RdF_s11, RdF_12, RdF_s12, RdF_13, RdF_s13, RdF_14, RdF_s14, RdF_len, Rdw_ob, Rdw_uob, Rdw_9, Rdw_g9, Rdw_v9, Rdw_u9, Rdw_10, Rdw_g10, Rdw_v10, Rdw_u10, FlF_0, FlF_s0, FlF_1, FlF_s1, FlF_2, FlF_s2, FlF_3, FlF_s3, FlF_4, FlF_5, FlF_6, FlF_7, FlF_s7, FlF_8, FlF_s8, FlF_9, FlF_s9, FlF_10, FlF_s10, FlF_11, FlF_s11, FlF_len, Flw_ob, Flw_uob, Flw_pob, Flw_upob, Flw_p1, Flw_p2, Flw_p3, Flw_lob, Flw_ulob, Flw_l1, Flw_l2, Flw_l3, Flw_rob, Nat.reduceLT, rup_s, rup_rup]
  rw [hc, if_neg (show ¬ (48 : Int32) < nI n from fun z => absurd ((nI_ltI (a := 48) (by decide) (by omega)).mp z) (by omega)), nI_clamp (by omega), lit_26, pk_mul, nI_add, nI_clamp (by omega), nI_1, Nat.mul_comm p 26]
  have v1 : vp_in (nI n) 49 := vp_in_nI (by omega) (by decide)
  exact ⟨v1, v1, v1, v1, vp_in_nI (by omega) (by decide), hK _ _ rfl rfl rfl rfl rfl rfl rfl rfl⟩
theorem c_addChildren {x2 x3 : Int32} {w p n : Nat} {rw' : Nat → Nat → Int32} (hW : At W s 9 (AuC s c r)) (hV : At W w 3 (WdC w rw')) (hd : s + 9 ≤ w ∨ w + 3 ≤ s) (hD : WDr rw' wd) (hw : wdOk wd) (hp : p < (nodesOf wd).length) (h8 : (nGet (nodesOf wd) p).length < 8) (e2 : x2 = nI p) (e3 : x3 = nI ((nGet (nodesOf wd) p).length + 1)) (hB : BI wd n c r) (hO : Ord wd n (27 * enc (nGet (nodesOf wd) p) + 1)) (hK : ∀ n' c' r', BI wd n' c' r' → Ord wd n' (27 * enc (nGet (nodesOf wd) p) + 27) → n ≤ n' → K (Auw W s c' r') none) : zcall n_A_addChildren [.ref s, .ref w, .int x2, .int x3] W K := by
  subst e2 e3
  obtain ⟨hN, h49⟩ := nodes_ok hw
  have hAt : ∀ c r, At (Auw W s c r) s 9 (AuC s c r) := fun c r => At_bw
  have hVt : ∀ c r, At (Auw W s c r) w 3 (WdC w rw') := fun c r => At_out hV (by omega)
  have hob : ∀ c r, ∃ fs, jx_ob (Auw W s c r) s 0 fs := fun c r => ⟨_, hAt c r 0 (by decide)⟩
  have hwb : ∀ c r, ∃ fs, jx_ob (Auw W s c r) w 6 fs := fun c r => ⟨_, hVt c r 0 (by decide)⟩
  have hww : ∀ c r c' r', Auw (Auw W s c r) s c' r' = Auw W s c' r' := fun c r c' r' => bw_same
  obtain ⟨L, hL⟩ : ∃ L, L = (nGet (nodesOf wd) p).length := ⟨_, rfl⟩
  rw [← hL] at h8 ⊢
  -- one letter
  have words : ∀ {n a : Nat} {c r}, a < 26 → BI wd n c r → Ord wd n (enc (nGet (nodesOf wd) p ++ [a])) → ∀ {K : jx_Q}, (∀ n' c' r', BI wd n' c' r' → Ord wd n' (enc (nGet (nodesOf wd) p ++ [a]) + 1) → n ≤ n' → zwp n_A_addChildren 6 [(0, .ref s), (1, .ref w), (2, .int (nI p)), (3, .int (nI (L + 1))), (4, .int (nI a))] [] 0 0 (Auw W s c' r') K) → zwp n_A_addChildren 2 [(0, .ref s), (1, .ref w), (2, .int (nI p)), (3, .int (nI (L + 1))), (4, .int (nI a)), (5, .int (-1)), (6, .int 0)] [] 0 0 (Auw W s c r) K := by
    intro n a c r ha hB hO K hK
    have hlx : lOk (nGet (nodesOf wd) p ++ [a]) := fun x hx => (List.mem_append.mp hx).elim ((hN.2.1 _ (nGet_mem hp)).1 x) (fun t => by rw [List.mem_singleton.mp t]; exact ha)
    have loop : ∀ (m v : Nat), v + m = 6 → ∀ (x5 : Int32) (c' : Nat → Int32) (r' : Nat → Nat → Int32), ((x5 = -1 ∧ c' = c ∧ r' = r ∧ ∀ u, u < v → ¬ ht wd (nGet (nodesOf wd) p ++ [a]) u) ∨ (x5 = nI n ∧ n < (nodesOf wd).length ∧ nGet (nodesOf wd) n = nGet (nodesOf wd) p ++ [a] ∧ AD wd n p a v r c' r')) → zwp n_A_addChildren 2 [(0, .ref s), (1, .ref w), (2, .int (nI p)), (3, .int (nI (L + 1))), (4, .int (nI a)), (5, .int x5), (6, .int (nI v))] [] 0 0 (Auw W s c' r') K := by
      intro m
      induction m with
      | zero =>
        intro v hv x5 c' r' hM
        obtain rfl : v = 6 := by omega
        refine b_A_addChildren_2 ⟨fun _ => ?_, fun z => absurd (by decide) z⟩
        rcases hM with ⟨-, rfl, rfl, hno⟩ | ⟨-, h1, h2, h3⟩
        · have hx : nGet (nodesOf wd) p ++ [a] ∉ nodesOf wd := fun t => by
            obtain ⟨u, hu, h⟩ := node_ht snoc_ne t
            exact hno u hu h
          exact hK n c' r' hB (ord_miss hw hlx hO hx) (Nat.le_refl _)
        · exact hK (n + 1) c' r' (BI_hit hw hp ha hO h1 h2 hB h3) (ord_hit hw hO h1 h2) (Nat.le_succ _)
      | succ m ih =>
        intro v hv x5 c' r' hM
        have hv6 : v < 6 := by omega
        obtain ⟨y1, j, mm, y2, y3, y4, y5, y6⟩ := hB.2.2.2 v hv6
        have hj : j < 49 := by have := hO.1; omega
        have e8 : r' 8 v = nI j := by
          rcases hM with ⟨-, -, rfl, -⟩ | ⟨-, -, -, h3⟩
          · exact y3
          · rw [h3.2.2.2.2.2.2.2.2 v (fun t => absurd t.1 (by omega))]; exact y3
        have hiff := ht_iff hw hv6 hp hO y2 y4 y5 y6
        rw [← hL] at hiff
        have v8 := (hw v hv6).1
        have skip : ¬ ht wd (nGet (nodesOf wd) p ++ [a]) v → zwp n_A_addChildren 5 [(0, .ref s), (1, .ref w), (2, .int (nI p)), (3, .int (nI (L + 1))), (4, .int (nI a)), (5, .int x5), (6, .int (nI v))] [] 0 0 (Auw W s c' r') K := fun hno => by
          refine b_A_addChildren_5 ?_
          rw [nI_1]
          refine ih (v + 1) (by omega) x5 c' r' ?_
          rcases hM with ⟨h1, h2, h3, h4⟩ | ⟨h1, h2, h3, a0, a1, a2, a3, a5, a6, a7, a8, a9⟩
          · refine Or.inl ⟨h1, h2, h3, fun u hu => ?_⟩
            by_cases e : u = v
            · rw [e]; exact hno
            · exact h4 u (by omega)
          · refine Or.inr ⟨h1, h2, h3, a0, a1, a2, a3, ?_, a6, a7, fun u hu t => ?_, fun u t => a9 u (fun t2 => t ⟨by omega, t2.2⟩)⟩
            · rw [a5]
              show _ = upd (r 5) n (nI (ownK wd _ v ||| _))
              rw [if_neg (fun t => hno ⟨by rw [t.2]; exact Nat.le_refl _, by rw [t.2, List.take_length]⟩), Nat.or_zero]
            · by_cases e : u = v
              · rw [e] at t; exact absurd t hno
              · exact a8 u (by omega) t
        have put : ∀ c' r', n < (nodesOf wd).length → nGet (nodesOf wd) n = nGet (nodesOf wd) p ++ [a] → AD wd n p a v r c' r' → ht wd (nGet (nodesOf wd) p ++ [a]) v → zwp n_A_addChildren 4 [(0, .ref s), (1, .ref w), (2, .int (nI p)), (3, .int (nI (L + 1))), (4, .int (nI a)), (5, .int (nI n)), (6, .int (nI v))] [] 0 0 (Auw W s c' r') K := by
          intro c' r' h2 h3 ⟨a0, a1, a2, a3, a5, a6, a7, a8, a9⟩ hh
          have ew : wd v = nGet (nodesOf wd) p ++ [a] ↔ (wd v).length = L + 1 := by
            rw [hL, ← snoc_len (a := a)]
            constructor
            · intro t; rw [t]
            · intro t
              have := hh.2
              rw [← t, List.take_length] at this
              exact this
          refine b_A_addChildren_4 ?_
          simp only [and_assoc, exists_and_left, exists_eq_left, exists_eq_left', Option.some.injEq, Value.int.injEq, Value.ref.injEq, Value.long.injEq, true_and, and_true, exists_eq, exists_true_left, FdF_0, FdF_s0, FdF_1, FdF_s1, FdF_2, FdF_s2, FdF_3, FdF_s3, FdF_4, FdF_5, FdF_6, FdF_7, FdF_len, Fdw_ob, Fdw_uob, Fdw_4, Fdw_g4, Fdw_v4, Fdw_u4, Fdw_5, Fdw_g5, Fdw_v5, Fdw_u5, Fdw_6, Fdw_g6, Fdw_v6, Fdw_u6, Fdw_7, Fdw_g7, Fdw_v7, Fdw_u7, WdF_0, WdF_1, WdF_len, Wdw_ob, Wdw_0, Wdw_g0, Wdw_v0, Wdw_u0, Wdw_1, Wdw_g1, Wdw_v1, Wdw_u1, AuF_0, AuF_s0, AuF_1, AuF_2, AuF_3, AuF_4, AuF_5, AuF_6, AuF_7, AuF_8, AuF_len, Auw_ob, Auw_uob, Auw_1, Auw_g1, Auw_v1, Auw_u1, Auw_2, Auw_g2, Auw_v2, Auw_u2, Auw_3, Auw_g3, Auw_v3, Auw_u3, Auw_4, Auw_g4, Auw_v4, Auw_u4, Auw_5, Auw_g5, Auw_v5, Auw_u5, Auw_6, Auw_g6, Auw_v6, Auw_u6, Auw_7, Auw_g7, Auw_v7, Auw_u7, Auw_8, Auw_g8, Auw_v8, Auw_u8, SgF_0, SgF_s0, SgF_1, SgF_2, SgF_3, SgF_len, Sgw_ob, Sgw_uob, Sgw_1, Sgw_g1, Sgw_v1, Sgw_u1, Sgw_2, Sgw_g2, Sgw_v2, Sgw_u2, Sgw_3, Sgw_g3, Sgw_v3, Sgw_u3, RdF_0, RdF_1, RdF_2, RdF_s2, RdF_3, RdF_s3, RdF_4, RdF_s4, RdF_5, RdF_s5, RdF_6, RdF_s6, RdF_7, RdF_s7, RdF_8, RdF_s8, RdF_9, RdF_10, RdF_11, RdF_s11, RdF_12, RdF_s12, RdF_13, RdF_s13, RdF_14, RdF_s14, RdF_len, Rdw_ob, Rdw_uob, Rdw_9, Rdw_g9, Rdw_v9, Rdw_u9, Rdw_10, Rdw_g10, Rdw_v10, Rdw_u10, FlF_0, FlF_s0, FlF_1, FlF_s1, FlF_2, FlF_s2, FlF_3, FlF_s3, FlF_4, FlF_5, FlF_6, FlF_7, FlF_s7, FlF_8, FlF_s8, FlF_9, FlF_s9, FlF_10, FlF_s10, FlF_11, FlF_s11, FlF_len, Flw_ob, Flw_uob, Flw_pob, Flw_upob, Flw_p1, Flw_p2, Flw_p3, Flw_lob, Flw_ulob, Flw_l1, Flw_l2, Flw_l3, Flw_rob, Nat.reduceLT, rup_s, rup_rup]
          rw [nI_clamp (show v < 2 ^ 31 by omega), nI_clamp (show n < 2 ^ 31 by omega)]
          refine ⟨vp_in_nI (by omega) (by decide), vp_in_nI (by omega) (by decide), fun z => b_A_addChildren_5 ?_, fun z => ⟨vp_in_nI (by omega) (by decide), vp_in_nI (by omega) (by decide), b_A_addChildren_5 ?_⟩⟩
          · have hz : ¬ wd v = nGet (nodesOf wd) p ++ [a] := fun t => z (by
              show r' 6 v = _
              rw [a6, y1, ew.mp t])
            rw [nI_1]
            refine ih (v + 1) (by omega) _ _ _ (Or.inr ⟨rfl, h2, h3, AD_next ⟨a0, a1, a2, a3, a5, a6, a7, a8, a9⟩ hh rfl rfl rfl ?_ rfl rfl rfl⟩)
            show r' 5 = upd (r 5) n (nI (ownK wd _ v ||| _))
            rw [if_neg (fun t => hz t.2), Nat.or_zero]; exact a5
          · have hz : wd v = nGet (nodesOf wd) p ++ [a] := ew.mpr ((nI_eq (by omega) (by omega)).mp (by
              have z : r' 6 v = _ := z
              rw [a6, y1] at z; exact z))
            rw [nI_1]
            refine ih (v + 1) (by omega) _ _ _ (Or.inr ⟨rfl, h2, h3, AD_next ⟨a0, a1, a2, a3, a5, a6, a7, a8, a9⟩ hh rfl rfl rfl ?_ rfl rfl rfl⟩)
            show upd (r' 5) n (r' 5 n ||| _) = upd (r 5) n (nI (ownK wd _ v ||| _))
            rw [a5, upd_s, nI_pow v (by omega), nI_or, if_pos ⟨by rw [hz, snoc_len]; omega, hz⟩, upd_upd]
        refine b_A_addChildren_2 ⟨fun z => absurd ((nI_leI (a := 6) (by decide) (by omega)).mp z) (by omega), fun _ => ?_⟩
        simp only [and_assoc, exists_and_left, exists_eq_left, exists_eq_left', Option.some.injEq, Value.int.injEq, Value.ref.injEq, Value.long.injEq, true_and, and_true, exists_eq, exists_true_left, FdF_0, FdF_s0, FdF_1, FdF_s1, FdF_2, FdF_s2, FdF_3, FdF_s3, FdF_4, FdF_5, FdF_6, FdF_7, FdF_len, Fdw_ob, Fdw_uob, Fdw_4, Fdw_g4, Fdw_v4, Fdw_u4, Fdw_5, Fdw_g5, Fdw_v5, Fdw_u5, Fdw_6, Fdw_g6, Fdw_v6, Fdw_u6, Fdw_7, Fdw_g7, Fdw_v7, Fdw_u7, WdF_0, WdF_1, WdF_len, Wdw_ob, Wdw_0, Wdw_g0, Wdw_v0, Wdw_u0, Wdw_1, Wdw_g1, Wdw_v1, Wdw_u1, AuF_0, AuF_s0, AuF_1, AuF_2, AuF_3, AuF_4, AuF_5, AuF_6, AuF_7, AuF_8, AuF_len, Auw_ob, Auw_uob, Auw_1, Auw_g1, Auw_v1, Auw_u1, Auw_2, Auw_g2, Auw_v2, Auw_u2, Auw_3, Auw_g3, Auw_v3, Auw_u3, Auw_4, Auw_g4, Auw_v4, Auw_u4, Auw_5, Auw_g5, Auw_v5, Auw_u5, Auw_6, Auw_g6, Auw_v6, Auw_u6, Auw_7, Auw_g7, Auw_v7, Auw_u7, Auw_8, Auw_g8, Auw_v8, Auw_u8, SgF_0, SgF_s0, SgF_1, SgF_2, SgF_3, SgF_len, Sgw_ob, Sgw_uob, Sgw_1, Sgw_g1, Sgw_v1, Sgw_u1, Sgw_2, Sgw_g2, Sgw_v2, Sgw_u2, Sgw_3, Sgw_g3, Sgw_v3, Sgw_u3, RdF_0, RdF_1, RdF_2, RdF_s2, RdF_3, RdF_s3, RdF_4, RdF_s4, RdF_5, RdF_s5, RdF_6, RdF_s6, RdF_7, RdF_s7, RdF_8, RdF_s8, RdF_9, RdF_10, RdF_11, RdF_s11, RdF_12, RdF_s12, RdF_13, RdF_s13, RdF_14, RdF_s14, RdF_len, Rdw_ob, Rdw_uob, Rdw_9, Rdw_g9, Rdw_v9, Rdw_u9, Rdw_10, Rdw_g10, Rdw_v10, Rdw_u10, FlF_0, FlF_s0, FlF_1, FlF_s1, FlF_2, FlF_s2, FlF_3, FlF_s3, FlF_4, FlF_5, FlF_6, FlF_7, FlF_s7, FlF_8, FlF_s8, FlF_9, FlF_s9, FlF_10, FlF_s10, FlF_11, FlF_s11, FlF_len, Flw_ob, Flw_uob, Flw_pob, Flw_upob, Flw_p1, Flw_p2, Flw_p3, Flw_lob, Flw_ulob, Flw_l1, Flw_l2, Flw_l3, Flw_rob, Nat.reduceLT, rup_s, rup_rup]
        rw [nI_clamp (show v < 2 ^ 31 by omega), e8]
        refine ⟨vp_in_nI (by omega) (by decide), fun z => skip (fun t => z (by rw [(hiff.mp t).1])), fun z => ?_⟩
        have hjp : j = p := (nI_eq (by omega) (by omega)).mp z
        refine ⟨hwb c' r', ?_⟩
        rw [lit_1, pk_sub (by omega), Nat.add_sub_cancel]
        refine c_letterAt (hVt c' r') hD rfl hv6 (fun t => absurd ((nI_ltI (b := 0) (by omega) (by decide)).mp t) (by omega)) ⟨_, rfl, fun z2 => ?_, fun z2 => ?_⟩
        · have hlt : L < (wd v).length := by
            rcases Nat.lt_or_ge L (wd v).length with h | h
            · exact h
            · rw [if_pos ((nI_leI (by omega) (by omega)).mpr h)] at z2
              exact absurd z2.symm (nI_ne9 (by omega))
          rw [if_neg (fun t => absurd ((nI_leI (by omega) (by omega)).mp t) (by omega)), nI_clamp (by omega)] at z2
          have hg := lOk_getD (hw v hv6).2 L
          have hh := hiff.mpr ⟨hjp, hlt, (nI_eq (by omega) (by omega)).mp z2⟩
          refine b_A_addChildren_3 ⟨fun z3 => ?_, fun z3 => ?_⟩
          · rcases hM with ⟨h1, -⟩ | ⟨rfl, h2, h3, h4⟩
            · exact absurd h1 z3
            · exact put c' r' h2 h3 h4 hh
          · rcases hM with ⟨-, rfl, rfl, hno⟩ | ⟨rfl, h2, h3, h4⟩
            · obtain ⟨g1, g2⟩ := ord_at hw hO (ht_node hv6 snoc_ne hh)
              refine ⟨hob _ _, c_added (hAt _ _) (n := n) (p := p) (a := a) (by omega) (by omega) ha hB.1 rfl rfl (fun c2 r2 k0 k1 k2 k3 k5 k6 k7 k8 => ⟨_, rfl, ?_⟩)⟩
              rw [hww]
              refine put c2 r2 g1 g2 ⟨k0, by rw [k1, hL], k2, k3, by rw [k5, ownK_no hno]; rfl, k6, k7, fun u hu t => absurd t (hno u hu), fun u _ => by rw [k8]⟩ hh
            · exact absurd z3 (nI_ne1 (by omega))
        · refine skip (fun t => z2 ?_)
          obtain ⟨t1, t2, t3⟩ := hiff.mp t
          rw [if_neg (fun t => absurd ((nI_leI (by omega) (by omega)).mp t) (by omega)), nI_clamp (by omega), t3]
    exact loop 6 0 rfl (-1) c r (Or.inl ⟨rfl, rfl, rfl, fun u hu => absurd hu (Nat.not_lt_zero _)⟩)
  have letters : ∀ (m a n : Nat) (c : Nat → Int32) (r : Nat → Nat → Int32), a + m = 26 → BI wd n c r → Ord wd n (27 * enc (nGet (nodesOf wd) p) + a + 1) → (∀ n' c' r', BI wd n' c' r' → Ord wd n' (27 * enc (nGet (nodesOf wd) p) + 27) → n ≤ n' → K (Auw W s c' r') none) → zwp n_A_addChildren 1 [(0, .ref s), (1, .ref w), (2, .int (nI p)), (3, .int (nI (L + 1))), (4, .int (nI a))] [] 0 0 (Auw W s c r) K := by
    intro m
    induction m with
    | zero =>
      intro a n c r hm hB hO hK
      obtain rfl : a = 26 := by omega
      exact b_A_addChildren_1 ⟨fun _ => b_A_addChildren_7 (hK n c r hB hO (Nat.le_refl _)), fun z => absurd (by decide) z⟩
    | succ m ih =>
      intro a n c r hm hB hO hK
      refine b_A_addChildren_1 ⟨fun z => absurd ((nI_leI (a := 26) (by decide) (by omega)).mp z) (by omega), fun _ => ?_⟩
      refine words (a := a) (n := n) (by omega) hB (by rw [enc_snoc]; exact hO) (fun n' c' r' h1 h2 h3 => b_A_addChildren_6 ?_)
      rw [enc_snoc] at h2
      rw [nI_1]
      exact ih (a + 1) n' c' r' (by omega) h1 h2 (fun n2 c2 r2 g1 g2 g3 => hK n2 c2 r2 g1 g2 (by omega))
  rw [← Auw_eq hW]
  exact e_A_addChildren (b_A_addChildren_0 (letters 26 0 n c r rfl hB hO hK))
/-- nodes up to m are linked -/
def LI (wd : Nat → List Nat) (m : Nat) (c : Nat → Int32) (r : Nat → Nat → Int32) : Prop :=
  c 0 = nI (nodesOf wd).length ∧ (∀ i, i < (nodesOf wd).length → r 1 i = nI (nGet (nodesOf wd) i).length ∧ r 5 i = nI (if i < m then setK wd (nGet (nodesOf wd) i) 6 else ownK wd (nGet (nodesOf wd) i) 6) ∧ (i ≠ 0 → r 2 i = nI (auPa (nodesOf wd) i) ∧ r 3 i = nI (lastL (nGet (nodesOf wd) i)) ∧ (i < m → r 4 i = nI (auFa (nodesOf wd) i)))) ∧ (∀ i l, i < (nodesOf wd).length → l < 26 → i < m → r 7 (26 * i + l) = nI (auNx (nodesOf wd) i l)) ∧ (∀ i l, i < (nodesOf wd).length → l < 26 → m ≤ i → (∀ j, j < (nodesOf wd).length → nGet (nodesOf wd) j = nGet (nodesOf wd) i ++ [l] → r 7 (26 * i + l) = nI j) ∧ (nGet (nodesOf wd) i ++ [l] ∉ nodesOf wd → r 7 (26 * i + l) = 0)) ∧ ∀ v, v < 6 → r 6 v = nI (wd v).length
theorem BI_LI (hw : wdOk wd) (h : BI wd (nodesOf wd).length c r) : LI wd 1 c r := by
  obtain ⟨hN, -⟩ := nodes_ok hw
  obtain ⟨h0, h1, h2, h3⟩ := h
  refine ⟨h0, fun i hi => ?_, fun i l hi hl h => ?_, fun i l hi hl _ => ?_, fun v hv => (h3 v hv).1⟩
  · obtain ⟨g1, g2, g3⟩ := h1 i hi
    refine ⟨g1, ?_, fun t => ⟨(g3 t).1, (g3 t).2, fun t2 => absurd t2 (by omega)⟩⟩
    by_cases e : i < 1
    · obtain rfl : i = 0 := by omega
      rw [if_pos e, g2, show ownK wd (nGet (nodesOf wd) 0) 6 = 0 from Nat.eq_of_testBit_eq (fun u => ?_), (au_ok hw).2.2.2.2.1 |> (show setK wd (nGet (nodesOf wd) 0) 6 = 0 from ·)]
      rw [Nat.zero_testBit]
      cases eb : (ownK wd (nGet (nodesOf wd) 0) 6).testBit u with
      | false => rfl
      | true =>
        have := ownK_bit.mp eb
        rw [nGet0 hN] at this
        exact absurd (by rw [this.2.2]; rfl) this.2.1
    · rw [if_neg e]; exact g2
  · obtain rfl : i = 0 := by omega
    obtain ⟨g1, g2⟩ := h2 0 l hi hl
    by_cases e : nGet (nodesOf wd) 0 ++ [l] ∈ nodesOf wd
    · obtain ⟨j, hj, ej⟩ := nGet_of e
      rw [g1 j hj ej, if_pos hj, nx_hit hw hj ej]
    · rw [g2 e, nx_zero hw (by rw [nGet0 hN] at e; exact e)]; rfl
  · obtain ⟨g1, g2⟩ := h2 i l hi hl
    exact ⟨fun j hj ej => by rw [g1 j hj ej, if_pos hj], g2⟩
theorem par_of {m : Nat} (hw : wdOk wd) (hm : m < (nodesOf wd).length) (h0 : 0 < m) : ∃ p l, p < m ∧ l < 26 ∧ nGet (nodesOf wd) m = nGet (nodesOf wd) p ++ [l] := by
  obtain ⟨hN, -⟩ := nodes_ok hw
  obtain ⟨p, hp, e⟩ := nGet_of (nGet_par hw hm)
  have hne := nGet_pos hN hm h0
  have hl : (nGet (nodesOf wd) m).length ≠ 0 := fun t => hne (List.length_eq_zero_iff.mp t)
  have ho := (hN.2.1 _ (nGet_mem hm)).1
  have et : nGet (nodesOf wd) m = nGet (nodesOf wd) p ++ [(nGet (nodesOf wd) m).getD ((nGet (nodesOf wd) m).length - 1) 0] := by
    rw [e, ← tk_snoc (by omega), show (nGet (nodesOf wd) m).length - 1 + 1 = (nGet (nodesOf wd) m).length by omega, List.take_length]
  refine ⟨p, _, ?_, lOk_getD ho _, et⟩
  have := enc_len (l := nGet (nodesOf wd) p) (m := nGet (nodesOf wd) m) (hN.2.1 _ (nGet_mem hp)).1 (by rw [e, take_len (by omega)]; omega)
  rcases Nat.lt_trichotomy p m with h | h | h
  · exact h
  · rw [h] at this; omega
  · have := srt_lt hN.1 h hp; omega
theorem c_link {x : Int32} {m : Nat} (hW : At W s 9 (AuC s c r)) (hw : wdOk wd) (hm : m < (nodesOf wd).length) (h0 : 0 < m) (ex : x = nI m) (hI : LI wd m c r) (hK : ∀ r', LI wd (m + 1) c r' → K (Auw W s c r') none) : zcall n_A_link [.ref s, .int x] W K := by
  subst ex
  obtain ⟨hN, h49⟩ := nodes_ok hw
  obtain ⟨p, l, hpm, hl, en⟩ := par_of hw hm h0
  obtain ⟨i0, i1, i2, i3, i4⟩ := hI
  have hp : p < (nodesOf wd).length := by omega
  obtain ⟨m1, m2, m3⟩ := i1 m hm
  obtain ⟨m4, m5, -⟩ := m3 (by omega)
  rw [auPa_snoc hw hp en] at m4
  rw [if_neg (Nat.lt_irrefl _)] at m2
  have hlast : lastL (nGet (nodesOf wd) m) = l := by rw [en, lastL_snoc]
  rw [hlast] at m5
  have hf := fa_lt hw hm h0
  have hfp := fa_par hw hm hp en
  have hsf := set_fa hw hm h0
  obtain ⟨f, ef⟩ : ∃ f, f = auFa (nodesOf wd) m := ⟨_, rfl⟩
  rw [← ef] at hf hfp hsf
  have hww : ∀ c r c' r', Auw (Auw W s c r) s c' r' = Auw W s c' r' := fun c r c' r' => bw_same
  have loop : ∀ (k i : Nat) (r' : Nat → Nat → Int32), i + k = 26 → r' 1 = r 1 → r' 2 = r 2 → r' 3 = r 3 → r' 4 = upd (r 4) m (nI f) → r' 5 = upd (r 5) m (nI (setK wd (nGet (nodesOf wd) m) 6)) → r' 6 = r 6 → (∀ t, t < 26 * m ∨ 26 * m + i ≤ t → r' 7 t = r 7 t) → (∀ l, l < i → r' 7 (26 * m + l) = nI (auNx (nodesOf wd) m l)) → zwp n_A_link 3 [(0, .ref s), (1, .int (nI m)), (3, .int (nI f)), (4, .int (nI i))] [] 0 0 (Auw W s c r') K := by
    intro k
    induction k with
    | zero =>
      intro i r' hi q1 q2 q3 q4 q5 q6 q7 q8
      obtain rfl : i = 26 := by omega
      refine b_A_link_3 ⟨fun _ => b_A_link_5 (hK r' ⟨i0, fun j hj => ?_, fun j l hj hl h => ?_, fun j l hj hl h => ?_, fun v hv => by rw [q6]; exact i4 v hv⟩), fun z => absurd (by decide) z⟩
      · rw [q1, q2, q3, q4, q5]
        obtain ⟨j1, j2, j3⟩ := i1 j hj
        by_cases e : j = m
        · rw [e, upd_s, upd_s, if_pos (Nat.lt_succ_self _), hlast, ← ef, auPa_snoc hw hp en]
          exact ⟨m1, rfl, fun _ => ⟨m4, m5, fun _ => rfl⟩⟩
        · rw [upd_n e, upd_n e]
          refine ⟨j1, ?_, fun t => ⟨(j3 t).1, (j3 t).2.1, fun t2 => (j3 t).2.2 (by omega)⟩⟩
          rw [j2]
          by_cases e2 : j < m
          · rw [if_pos e2, if_pos (by omega)]
          · rw [if_neg e2, if_neg (by omega)]
      · by_cases e : j = m
        · rw [e]; exact q8 l hl
        · rw [q7 _ (Or.inl (by omega))]; exact i2 j l hj hl (by omega)
      · rw [q7 _ (Or.inr (by omega))]; exact i3 j l hj hl (by omega)
    | succ k ih =>
      intro i r' hi q1 q2 q3 q4 q5 q6 q7 q8
      obtain ⟨g1, g2⟩ := i3 m i hm (by omega) (Nat.le_refl _)
      refine b_A_link_3 ⟨fun z => absurd ((nI_leI (a := 26) (by decide) (by omega)).mp z) (by omega), fun _ => ?_⟩
      simp only [and_assoc, exists_and_left, exists_eq_left, exists_eq_left', Option.some.injEq, Value.int.injEq, Value.ref.injEq, Value.long.injEq, true_and, and_true, exists_eq, exists_true_left, FdF_0, FdF_s0, FdF_1, FdF_s1, FdF_2, FdF_s2, FdF_3, FdF_s3, FdF_4, FdF_5, FdF_6, FdF_7, FdF_len, Fdw_ob, Fdw_uob, Fdw_4, Fdw_g4, Fdw_v4, Fdw_u4, Fdw_5, Fdw_g5, Fdw_v5, Fdw_u5, Fdw_6, Fdw_g6, Fdw_v6, Fdw_u6, Fdw_7, Fdw_g7, Fdw_v7, Fdw_u7, WdF_0, WdF_1, WdF_len, Wdw_ob, Wdw_0, Wdw_g0, Wdw_v0, Wdw_u0, Wdw_1, Wdw_g1, Wdw_v1, Wdw_u1, AuF_0, AuF_s0, AuF_1, AuF_2, AuF_3, AuF_4, AuF_5, AuF_6, AuF_7, AuF_8, AuF_len, Auw_ob, Auw_uob, Auw_1, Auw_g1, Auw_v1, Auw_u1, Auw_2, Auw_g2, Auw_v2, Auw_u2, Auw_3, Auw_g3, Auw_v3, Auw_u3, Auw_4, Auw_g4, Auw_v4, Auw_u4, Auw_5, Auw_g5, Auw_v5, Auw_u5, Auw_6, Auw_g6, Auw_v6, Auw_u6, Auw_7, Auw_g7, Auw_v7, Auw_u7, Auw_8, Auw_g8, Auw_v8, Auw_u8, SgF_0, SgF_s0, SgF_1, SgF_2, SgF_3, SgF_len, Sgw_ob, Sgw_uob, Sgw_1, Sgw_g1, Sgw_v1, Sgw_u1, Sgw_2, Sgw_g2, Sgw_v2, Sgw_u2, Sgw_3, Sgw_g3, Sgw_v3, Sgw_u3, RdF_0, RdF_1, RdF_2, RdF_s2, RdF_3, RdF_s3, RdF_4, RdF_s4, RdF_5, RdF_s5, RdF_6, RdF_s6, RdF_7, RdF_s7, RdF_8, RdF_s8, RdF_9, RdF_10, RdF_11, RdF_s11, RdF_12, RdF_s12, RdF_13, RdF_s13, RdF_14, RdF_s14, RdF_len, Rdw_ob, Rdw_uob, Rdw_9, Rdw_g9, Rdw_v9, Rdw_u9, Rdw_10, Rdw_g10, Rdw_v10, Rdw_u10, FlF_0, FlF_s0, FlF_1, FlF_s1, FlF_2, FlF_s2, FlF_3, FlF_s3, FlF_4, FlF_5, FlF_6, FlF_7, FlF_s7, FlF_8, FlF_s8, FlF_9, FlF_s9, FlF_10, FlF_s10, FlF_11, FlF_s11, FlF_len, Flw_ob, Flw_uob, Flw_pob, Flw_upob, Flw_p1, Flw_p2, Flw_p3, Flw_lob, Flw_ulob, Flw_l1, Flw_l2, Flw_l3, Flw_rob, Nat.reduceLT, rup_s, rup_rup]
      rw [lit_26, pk_mul, nI_add, nI_clamp (show m * 26 + i < 2 ^ 31 by omega), Nat.mul_comm m 26, q7 (26 * m + i) (Or.inr (Nat.le_refl _))]
      have ev : r' 7 (26 * f + i) = nI (auNx (nodesOf wd) f i) := (q7 _ (Or.inl (by omega))).trans (i2 f i (by omega) (by omega) hf)
      refine ⟨vp_in_nI (by omega) (by decide), fun z => b_A_link_4 ?_, fun z => c_nextOf0 (n := f) (l := i) At_bw rfl rfl (by omega) (by omega) ⟨_, rfl, ?_⟩⟩
      · rw [nI_1]
        refine ih (i + 1) r' (by omega) q1 q2 q3 q4 q5 q6 (fun t ht => q7 t (by omega)) (fun l hl => ?_)
        by_cases e : l = i
        · have hin : nGet (nodesOf wd) m ++ [i] ∈ nodesOf wd := Classical.byContradiction (fun t => z (g2 t))
          obtain ⟨j, hj, ej⟩ := nGet_of hin
          rw [e, q7 _ (Or.inr (Nat.le_refl _)), g1 j hj ej, nx_hit hw hj ej]
        · exact q8 l (by omega)
      · simp only [and_assoc, exists_and_left, exists_eq_left, exists_eq_left', Option.some.injEq, Value.int.injEq, Value.ref.injEq, Value.long.injEq, true_and, and_true, exists_eq, exists_true_left, FdF_0, FdF_s0, FdF_1, FdF_s1, FdF_2, FdF_s2, FdF_3, FdF_s3, FdF_4, FdF_5, FdF_6, FdF_7, FdF_len, Fdw_ob, Fdw_uob, Fdw_4, Fdw_g4, Fdw_v4, Fdw_u4, Fdw_5, Fdw_g5, Fdw_v5, Fdw_u5, Fdw_6, Fdw_g6, Fdw_v6, Fdw_u6, Fdw_7, Fdw_g7, Fdw_v7, Fdw_u7, WdF_0, WdF_1, WdF_len, Wdw_ob, Wdw_0, Wdw_g0, Wdw_v0, Wdw_u0, Wdw_1, Wdw_g1, Wdw_v1, Wdw_u1, AuF_0, AuF_s0, AuF_1, AuF_2, AuF_3, AuF_4, AuF_5, AuF_6, AuF_7, AuF_8, AuF_len, Auw_ob, Auw_uob, Auw_1, Auw_g1, Auw_v1, Auw_u1, Auw_2, Auw_g2, Auw_v2, Auw_u2, Auw_3, Auw_g3, Auw_v3, Auw_u3, Auw_4, Auw_g4, Auw_v4, Auw_u4, Auw_5, Auw_g5, Auw_v5, Auw_u5, Auw_6, Auw_g6, Auw_v6, Auw_u6, Auw_7, Auw_g7, Auw_v7, Auw_u7, Auw_8, Auw_g8, Auw_v8, Auw_u8, SgF_0, SgF_s0, SgF_1, SgF_2, SgF_3, SgF_len, Sgw_ob, Sgw_uob, Sgw_1, Sgw_g1, Sgw_v1, Sgw_u1, Sgw_2, Sgw_g2, Sgw_v2, Sgw_u2, Sgw_3, Sgw_g3, Sgw_v3, Sgw_u3, RdF_0, RdF_1, RdF_2, RdF_s2, RdF_3, RdF_s3, RdF_4, RdF_s4, RdF_5, RdF_s5, RdF_6, RdF_s6, RdF_7, RdF_s7, RdF_8, RdF_s8, RdF_9, RdF_10, RdF_11, RdF_s11, RdF_12, RdF_s12, RdF_13, RdF_s13, RdF_14, RdF_s14, RdF_len, Rdw_ob, Rdw_uob, Rdw_9, Rdw_g9, Rdw_v9, Rdw_u9, Rdw_10, Rdw_g10, Rdw_v10, Rdw_u10, FlF_0, FlF_s0, FlF_1, FlF_s1, FlF_2, FlF_s2, FlF_3, FlF_s3, FlF_4, FlF_5, FlF_6, FlF_7, FlF_s7, FlF_8, FlF_s8, FlF_9, FlF_s9, FlF_10, FlF_s10, FlF_11, FlF_s11, FlF_len, Flw_ob, Flw_uob, Flw_pob, Flw_upob, Flw_p1, Flw_p2, Flw_p3, Flw_lob, Flw_ulob, Flw_l1, Flw_l2, Flw_l3, Flw_rob, Nat.reduceLT, rup_s, rup_rup]
        rw [ev]
        refine ⟨vp_in_nI (by omega) (by decide), b_A_link_4 ?_⟩
        rw [nI_1]
        have hno : nGet (nodesOf wd) m ++ [i] ∉ nodesOf wd := fun t => by
          obtain ⟨j, hj, ej⟩ := nGet_of t
          rw [g1 j hj ej] at z
          have : j = 0 := (nI_eq (b := 0) (by omega) (by decide)).mp z
          rw [this, nGet0 hN] at ej
          exact snoc_ne ej.symm
        refine ih (i + 1) _ (by omega) q1 q2 q3 q4 q5 q6 (fun t ht => ?_) (fun l hl => ?_)
        · exact (upd_n (by omega)).trans (q7 t (by omega))
        · by_cases e : l = i
          · rw [e]
            refine upd_s.trans ?_
            rw [nx_miss hw hm h0 hno, ← ef]
          · exact (upd_n (by omega)).trans (q8 l (by omega))
  have tail : ∀ y : Int32, y = nI f → zwp n_A_link 2 [(0, .ref s), (1, .int (nI m))] [.int y] 0 0 (Auw W s c r) K := by
    intro y ey
    subst ey
    refine b_A_link_2 ?_
    simp only [and_assoc, exists_and_left, exists_eq_left, exists_eq_left', Option.some.injEq, Value.int.injEq, Value.ref.injEq, Value.long.injEq, true_and, and_true, exists_eq, exists_true_left, FdF_0, FdF_s0, FdF_1, FdF_s1, FdF_2, FdF_s2, FdF_3, FdF_s3, FdF_4, FdF_5, FdF_6, FdF_7, FdF_len, Fdw_ob, Fdw_uob, Fdw_4, Fdw_g4, Fdw_v4, Fdw_u4, Fdw_5, Fdw_g5, Fdw_v5, Fdw_u5, Fdw_6, Fdw_g6, Fdw_v6, Fdw_u6, Fdw_7, Fdw_g7, Fdw_v7, Fdw_u7, WdF_0, WdF_1, WdF_len, Wdw_ob, Wdw_0, Wdw_g0, Wdw_v0, Wdw_u0, Wdw_1, Wdw_g1, Wdw_v1, Wdw_u1, AuF_0, AuF_s0, AuF_1, AuF_2, AuF_3, AuF_4, AuF_5, AuF_6, AuF_7, AuF_8, AuF_len, Auw_ob, Auw_uob, Auw_1, Auw_g1, Auw_v1, Auw_u1, Auw_2, Auw_g2, Auw_v2, Auw_u2, Auw_3, Auw_g3, Auw_v3, Auw_u3, Auw_4, Auw_g4, Auw_v4, Auw_u4, Auw_5, Auw_g5, Auw_v5, Auw_u5, Auw_6, Auw_g6, Auw_v6, Auw_u6, Auw_7, Auw_g7, Auw_v7, Auw_u7, Auw_8, Auw_g8, Auw_v8, Auw_u8, SgF_0, SgF_s0, SgF_1, SgF_2, SgF_3, SgF_len, Sgw_ob, Sgw_uob, Sgw_1, Sgw_g1, Sgw_v1, Sgw_u1, Sgw_2, Sgw_g2, Sgw_v2, Sgw_u2, Sgw_3, Sgw_g3, Sgw_v3, Sgw_u3, RdF_0, RdF_1, RdF_2, RdF_s2, RdF_3, RdF_s3, RdF_4, RdF_s4, RdF_5, RdF_s5, RdF_6, RdF_s6, RdF_7, RdF_s7, RdF_8, RdF_s8, RdF_9, RdF_10, RdF_11, RdF_s11, RdF_12, RdF_s12, RdF_13, RdF_s13, RdF_14, RdF_s14, RdF_len, Rdw_ob, Rdw_uob, Rdw_9, Rdw_g9, Rdw_v9, Rdw_u9, Rdw_10, Rdw_g10, Rdw_v10, Rdw_u10, FlF_0, FlF_s0, FlF_1, FlF_s1, FlF_2, FlF_s2, FlF_3, FlF_s3, FlF_4, FlF_5, FlF_6, FlF_7, FlF_s7, FlF_8, FlF_s8, FlF_9, FlF_s9, FlF_10, FlF_s10, FlF_11, FlF_s11, FlF_len, Flw_ob, Flw_uob, Flw_pob, Flw_upob, Flw_p1, Flw_p2, Flw_p3, Flw_lob, Flw_ulob, Flw_l1, Flw_l2, Flw_l3, Flw_rob, Nat.reduceLT, rup_s, rup_rup]
    rw [nI_clamp (show m < 2 ^ 31 by omega)]
    refine ⟨vp_in_nI (by omega) (by decide), vp_in_nI (by omega) (by decide), c_wordsOf0 (n := f) At_bw rfl (by omega) ⟨_, rfl, ?_⟩⟩
    simp only [and_assoc, exists_and_left, exists_eq_left, exists_eq_left', Option.some.injEq, Value.int.injEq, Value.ref.injEq, Value.long.injEq, true_and, and_true, exists_eq, exists_true_left, FdF_0, FdF_s0, FdF_1, FdF_s1, FdF_2, FdF_s2, FdF_3, FdF_s3, FdF_4, FdF_5, FdF_6, FdF_7, FdF_len, Fdw_ob, Fdw_uob, Fdw_4, Fdw_g4, Fdw_v4, Fdw_u4, Fdw_5, Fdw_g5, Fdw_v5, Fdw_u5, Fdw_6, Fdw_g6, Fdw_v6, Fdw_u6, Fdw_7, Fdw_g7, Fdw_v7, Fdw_u7, WdF_0, WdF_1, WdF_len, Wdw_ob, Wdw_0, Wdw_g0, Wdw_v0, Wdw_u0, Wdw_1, Wdw_g1, Wdw_v1, Wdw_u1, AuF_0, AuF_s0, AuF_1, AuF_2, AuF_3, AuF_4, AuF_5, AuF_6, AuF_7, AuF_8, AuF_len, Auw_ob, Auw_uob, Auw_1, Auw_g1, Auw_v1, Auw_u1, Auw_2, Auw_g2, Auw_v2, Auw_u2, Auw_3, Auw_g3, Auw_v3, Auw_u3, Auw_4, Auw_g4, Auw_v4, Auw_u4, Auw_5, Auw_g5, Auw_v5, Auw_u5, Auw_6, Auw_g6, Auw_v6, Auw_u6, Auw_7, Auw_g7, Auw_v7, Auw_u7, Auw_8, Auw_g8, Auw_v8, Auw_u8, SgF_0, SgF_s0, SgF_1, SgF_2, SgF_3, SgF_len, Sgw_ob, Sgw_uob, Sgw_1, Sgw_g1, Sgw_v1, Sgw_u1, Sgw_2, Sgw_g2, Sgw_v2, Sgw_u2, Sgw_3, Sgw_g3, Sgw_v3, Sgw_u3, RdF_0, RdF_1, RdF_2, RdF_s2, RdF_3, RdF_s3, RdF_4, RdF_s4, RdF_5, RdF_s5, RdF_6, RdF_s6, RdF_7, RdF_s7, RdF_8, RdF_s8, RdF_9, RdF_10, RdF_11, RdF_s11, RdF_12, RdF_s12, RdF_13, RdF_s13, RdF_14, RdF_s14, RdF_len, Rdw_ob, Rdw_uob, Rdw_9, Rdw_g9, Rdw_v9, Rdw_u9, Rdw_10, Rdw_g10, Rdw_v10, Rdw_u10, FlF_0, FlF_s0, FlF_1, FlF_s1, FlF_2, FlF_s2, FlF_3, FlF_s3, FlF_4, FlF_5, FlF_6, FlF_7, FlF_s7, FlF_8, FlF_s8, FlF_9, FlF_s9, FlF_10, FlF_s10, FlF_11, FlF_s11, FlF_len, Flw_ob, Flw_uob, Flw_pob, Flw_upob, Flw_p1, Flw_p2, Flw_p3, Flw_lob, Flw_ulob, Flw_l1, Flw_l2, Flw_l3, Flw_rob, Nat.reduceLT, rup_s, rup_rup]
    refine ⟨vp_in_nI (by omega) (by decide), ?_⟩
    refine loop 26 0 _ rfl rfl rfl rfl rfl ?_ rfl (fun _ _ => rfl) (fun l hl => absurd hl (Nat.not_lt_zero _))
    show upd (r 5) m (r 5 m ||| r 5 f) = _
    rw [m2, (i1 f (by omega)).2.1, if_pos hf, nI_or, ← hsf]
  rw [← Auw_eq hW]
  refine e_A_link (b_A_link_0 ?_)
  simp only [and_assoc, exists_and_left, exists_eq_left, exists_eq_left', Option.some.injEq, Value.int.injEq, Value.ref.injEq, Value.long.injEq, true_and, and_true, exists_eq, exists_true_left, FdF_0, FdF_s0, FdF_1, FdF_s1, FdF_2, FdF_s2, FdF_3, FdF_s3, FdF_4, FdF_5, FdF_6, FdF_7, FdF_len, Fdw_ob, Fdw_uob, Fdw_4, Fdw_g4, Fdw_v4, Fdw_u4, Fdw_5, Fdw_g5, Fdw_v5, Fdw_u5, Fdw_6, Fdw_g6, Fdw_v6, Fdw_u6, Fdw_7, Fdw_g7, Fdw_v7, Fdw_u7, WdF_0, WdF_1, WdF_len, Wdw_ob, Wdw_0, Wdw_g0, Wdw_v0, Wdw_u0, Wdw_1, Wdw_g1, Wdw_v1, Wdw_u1, AuF_0, AuF_s0, AuF_1, AuF_2, AuF_3, AuF_4, AuF_5, AuF_6, AuF_7, AuF_8, AuF_len, Auw_ob, Auw_uob, Auw_1, Auw_g1, Auw_v1, Auw_u1, Auw_2, Auw_g2, Auw_v2, Auw_u2, Auw_3, Auw_g3, Auw_v3, Auw_u3, Auw_4, Auw_g4, Auw_v4, Auw_u4, Auw_5, Auw_g5, Auw_v5, Auw_u5, Auw_6, Auw_g6, Auw_v6, Auw_u6, Auw_7, Auw_g7, Auw_v7, Auw_u7, Auw_8, Auw_g8, Auw_v8, Auw_u8, SgF_0, SgF_s0, SgF_1, SgF_2, SgF_3, SgF_len, Sgw_ob, Sgw_uob, Sgw_1, Sgw_g1, Sgw_v1, Sgw_u1, Sgw_2, Sgw_g2, Sgw_v2, Sgw_u2, Sgw_3, Sgw_g3, Sgw_v3, Sgw_u3, RdF_0, RdF_1, RdF_2, RdF_s2, RdF_3, RdF_s3, RdF_4, RdF_s4, RdF_5, RdF_s5, RdF_6, RdF_s6, RdF_7, RdF_s7, RdF_8, RdF_s8, RdF_9, RdF_10, RdF_11, RdF_s11, RdF_12, RdF_s12, RdF_13, RdF_s13, RdF_14, RdF_s14, RdF_len, Rdw_ob, Rdw_uob, Rdw_9, Rdw_g9, Rdw_v9, Rdw_u9, Rdw_10, Rdw_g10, Rdw_v10, Rdw_u10, FlF_0, FlF_s0, FlF_1, FlF_s1, FlF_2, FlF_s2, FlF_3, FlF_s3, FlF_4, FlF_5, FlF_6, FlF_7, FlF_s7, FlF_8, FlF_s8, FlF_9, FlF_s9, FlF_10, FlF_s10, FlF_11, FlF_s11, FlF_len, Flw_ob, Flw_uob, Flw_pob, Flw_upob, Flw_p1, Flw_p2, Flw_p3, Flw_lob, Flw_ulob, Flw_l1, Flw_l2, Flw_l3, Flw_rob, Nat.reduceLT, rup_s, rup_rup]
  rw [nI_clamp (show m < 2 ^ 31 by omega), m4]
  refine ⟨vp_in_nI (by omega) (by decide), fun z => b_A_link_1 (tail 0 ?_), fun z => ⟨fun y => absurd ((nI_leI (by omega) (by omega)).mp y) (by omega), fun _ => ?_⟩⟩
  · have hp0 : p = 0 := Nat.le_zero.mp ((nI_leI (b := 0) (by omega) (by decide)).mp z)
    rw [if_pos hp0] at hfp
    rw [hfp]; rfl
  · have hp0 : p ≠ 0 := fun t => z ((nI_leI (b := 0) (by omega) (by decide)).mpr (by omega))
    obtain ⟨-, -, p3⟩ := i1 p hp
    have hfl := fa_lt hw hp (by omega)
    rw [if_neg hp0] at hfp
    rw [nI_clamp (show p < 2 ^ 31 by omega), (p3 hp0).2.2 hpm, m5]
    refine ⟨vp_in_nI (by omega) (by decide), vp_in_nI (by omega) (by decide), c_nextOf0 (n := auFa (nodesOf wd) p) (l := l) At_bw rfl rfl (by omega) hl ⟨_, rfl, tail _ ?_⟩⟩
    rw [i2 _ l (by omega) hl (by omega), ← hfp]
def AUx (c : Nat → Int32) (r : Nat → Nat → Int32) (wd : Nat → List Nat) : Prop := LI wd (nodesOf wd).length c r
theorem AUx_AUr (h : AUx c r wd) : AUr c r (auOf wd) := ⟨h.1, fun n l hn hl => h.2.2.1 n l hn hl hn, fun n hn => by
  have := (h.2.1 n hn).2.1
  rw [if_pos (show n < (nodesOf wd).length from hn)] at this; exact this, h.2.2.2.2⟩
theorem AUx_z (hw : wdOk wd) (h : AUx c r wd) : r 1 0 = 0 ∧ r 5 0 = 0 := by
  obtain ⟨hN, -⟩ := nodes_ok hw
  have h1 := h.2.1 0 (nl_pos hN)
  rw [if_pos (show 0 < (nodesOf wd).length from nl_pos hN), show setK wd (nGet (nodesOf wd) 0) 6 = 0 from (au_ok hw).2.2.2.2.1, nGet0 hN] at h1
  exact ⟨h1.1, h1.2.1⟩
def PO (wd : Nat → List Nat) (n p : Nat) : Prop := 0 < n ∧ n ≤ (nodesOf wd).length ∧ ∀ i j l, i < (nodesOf wd).length → j < (nodesOf wd).length → nGet (nodesOf wd) i = nGet (nodesOf wd) j ++ [l] → (i < n ↔ j < p)
theorem snoc_l26 {x : List Nat} {l i : Nat} (hw : wdOk wd) (hi : i < (nodesOf wd).length) (e : nGet (nodesOf wd) i = x ++ [l]) : l < 26 := by
  obtain ⟨hN, -⟩ := nodes_ok hw
  exact (hN.2.1 _ (nGet_mem hi)).1 l (by rw [e]; exact List.mem_append.mpr (Or.inr (List.mem_singleton.mpr rfl)))
theorem srt_iff {N : aNL} (h : srt N) {i j : Nat} (hi : i < N.length) (hj : j < N.length) : enc (nGet N i) < enc (nGet N j) ↔ i < j := by
  constructor
  · intro h1
    rcases Nat.lt_trichotomy i j with h2 | h2 | h2
    · exact h2
    · rw [h2] at h1; omega
    · have := srt_lt h h2 hi; omega
  · exact fun h1 => srt_lt h h1 hj
theorem PO_ord {n p : Nat} (hw : wdOk wd) (hp : p < (nodesOf wd).length) (h : PO wd n p) : Ord wd n (27 * enc (nGet (nodesOf wd) p) + 1) := by
  obtain ⟨hN, -⟩ := nodes_ok hw
  refine ⟨h.2.1, fun i hi => ?_⟩
  rcases Nat.eq_zero_or_pos i with h0 | h0
  · rw [h0, nGet0 hN]
    exact ⟨fun _ => Nat.succ_le_succ (Nat.zero_le _), fun _ => h.1⟩
  · obtain ⟨j, l, hj, hl, e⟩ := par_of hw hi h0
    rw [h.2.2 i j l hi (by omega) e, e, enc_snoc, ← srt_iff hN.1 (show j < (nodesOf wd).length by omega) hp]
    omega
theorem ord_PO {n p : Nat} (hw : wdOk wd) (hp : p < (nodesOf wd).length) (h0 : 0 < n) (h : Ord wd n (27 * enc (nGet (nodesOf wd) p) + 27)) : PO wd n (p + 1) := by
  obtain ⟨hN, -⟩ := nodes_ok hw
  refine ⟨h0, h.1, fun i j l hi hj e => ?_⟩
  have hl := snoc_l26 hw hi e
  have h2 := srt_iff hN.1 hp hj
  rw [h.2 i hi, e, enc_snoc]
  omega
theorem c_build {w : Nat} {rw' : Nat → Nat → Int32} (hW : At W s 9 (AuC s c r)) (hV : At W w 3 (WdC w rw')) (hd : s + 9 ≤ w ∨ w + 3 ≤ s) (hD : WDr rw' wd) (hw : wdOk wd) (hz : r 1 0 = 0 ∧ r 5 0 = 0) (hK : ∀ c' r', AUx c' r' wd → K (Auw W s c' r') none) : zcall n_A_build [.ref s, .ref w] W K := by
  obtain ⟨hN, h49⟩ := nodes_ok hw
  have hAt : ∀ c r, At (Auw W s c r) s 9 (AuC s c r) := fun c r => At_bw
  have hVt : ∀ c r, At (Auw W s c r) w 3 (WdC w rw') := fun c r => At_out hV (by omega)
  have hob : ∀ c r, ∃ fs, jx_ob (Auw W s c r) s 0 fs := fun c r => ⟨_, hAt c r 0 (by decide)⟩
  have hww : ∀ c r c' r', Auw (Auw W s c r) s c' r' = Auw W s c' r' := fun c r c' r' => bw_same
  have o1 : ∀ c r fs, jx_ob (Auw W s c r) w 6 fs ↔ fs = WdF w := fun c r fs => ob_iff (hVt c r 0 (by decide))
  have o2 : ∀ c r m f, jx_ia (Auw W s c r) (w + 1) m f ↔ m = 6 ∧ f = rw' 0 := fun c r m f => ia_iff (hVt c r 1 (by decide))
  -- links
  have links : ∀ (k m : Nat) (c : Nat → Int32) (r : Nat → Nat → Int32), m + k = (nodesOf wd).length → 0 < m → LI wd m c r → zwp n_A_build 7 [(0, .ref s), (3, .int (nI m))] [] 0 0 (Auw W s c r) K := by
    intro k
    induction k with
    | zero =>
      intro m c r hm h0 hI
      refine b_A_build_7 ?_
      simp only [and_assoc, exists_and_left, exists_eq_left, exists_eq_left', Option.some.injEq, Value.int.injEq, Value.ref.injEq, Value.long.injEq, true_and, and_true, exists_eq, exists_true_left, FdF_0, FdF_s0, FdF_1, FdF_s1, FdF_2, FdF_s2, FdF_3, FdF_s3, FdF_4, FdF_5, FdF_6, FdF_7, FdF_len, Fdw_ob, Fdw_uob, Fdw_4, Fdw_g4, Fdw_v4, Fdw_u4, Fdw_5, Fdw_g5, Fdw_v5, Fdw_u5, Fdw_6, Fdw_g6, Fdw_v6, Fdw_u6, Fdw_7, Fdw_g7, Fdw_v7, Fdw_u7, WdF_0, WdF_1, WdF_len, Wdw_ob, Wdw_0, Wdw_g0, Wdw_v0, Wdw_u0, Wdw_1, Wdw_g1, Wdw_v1, Wdw_u1, AuF_0, AuF_s0, AuF_1, AuF_2, AuF_3, AuF_4, AuF_5, AuF_6, AuF_7, AuF_8, AuF_len, Auw_ob, Auw_uob, Auw_1, Auw_g1, Auw_v1, Auw_u1, Auw_2, Auw_g2, Auw_v2, Auw_u2, Auw_3, Auw_g3, Auw_v3, Auw_u3, Auw_4, Auw_g4, Auw_v4, Auw_u4, Auw_5, Auw_g5, Auw_v5, Auw_u5, Auw_6, Auw_g6, Auw_v6, Auw_u6, Auw_7, Auw_g7, Auw_v7, Auw_u7, Auw_8, Auw_g8, Auw_v8, Auw_u8, SgF_0, SgF_s0, SgF_1, SgF_2, SgF_3, SgF_len, Sgw_ob, Sgw_uob, Sgw_1, Sgw_g1, Sgw_v1, Sgw_u1, Sgw_2, Sgw_g2, Sgw_v2, Sgw_u2, Sgw_3, Sgw_g3, Sgw_v3, Sgw_u3, RdF_0, RdF_1, RdF_2, RdF_s2, RdF_3, RdF_s3, RdF_4, RdF_s4, RdF_5, RdF_s5, RdF_6, RdF_s6, RdF_7, RdF_s7, RdF_8, RdF_s8, RdF_9, RdF_10, RdF_11, RdF_s11, RdF_12, RdF_s12, RdF_13, RdF_s13, RdF_14, RdF_s14, RdF_len, Rdw_ob, Rdw_uob, Rdw_9, Rdw_g9, Rdw_v9, Rdw_u9, Rdw_10, Rdw_g10, Rdw_v10, Rdw_u10, FlF_0, FlF_s0, FlF_1, FlF_s1, FlF_2, FlF_s2, FlF_3, FlF_s3, FlF_4, FlF_5, FlF_6, FlF_7, FlF_s7, FlF_8, FlF_s8, FlF_9, FlF_s9, FlF_10, FlF_s10, FlF_11, FlF_s11, FlF_len, Flw_ob, Flw_uob, Flw_pob, Flw_upob, Flw_p1, Flw_p2, Flw_p3, Flw_lob, Flw_ulob, Flw_l1, Flw_l2, Flw_l3, Flw_rob, Nat.reduceLT, rup_s, rup_rup]
      rw [hI.1]
      refine ⟨fun _ => b_A_build_8 (hK c r ?_), fun z => absurd ((nI_leI (by omega) (by omega)).mpr (by omega)) z⟩
      rw [show m = (nodesOf wd).length by omega] at hI
      exact hI
    | succ k ih =>
      intro m c r hm h0 hI
      refine b_A_build_7 ?_
      simp only [and_assoc, exists_and_left, exists_eq_left, exists_eq_left', Option.some.injEq, Value.int.injEq, Value.ref.injEq, Value.long.injEq, true_and, and_true, exists_eq, exists_true_left, FdF_0, FdF_s0, FdF_1, FdF_s1, FdF_2, FdF_s2, FdF_3, FdF_s3, FdF_4, FdF_5, FdF_6, FdF_7, FdF_len, Fdw_ob, Fdw_uob, Fdw_4, Fdw_g4, Fdw_v4, Fdw_u4, Fdw_5, Fdw_g5, Fdw_v5, Fdw_u5, Fdw_6, Fdw_g6, Fdw_v6, Fdw_u6, Fdw_7, Fdw_g7, Fdw_v7, Fdw_u7, WdF_0, WdF_1, WdF_len, Wdw_ob, Wdw_0, Wdw_g0, Wdw_v0, Wdw_u0, Wdw_1, Wdw_g1, Wdw_v1, Wdw_u1, AuF_0, AuF_s0, AuF_1, AuF_2, AuF_3, AuF_4, AuF_5, AuF_6, AuF_7, AuF_8, AuF_len, Auw_ob, Auw_uob, Auw_1, Auw_g1, Auw_v1, Auw_u1, Auw_2, Auw_g2, Auw_v2, Auw_u2, Auw_3, Auw_g3, Auw_v3, Auw_u3, Auw_4, Auw_g4, Auw_v4, Auw_u4, Auw_5, Auw_g5, Auw_v5, Auw_u5, Auw_6, Auw_g6, Auw_v6, Auw_u6, Auw_7, Auw_g7, Auw_v7, Auw_u7, Auw_8, Auw_g8, Auw_v8, Auw_u8, SgF_0, SgF_s0, SgF_1, SgF_2, SgF_3, SgF_len, Sgw_ob, Sgw_uob, Sgw_1, Sgw_g1, Sgw_v1, Sgw_u1, Sgw_2, Sgw_g2, Sgw_v2, Sgw_u2, Sgw_3, Sgw_g3, Sgw_v3, Sgw_u3, RdF_0, RdF_1, RdF_2, RdF_s2, RdF_3, RdF_s3, RdF_4, RdF_s4, RdF_5, RdF_s5, RdF_6, RdF_s6, RdF_7, RdF_s7, RdF_8, RdF_s8, RdF_9, RdF_10, RdF_11, RdF_s11, RdF_12, RdF_s12, RdF_13, RdF_s13, RdF_14, RdF_s14, RdF_len, Rdw_ob, Rdw_uob, Rdw_9, Rdw_g9, Rdw_v9, Rdw_u9, Rdw_10, Rdw_g10, Rdw_v10, Rdw_u10, FlF_0, FlF_s0, FlF_1, FlF_s1, FlF_2, FlF_s2, FlF_3, FlF_s3, FlF_4, FlF_5, FlF_6, FlF_7, FlF_s7, FlF_8, FlF_s8, FlF_9, FlF_s9, FlF_10, FlF_s10, FlF_11, FlF_s11, FlF_len, Flw_ob, Flw_uob, Flw_pob, Flw_upob, Flw_p1, Flw_p2, Flw_p3, Flw_lob, Flw_ulob, Flw_l1, Flw_l2, Flw_l3, Flw_rob, Nat.reduceLT, rup_s, rup_rup]
      rw [hI.1]
      refine ⟨fun z => absurd ((nI_leI (by omega) (by omega)).mp z) (by omega), fun _ => c_link (hAt c r) hw (m := m) (by omega) h0 rfl hI (fun r' h => ⟨rfl, ?_⟩)⟩
      rw [hww, nI_1]
      exact ih (m + 1) c r' (by omega) (by omega) h
  -- levels
  have levels : ∀ (k L n f : Nat) (c : Nat → Int32) (r : Nat → Nat → Int32), L + k = 9 → 0 < L → BI wd n c r → n ≤ (nodesOf wd).length → 0 < n → f ≤ n → (∀ i, i < (nodesOf wd).length → (i < n ↔ (nGet (nodesOf wd) i).length < L)) → (∀ i, i < (nodesOf wd).length → (i < f ↔ (nGet (nodesOf wd) i).length + 1 < L)) → zwp n_A_build 3 [(0, .ref s), (1, .ref w), (2, .int (nI f)), (3, .int (nI L))] [] 0 0 (Auw W s c r) K := by
    intro k
    induction k with
    | zero =>
      intro L n f c r hL h0 hB hn hn0 hf h1 h2
      obtain rfl : L = 9 := by omega
      have : n = (nodesOf wd).length := by
        have hp := nl_pos hN
        have := (h1 ((nodesOf wd).length - 1) (by omega)).mpr (by have := (hN.2.1 _ (nGet_mem (N := nodesOf wd) (i := (nodesOf wd).length - 1) (by omega))).2; omega)
        omega
      rw [this] at hB
      exact b_A_build_3 ⟨fun _ => b_A_build_6 (links ((nodesOf wd).length - 1) 1 c r (by have := nl_pos hN; omega) (by decide) (BI_LI hw hB)), fun z => absurd (by decide) z⟩
    | succ k ih =>
      intro L n0 f c r hL h0 hB hn hn0 hf h1 h2
      refine b_A_build_3 ⟨fun z => absurd ((nI_ltI (a := 8) (by decide) (by omega)).mp z) (by omega), fun _ => ?_⟩
      simp only [and_assoc, exists_and_left, exists_eq_left, exists_eq_left', Option.some.injEq, Value.int.injEq, Value.ref.injEq, Value.long.injEq, true_and, and_true, exists_eq, exists_true_left, FdF_0, FdF_s0, FdF_1, FdF_s1, FdF_2, FdF_s2, FdF_3, FdF_s3, FdF_4, FdF_5, FdF_6, FdF_7, FdF_len, Fdw_ob, Fdw_uob, Fdw_4, Fdw_g4, Fdw_v4, Fdw_u4, Fdw_5, Fdw_g5, Fdw_v5, Fdw_u5, Fdw_6, Fdw_g6, Fdw_v6, Fdw_u6, Fdw_7, Fdw_g7, Fdw_v7, Fdw_u7, WdF_0, WdF_1, WdF_len, Wdw_ob, Wdw_0, Wdw_g0, Wdw_v0, Wdw_u0, Wdw_1, Wdw_g1, Wdw_v1, Wdw_u1, AuF_0, AuF_s0, AuF_1, AuF_2, AuF_3, AuF_4, AuF_5, AuF_6, AuF_7, AuF_8, AuF_len, Auw_ob, Auw_uob, Auw_1, Auw_g1, Auw_v1, Auw_u1, Auw_2, Auw_g2, Auw_v2, Auw_u2, Auw_3, Auw_g3, Auw_v3, Auw_u3, Auw_4, Auw_g4, Auw_v4, Auw_u4, Auw_5, Auw_g5, Auw_v5, Auw_u5, Auw_6, Auw_g6, Auw_v6, Auw_u6, Auw_7, Auw_g7, Auw_v7, Auw_u7, Auw_8, Auw_g8, Auw_v8, Auw_u8, SgF_0, SgF_s0, SgF_1, SgF_2, SgF_3, SgF_len, Sgw_ob, Sgw_uob, Sgw_1, Sgw_g1, Sgw_v1, Sgw_u1, Sgw_2, Sgw_g2, Sgw_v2, Sgw_u2, Sgw_3, Sgw_g3, Sgw_v3, Sgw_u3, RdF_0, RdF_1, RdF_2, RdF_s2, RdF_3, RdF_s3, RdF_4, RdF_s4, RdF_5, RdF_s5, RdF_6, RdF_s6, RdF_7, RdF_s7, RdF_8, RdF_s8, RdF_9, RdF_10, RdF_11, RdF_s11, RdF_12, RdF_s12, RdF_13, RdF_s13, RdF_14, RdF_s14, RdF_len, Rdw_ob, Rdw_uob, Rdw_9, Rdw_g9, Rdw_v9, Rdw_u9, Rdw_10, Rdw_g10, Rdw_v10, Rdw_u10, FlF_0, FlF_s0, FlF_1, FlF_s1, FlF_2, FlF_s2, FlF_3, FlF_s3, FlF_4, FlF_5, FlF_6, FlF_7, FlF_s7, FlF_8, FlF_s8, FlF_9, FlF_s9, FlF_10, FlF_s10, FlF_11, FlF_s11, FlF_len, Flw_ob, Flw_uob, Flw_pob, Flw_upob, Flw_p1, Flw_p2, Flw_p3, Flw_lob, Flw_ulob, Flw_l1, Flw_l2, Flw_l3, Flw_rob, Nat.reduceLT, rup_s, rup_rup]
      rw [hB.1]
      have parents : ∀ (q p n : Nat) (c : Nat → Int32) (r : Nat → Nat → Int32), p + q = n0 → f ≤ p → BI wd n c r → PO wd n p → n0 ≤ n → zwp n_A_build 4 [(0, .ref s), (1, .ref w), (3, .int (nI L)), (4, .int (nI n0)), (5, .int (nI p))] [] 0 0 (Auw W s c r) K := by
        intro q
        induction q with
        | zero =>
          intro p n c r hp hfp hB' hP hnn
          obtain rfl : p = n0 := by omega
          refine b_A_build_4 ⟨fun _ => b_A_build_5 ?_, fun z => absurd (Int32.le_refl _) z⟩
          rw [nI_1]
          refine ih (L + 1) n p c r (by omega) (by omega) hB' hP.2.1 hP.1 hnn (fun i hi => ?_) (fun i hi => ?_)
          · rcases Nat.eq_zero_or_pos i with h0 | h0
            · rw [h0, nGet0 hN]
              exact ⟨fun _ => Nat.succ_le_succ (Nat.zero_le _), fun _ => hP.1⟩
            · obtain ⟨j, l, hj, hl, e⟩ := par_of hw hi h0
              rw [hP.2.2 i j l hi (by omega) e, h1 j (by omega), e, snoc_len]
              omega
          · rw [h1 i hi]; omega
        | succ q ihq =>
          intro p n c r hp hfp hB hP hnn
          have hpl : p < (nodesOf wd).length := by omega
          have g1 := (h1 p hpl).mp (by omega)
          have g2 : ¬ (nGet (nodesOf wd) p).length + 1 < L := fun t => absurd ((h2 p hpl).mpr t) (by omega)
          have eL : L = (nGet (nodesOf wd) p).length + 1 := by omega
          refine b_A_build_4 ⟨fun z => absurd ((nI_leI (by omega) (by omega)).mp z) (by omega), fun _ => ⟨hob c r, c_addChildren (p := p) (hAt c r) (hVt c r) hd hD hw hpl (by omega) rfl (by rw [← eL]) hB (PO_ord hw hpl hP) (fun n' c' r' k1 k2 k3 => ⟨rfl, ?_⟩)⟩⟩
          rw [hww, nI_1]
          exact ihq (p + 1) n' c' r' (by omega) (by omega) k1 (ord_PO hw hpl (by omega) k2) (by omega)
      refine parents (n0 - f) f n0 c r (by omega) (Nat.le_refl _) hB ⟨hn0, hn, fun i j l hi hj e => ?_⟩ (Nat.le_refl _)
      rw [h1 i hi, h2 j hj, e, snoc_len]
  -- words
  have words : ∀ (k v : Nat) (c : Nat → Int32) (r : Nat → Nat → Int32), v + k = 6 → c 0 = nI 1 → r 1 0 = 0 → r 5 0 = 0 → (∀ i, i < 1274 → r 7 i = 0) → (∀ u, u < v → r 6 u = nI (wd u).length ∧ r 8 u = 0) → zwp n_A_build 1 [(0, .ref s), (1, .ref w), (2, .int (nI v))] [] 0 0 (Auw W s c r) K := by
    intro k
    induction k with
    | zero =>
      intro v c r hv q0 q1 q5 q7 q6
      obtain rfl : v = 6 := by omega
      refine b_A_build_1 ⟨fun _ => b_A_build_2 ?_, fun z => absurd (by decide) z⟩
      refine levels 8 1 1 0 c r rfl (by decide) ⟨q0, fun i hi => ?_, fun i l hi hl => ?_, fun v hv => ⟨(q6 v hv).1, 0, 0, by decide, (q6 v hv).2, Nat.zero_le _, by rw [nGet0 hN]; rfl, fun h i hi ei => ?_⟩⟩ (nl_pos hN) (by decide) (by decide) (fun i hi => ?_) (fun i hi => ?_)
      · obtain rfl : i = 0 := by omega
        refine ⟨by rw [q1, nGet0 hN]; rfl, ?_, fun t => absurd rfl t⟩
        rw [q5, nGet0 hN]
        have : ownK wd [] 6 = 0 := Nat.eq_of_testBit_eq (fun u => by
          rw [Nat.zero_testBit]
          cases eb : (ownK wd [] 6).testBit u with
          | false => rfl
          | true =>
            have := ownK_bit.mp eb
            exact absurd (by rw [this.2.2]; rfl) this.2.1)
        rw [this]; rfl
      · refine ⟨fun j hj ej => ?_, fun _ => q7 _ (by omega)⟩
        rw [if_neg (fun t => ?_)]
        · exact q7 _ (by omega)
        · obtain rfl : j = 0 := by omega
          rw [nGet0 hN] at ej
          exact snoc_ne ej.symm
      · rcases Nat.eq_zero_or_pos i with h0 | h0
        · rw [h0, nGet0 hN] at ei
          have := congrArg List.length ei
          rw [take_len h] at this
          cases this
        · exact h0
      · rcases Nat.eq_zero_or_pos i with h0 | h0
        · rw [h0, nGet0 hN]
          exact ⟨fun _ => by decide, fun _ => by decide⟩
        · have := nGet_pos hN hi h0
          have := List.length_pos_iff.mpr this
          omega
      · omega
    | succ k ih =>
      intro v c r hv q0 q1 q5 q7 q6
      refine b_A_build_1 ⟨fun z => absurd ((nI_leI (a := 6) (by decide) (by omega)).mp z) (by omega), fun _ => ?_⟩
      simp only [and_assoc, exists_and_left, exists_eq_left, exists_eq_left', Option.some.injEq, Value.int.injEq, Value.ref.injEq, Value.long.injEq, true_and, and_true, exists_eq, exists_true_left, FdF_0, FdF_s0, FdF_1, FdF_s1, FdF_2, FdF_s2, FdF_3, FdF_s3, FdF_4, FdF_5, FdF_6, FdF_7, FdF_len, Fdw_ob, Fdw_uob, Fdw_4, Fdw_g4, Fdw_v4, Fdw_u4, Fdw_5, Fdw_g5, Fdw_v5, Fdw_u5, Fdw_6, Fdw_g6, Fdw_v6, Fdw_u6, Fdw_7, Fdw_g7, Fdw_v7, Fdw_u7, WdF_0, WdF_1, WdF_len, Wdw_ob, Wdw_0, Wdw_g0, Wdw_v0, Wdw_u0, Wdw_1, Wdw_g1, Wdw_v1, Wdw_u1, AuF_0, AuF_s0, AuF_1, AuF_2, AuF_3, AuF_4, AuF_5, AuF_6, AuF_7, AuF_8, AuF_len, Auw_ob, Auw_uob, Auw_1, Auw_g1, Auw_v1, Auw_u1, Auw_2, Auw_g2, Auw_v2, Auw_u2, Auw_3, Auw_g3, Auw_v3, Auw_u3, Auw_4, Auw_g4, Auw_v4, Auw_u4, Auw_5, Auw_g5, Auw_v5, Auw_u5, Auw_6, Auw_g6, Auw_v6, Auw_u6, Auw_7, Auw_g7, Auw_v7, Auw_u7, Auw_8, Auw_g8, Auw_v8, Auw_u8, SgF_0, SgF_s0, SgF_1, SgF_2, SgF_3, SgF_len, Sgw_ob, Sgw_uob, Sgw_1, Sgw_g1, Sgw_v1, Sgw_u1, Sgw_2, Sgw_g2, Sgw_v2, Sgw_u2, Sgw_3, Sgw_g3, Sgw_v3, Sgw_u3, RdF_0, RdF_1, RdF_2, RdF_s2, RdF_3, RdF_s3, RdF_4, RdF_s4, RdF_5, RdF_s5, RdF_6, RdF_s6, RdF_7, RdF_s7, RdF_8, RdF_s8, RdF_9, RdF_10, RdF_11, RdF_s11, RdF_12, RdF_s12, RdF_13, RdF_s13, RdF_14, RdF_s14, RdF_len, Rdw_ob, Rdw_uob, Rdw_9, Rdw_g9, Rdw_v9, Rdw_u9, Rdw_10, Rdw_g10, Rdw_v10, Rdw_u10, FlF_0, FlF_s0, FlF_1, FlF_s1, FlF_2, FlF_s2, FlF_3, FlF_s3, FlF_4, FlF_5, FlF_6, FlF_7, FlF_s7, FlF_8, FlF_s8, FlF_9, FlF_s9, FlF_10, FlF_s10, FlF_11, FlF_s11, FlF_len, Flw_ob, Flw_uob, Flw_pob, Flw_upob, Flw_p1, Flw_p2, Flw_p3, Flw_lob, Flw_ulob, Flw_l1, Flw_l2, Flw_l3, Flw_rob, Nat.reduceLT, rup_s, rup_rup, o1, o2]
      rw [nI_clamp (show v < 2 ^ 31 by omega), nI_1]
      refine ⟨vp_in_nI (by omega) (by decide), vp_in_nI (by omega) (by decide), vp_in_nI (by omega) (by decide), ?_⟩
      refine ih (v + 1) _ _ (by omega) q0 q1 q5 q7 (fun u hu => ?_)
      by_cases e : u = v
      · rw [e]
        exact ⟨upd_s.trans (hD.1 v (by omega)).1, upd_s⟩
      · exact ⟨(upd_n e).trans (q6 u (by omega)).1, (upd_n e).trans (q6 u (by omega)).2⟩
  have fill : ∀ (k i : Nat) (c : Nat → Int32) (r : Nat → Nat → Int32) (K : jx_Q), i + k = 1274 → (∀ t, t < i → r 7 t = 0) → (∀ g, (∀ t, t < 1274 → g t = 0) → K (Auw W s c (rup r 7 g)) none) → zwp n_JA_fill 1 [(0, .ref (s + 7)), (1, .int 0), (2, .int (nI i)), (3, .int (nI 1274))] [] 0 0 (Auw W s c r) K := by
    intro k
    induction k with
    | zero =>
      intro i c r K hi h0 hK
      obtain rfl : i = 1274 := by omega
      have := hK (r 7) h0
      rw [rup_id] at this
      exact b_JA_fill_1 ⟨fun _ => b_JA_fill_2 this, fun z => absurd (Int32.le_refl _) z⟩
    | succ k ih =>
      intro i c r K hi h0 hK
      refine b_JA_fill_1 ⟨fun z => absurd ((nI_leI (by omega) (by omega)).mp z) (by omega), fun _ => ?_⟩
      simp only [and_assoc, exists_and_left, exists_eq_left, exists_eq_left', Option.some.injEq, Value.int.injEq, Value.ref.injEq, Value.long.injEq, true_and, and_true, exists_eq, exists_true_left, FdF_0, FdF_s0, FdF_1, FdF_s1, FdF_2, FdF_s2, FdF_3, FdF_s3, FdF_4, FdF_5, FdF_6, FdF_7, FdF_len, Fdw_ob, Fdw_uob, Fdw_4, Fdw_g4, Fdw_v4, Fdw_u4, Fdw_5, Fdw_g5, Fdw_v5, Fdw_u5, Fdw_6, Fdw_g6, Fdw_v6, Fdw_u6, Fdw_7, Fdw_g7, Fdw_v7, Fdw_u7, WdF_0, WdF_1, WdF_len, Wdw_ob, Wdw_0, Wdw_g0, Wdw_v0, Wdw_u0, Wdw_1, Wdw_g1, Wdw_v1, Wdw_u1, AuF_0, AuF_s0, AuF_1, AuF_2, AuF_3, AuF_4, AuF_5, AuF_6, AuF_7, AuF_8, AuF_len, Auw_ob, Auw_uob, Auw_1, Auw_g1, Auw_v1, Auw_u1, Auw_2, Auw_g2, Auw_v2, Auw_u2, Auw_3, Auw_g3, Auw_v3, Auw_u3, Auw_4, Auw_g4, Auw_v4, Auw_u4, Auw_5, Auw_g5, Auw_v5, Auw_u5, Auw_6, Auw_g6, Auw_v6, Auw_u6, Auw_7, Auw_g7, Auw_v7, Auw_u7, Auw_8, Auw_g8, Auw_v8, Auw_u8, SgF_0, SgF_s0, SgF_1, SgF_2, SgF_3, SgF_len, Sgw_ob, Sgw_uob, Sgw_1, Sgw_g1, Sgw_v1, Sgw_u1, Sgw_2, Sgw_g2, Sgw_v2, Sgw_u2, Sgw_3, Sgw_g3, Sgw_v3, Sgw_u3, RdF_0, RdF_1, RdF_2, RdF_s2, RdF_3, RdF_s3, RdF_4, RdF_s4, RdF_5, RdF_s5, RdF_6, RdF_s6, RdF_7, RdF_s7, RdF_8, RdF_s8, RdF_9, RdF_10, RdF_11, RdF_s11, RdF_12, RdF_s12, RdF_13, RdF_s13, RdF_14, RdF_s14, RdF_len, Rdw_ob, Rdw_uob, Rdw_9, Rdw_g9, Rdw_v9, Rdw_u9, Rdw_10, Rdw_g10, Rdw_v10, Rdw_u10, FlF_0, FlF_s0, FlF_1, FlF_s1, FlF_2, FlF_s2, FlF_3, FlF_s3, FlF_4, FlF_5, FlF_6, FlF_7, FlF_s7, FlF_8, FlF_s8, FlF_9, FlF_s9, FlF_10, FlF_s10, FlF_11, FlF_s11, FlF_len, Flw_ob, Flw_uob, Flw_pob, Flw_upob, Flw_p1, Flw_p2, Flw_p3, Flw_lob, Flw_ulob, Flw_l1, Flw_l2, Flw_l3, Flw_rob, Nat.reduceLT, rup_s, rup_rup]
      rw [nI_clamp (by omega), nI_1]
      refine ⟨vp_in_nI (by omega) (by decide), ih (i + 1) c _ K (by omega) (fun t ht => ?_) (fun g hg => by rw [rup_rup]; exact hK g hg)⟩
      by_cases e : t = i
      · rw [e]; exact upd_s
      · exact (upd_n e).trans (h0 t (by omega))
  rw [← Auw_eq hW]
  refine e_A_build (b_A_build_0 ?_)
  simp only [and_assoc, exists_and_left, exists_eq_left, exists_eq_left', Option.some.injEq, Value.int.injEq, Value.ref.injEq, Value.long.injEq, true_and, and_true, exists_eq, exists_true_left, FdF_0, FdF_s0, FdF_1, FdF_s1, FdF_2, FdF_s2, FdF_3, FdF_s3, FdF_4, FdF_5, FdF_6, FdF_7, FdF_len, Fdw_ob, Fdw_uob, Fdw_4, Fdw_g4, Fdw_v4, Fdw_u4, Fdw_5, Fdw_g5, Fdw_v5, Fdw_u5, Fdw_6, Fdw_g6, Fdw_v6, Fdw_u6, Fdw_7, Fdw_g7, Fdw_v7, Fdw_u7, WdF_0, WdF_1, WdF_len, Wdw_ob, Wdw_0, Wdw_g0, Wdw_v0, Wdw_u0, Wdw_1, Wdw_g1, Wdw_v1, Wdw_u1, AuF_0, AuF_s0, AuF_1, AuF_2, AuF_3, AuF_4, AuF_5, AuF_6, AuF_7, AuF_8, AuF_len, Auw_ob, Auw_uob, Auw_1, Auw_g1, Auw_v1, Auw_u1, Auw_2, Auw_g2, Auw_v2, Auw_u2, Auw_3, Auw_g3, Auw_v3, Auw_u3, Auw_4, Auw_g4, Auw_v4, Auw_u4, Auw_5, Auw_g5, Auw_v5, Auw_u5, Auw_6, Auw_g6, Auw_v6, Auw_u6, Auw_7, Auw_g7, Auw_v7, Auw_u7, Auw_8, Auw_g8, Auw_v8, Auw_u8, SgF_0, SgF_s0, SgF_1, SgF_2, SgF_3, SgF_len, Sgw_ob, Sgw_uob, Sgw_1, Sgw_g1, Sgw_v1, Sgw_u1, Sgw_2, Sgw_g2, Sgw_v2, Sgw_u2, Sgw_3, Sgw_g3, Sgw_v3, Sgw_u3, RdF_0, RdF_1, RdF_2, RdF_s2, RdF_3, RdF_s3, RdF_4, RdF_s4, RdF_5, RdF_s5, RdF_6, RdF_s6, RdF_7, RdF_s7, RdF_8, RdF_s8, RdF_9, RdF_10, RdF_11, RdF_s11, RdF_12, RdF_s12, RdF_13, RdF_s13, RdF_14, RdF_s14, RdF_len, Rdw_ob, Rdw_uob, Rdw_9, Rdw_g9, Rdw_v9, Rdw_u9, Rdw_10, Rdw_g10, Rdw_v10, Rdw_u10, FlF_0, FlF_s0, FlF_1, FlF_s1, FlF_2, FlF_s2, FlF_3, FlF_s3, FlF_4, FlF_5, FlF_6, FlF_7, FlF_s7, FlF_8, FlF_s8, FlF_9, FlF_s9, FlF_10, FlF_s10, FlF_11, FlF_s11, FlF_len, Flw_ob, Flw_uob, Flw_pob, Flw_upob, Flw_p1, Flw_p2, Flw_p3, Flw_lob, Flw_ulob, Flw_l1, Flw_l2, Flw_l3, Flw_rob, Nat.reduceLT, rup_s, rup_rup]
  refine e_JA_fill (b_JA_fill_0 ?_)
  simp only [and_assoc, exists_and_left, exists_eq_left, exists_eq_left', Option.some.injEq, Value.int.injEq, Value.ref.injEq, Value.long.injEq, true_and, and_true, exists_eq, exists_true_left, FdF_0, FdF_s0, FdF_1, FdF_s1, FdF_2, FdF_s2, FdF_3, FdF_s3, FdF_4, FdF_5, FdF_6, FdF_7, FdF_len, Fdw_ob, Fdw_uob, Fdw_4, Fdw_g4, Fdw_v4, Fdw_u4, Fdw_5, Fdw_g5, Fdw_v5, Fdw_u5, Fdw_6, Fdw_g6, Fdw_v6, Fdw_u6, Fdw_7, Fdw_g7, Fdw_v7, Fdw_u7, WdF_0, WdF_1, WdF_len, Wdw_ob, Wdw_0, Wdw_g0, Wdw_v0, Wdw_u0, Wdw_1, Wdw_g1, Wdw_v1, Wdw_u1, AuF_0, AuF_s0, AuF_1, AuF_2, AuF_3, AuF_4, AuF_5, AuF_6, AuF_7, AuF_8, AuF_len, Auw_ob, Auw_uob, Auw_1, Auw_g1, Auw_v1, Auw_u1, Auw_2, Auw_g2, Auw_v2, Auw_u2, Auw_3, Auw_g3, Auw_v3, Auw_u3, Auw_4, Auw_g4, Auw_v4, Auw_u4, Auw_5, Auw_g5, Auw_v5, Auw_u5, Auw_6, Auw_g6, Auw_v6, Auw_u6, Auw_7, Auw_g7, Auw_v7, Auw_u7, Auw_8, Auw_g8, Auw_v8, Auw_u8, SgF_0, SgF_s0, SgF_1, SgF_2, SgF_3, SgF_len, Sgw_ob, Sgw_uob, Sgw_1, Sgw_g1, Sgw_v1, Sgw_u1, Sgw_2, Sgw_g2, Sgw_v2, Sgw_u2, Sgw_3, Sgw_g3, Sgw_v3, Sgw_u3, RdF_0, RdF_1, RdF_2, RdF_s2, RdF_3, RdF_s3, RdF_4, RdF_s4, RdF_5, RdF_s5, RdF_6, RdF_s6, RdF_7, RdF_s7, RdF_8, RdF_s8, RdF_9, RdF_10, RdF_11, RdF_s11, RdF_12, RdF_s12, RdF_13, RdF_s13, RdF_14, RdF_s14, RdF_len, Rdw_ob, Rdw_uob, Rdw_9, Rdw_g9, Rdw_v9, Rdw_u9, Rdw_10, Rdw_g10, Rdw_v10, Rdw_u10, FlF_0, FlF_s0, FlF_1, FlF_s1, FlF_2, FlF_s2, FlF_3, FlF_s3, FlF_4, FlF_5, FlF_6, FlF_7, FlF_s7, FlF_8, FlF_s8, FlF_9, FlF_s9, FlF_10, FlF_s10, FlF_11, FlF_s11, FlF_len, Flw_ob, Flw_uob, Flw_pob, Flw_upob, Flw_p1, Flw_p2, Flw_p3, Flw_lob, Flw_ulob, Flw_l1, Flw_l2, Flw_l3, Flw_rob, Nat.reduceLT, rup_s, rup_rup]
  exact fill 1274 0 _ r _ rfl (fun t ht => absurd ht (Nat.not_lt_zero _)) (fun g hg => ⟨rfl, words 6 0 _ _ rfl rfl hz.1 hz.2 hg (fun u hu => absurd hu (Nat.not_lt_zero _))⟩)
end CBuild
