/-! THE AUTOMATON's MATHEMATICS: fails, next nodes, sets; thresholds -/
theorem sfx_self {x : List Nat} : sfx x x.length = x := by unfold sfx; rw [Nat.sub_self]; rfl
theorem sfx_zero {x : List Nat} : sfx x 0 = [] := by unfold sfx; rw [Nat.sub_zero, List.drop_length]
theorem sfx_app {y : List Nat} {l k : Nat} (h : k ≤ y.length) : sfx (y ++ [l]) (k + 1) = sfx y k ++ [l] := by
  unfold sfx
  rw [List.length_append, show ([l] : List Nat).length = 1 from rfl, show y.length + 1 - (k + 1) = y.length - k by omega, List.drop_append_of_le_length (by omega)]
theorem sfx_sfx {x : List Nat} {p k : Nat} (h : p ≤ k) (hk : k ≤ x.length) : sfx (sfx x k) p = sfx x p := by
  have hl := sfx_len hk
  show (sfx x k).drop ((sfx x k).length - p) = x.drop (x.length - p)
  rw [hl]
  unfold sfx
  rw [List.drop_drop]
  congr 1
  omega
theorem lgst_spec {N : aNL} {x : List Nat} (hN : nlOk N) : ∀ {m : Nat}, m ≤ x.length → ∃ k, k ≤ m ∧ nGet N (lgst N x m) = sfx x k ∧ ∀ k', k < k' → k' ≤ m → sfx x k' ∉ N
  | 0, _ => ⟨0, Nat.le_refl _, by rw [sfx_zero]; exact nGet0 hN, fun k' h1 h2 => absurd h2 (by omega)⟩
  | m + 1, h => by
    unfold lgst
    split
    · rename_i k e
      exact ⟨m + 1, Nat.le_refl _, (nodeIx_lt e).2, fun k' h1 h2 => absurd h2 (by omega)⟩
    · rename_i e
      obtain ⟨k, h1, h2, h3⟩ := lgst_spec (x := x) hN (m := m) (by omega)
      refine ⟨k, by omega, h2, fun k' h4 h5 => ?_⟩
      by_cases e2 : k' = m + 1
      · rw [e2]; exact nodeIx_no.mp e
      · exact h3 k' h4 (by omega)
theorem lgst_uniq {N : aNL} {x : List Nat} (hN : nlOk N) {m k j : Nat} (hm : m ≤ x.length) (hj : j < N.length) (hk : k ≤ m) (e : nGet N j = sfx x k) (hno : ∀ k', k < k' → k' ≤ m → sfx x k' ∉ N) : lgst N x m = j := by
  obtain ⟨k2, h1, h2, h3⟩ := lgst_spec (x := x) hN hm
  have hlt := lgst_lt (x := x) (nl_pos hN) m
  have hkk : k2 = k := by
    rcases Nat.lt_trichotomy k2 k with h | h | h
    · exact absurd (by rw [← e]; exact nGet_mem hj) (h3 k h hk)
    · exact h
    · exact absurd (by rw [← h2]; exact nGet_mem hlt) (hno k2 h h1)
  refine srt_inj hN.1 hlt hj ?_
  rw [h2, e, hkk]
theorem nodes_pre {wd : Nat → List Nat} {y : List Nat} {l : Nat} (h : y ++ [l] ∈ nodesOf wd) : y ∈ nodesOf wd := by
  rcases nodes_mem.mp h with e | ⟨u, hu, k, k1, k2, e⟩
  · exact absurd e (by simp)
  · have hl := congrArg List.length e
    rw [List.length_append, List.length_take, Nat.min_eq_left k2] at hl
    have hl : y.length + 1 = k := hl
    have ey : y = (wd u).take (k - 1) := by
      have := congrArg (List.take y.length) e
      rw [List.take_left, List.take_take, Nat.min_eq_left (by omega)] at this
      rw [show k - 1 = y.length by omega]; exact this
    by_cases h1 : k = 1
    · rw [ey, h1]; exact nodes_mem.mpr (Or.inl (by simp))
    · rw [ey]; exact nodes_mem.mpr (Or.inr ⟨u, hu, k - 1, by omega, by omega, rfl⟩)
theorem word_node {wd : Nat → List Nat} {v : Nat} (hv : v < 6) (h : (wd v).length ≠ 0) : wd v ∈ nodesOf wd := nodes_mem.mpr (Or.inr ⟨v, hv, (wd v).length, by omega, Nat.le_refl _, by rw [List.take_length]⟩)
/-- the fail of a node: the longest shorter one with which it ends -/
theorem fa_spec {wd : Nat → List Nat} {n : Nat} (hw : wdOk wd) : ∃ k, k ≤ (nGet (nodesOf wd) n).length - 1 ∧ nGet (nodesOf wd) (auFa (nodesOf wd) n) = sfx (nGet (nodesOf wd) n) k ∧ auFa (nodesOf wd) n < (nodesOf wd).length ∧ ∀ k', k < k' → k' ≤ (nGet (nodesOf wd) n).length - 1 → sfx (nGet (nodesOf wd) n) k' ∉ nodesOf wd := by
  obtain ⟨hN, -⟩ := nodes_ok hw
  obtain ⟨k, h1, h2, h3⟩ := lgst_spec (N := nodesOf wd) (x := nGet (nodesOf wd) n) hN (m := (nGet (nodesOf wd) n).length - 1) (by omega)
  exact ⟨k, h1, h2, lgst_lt (nl_pos hN) _, h3⟩
theorem nx_hit {wd : Nat → List Nat} {n l j : Nat} (hw : wdOk wd) (hj : j < (nodesOf wd).length) (e : nGet (nodesOf wd) j = nGet (nodesOf wd) n ++ [l]) : auNx (nodesOf wd) n l = j := by
  obtain ⟨hN, -⟩ := nodes_ok hw
  have h8 := (hN.2.1 _ (nGet_mem hj)).2
  have hl : (nGet (nodesOf wd) n ++ [l]).length = (nGet (nodesOf wd) n).length + 1 := by rw [List.length_append]; rfl
  rw [e, hl] at h8
  unfold auNx
  rw [Nat.min_eq_right (by omega)]
  refine lgst_uniq hN (by omega) hj (Nat.le_refl _) ?_ (fun k' h1 h2 => absurd h2 (by omega))
  rw [← hl, sfx_self]; exact e
theorem mid_no {wd : Nat → List Nat} {y : List Nat} {l k k' : Nat} (hno : ∀ k', k < k' → k' ≤ y.length - 1 → sfx y k' ∉ nodesOf wd) (h1 : k + 1 < k') (h2 : k' ≤ y.length) : sfx (y ++ [l]) k' ∉ nodesOf wd := fun h => by
  obtain ⟨i, rfl⟩ : ∃ i, k' = i + 1 := ⟨k' - 1, by omega⟩
  rw [sfx_app (by omega)] at h
  exact hno i (by omega) (by omega) (nodes_pre h)
theorem nx_miss {wd : Nat → List Nat} {n l : Nat} (hw : wdOk wd) (hn : n < (nodesOf wd).length) (h0 : 0 < n) (hno : nGet (nodesOf wd) n ++ [l] ∉ nodesOf wd) : auNx (nodesOf wd) n l = auNx (nodesOf wd) (auFa (nodesOf wd) n) l := by
  obtain ⟨hN, -⟩ := nodes_ok hw
  obtain ⟨kf, f1, f2, f3, f4⟩ := fa_spec (n := n) hw
  have hne : (nGet (nodesOf wd) n).length ≠ 0 := fun t => nGet_pos hN hn h0 (List.length_eq_zero_iff.mp t)
  have h8 := (hN.2.1 _ (nGet_mem hn)).2
  obtain ⟨y, hy⟩ : ∃ y, y = nGet (nodesOf wd) n := ⟨_, rfl⟩
  rw [← hy] at f1 f2 f4 hne hno h8
  have hlf : (sfx y kf).length = kf := sfx_len (by omega)
  have hl : (y ++ [l]).length = y.length + 1 := by rw [List.length_append]; rfl
  have hlx : (sfx y kf ++ [l]).length = kf + 1 := by rw [List.length_append, hlf]; rfl
  obtain ⟨k, g1, g2, g3⟩ := lgst_spec (N := nodesOf wd) (x := sfx y kf ++ [l]) hN (m := min 8 (kf + 1)) (by rw [hlx]; omega)
  have ej : auNx (nodesOf wd) (auFa (nodesOf wd) n) l = lgst (nodesOf wd) (sfx y kf ++ [l]) (min 8 (kf + 1)) := by
    unfold auNx
    rw [f2, hlf]
  rw [ej]
  show lgst (nodesOf wd) (nGet (nodesOf wd) n ++ [l]) (min 8 ((nGet (nodesOf wd) n).length + 1)) = _
  rw [← hy]
  have tr : ∀ q, q ≤ kf + 1 → sfx (sfx y kf ++ [l]) q = sfx (y ++ [l]) q := fun q hq => by
    rw [← sfx_app (by omega), sfx_sfx hq (by omega)]
  refine lgst_uniq hN (by omega) (lgst_lt (nl_pos hN) _) (k := k) (by omega) (by rw [g2, tr k (by omega)]) (fun k' h1 h2 => ?_)
  by_cases e1 : k' ≤ kf + 1
  · rw [← tr k' e1]; exact g3 k' h1 (by omega)
  · by_cases e2 : k' = y.length + 1
    · rw [e2, ← hl, sfx_self]; exact hno
    · exact mid_no f4 (by omega) (by omega)
theorem nx_zero {wd : Nat → List Nat} {l : Nat} (hw : wdOk wd) (hno : [l] ∉ nodesOf wd) : auNx (nodesOf wd) 0 l = 0 := by
  obtain ⟨hN, -⟩ := nodes_ok hw
  unfold auNx
  rw [nGet0 hN]
  refine lgst_uniq hN (by show min 8 1 ≤ 1; omega) (nl_pos hN) (k := 0) (Nat.zero_le _) (by rw [sfx_zero]; exact nGet0 hN) (fun k' h1 h2 => ?_)
  obtain rfl : k' = 1 := by simp at h2; omega
  exact hno
/-- the fail of a node by that of its parent -/
theorem fa_par {wd : Nat → List Nat} {n p l : Nat} (hw : wdOk wd) (hn : n < (nodesOf wd).length) (hp : p < (nodesOf wd).length) (e : nGet (nodesOf wd) n = nGet (nodesOf wd) p ++ [l]) : auFa (nodesOf wd) n = if p = 0 then 0 else auNx (nodesOf wd) (auFa (nodesOf wd) p) l := by
  obtain ⟨hN, -⟩ := nodes_ok hw
  have hlen : (nGet (nodesOf wd) n).length = (nGet (nodesOf wd) p).length + 1 := by rw [e, List.length_append]; rfl
  by_cases h0 : p = 0
  · rw [if_pos h0]
    unfold auFa
    rw [hlen, h0, nGet0 hN]; rfl
  · rw [if_neg h0]
    obtain ⟨kf, f1, f2, f3, f4⟩ := fa_spec (n := p) hw
    have hne : (nGet (nodesOf wd) p).length ≠ 0 := fun t => nGet_pos hN hp (by omega) (List.length_eq_zero_iff.mp t)
    have h8 := (hN.2.1 _ (nGet_mem hn)).2
    obtain ⟨y, hy⟩ : ∃ y, y = nGet (nodesOf wd) p := ⟨_, rfl⟩
    rw [← hy] at f1 f2 f4 hne e hlen
    have hlf : (sfx y kf).length = kf := sfx_len (by omega)
    have hlx : (sfx y kf ++ [l]).length = kf + 1 := by rw [List.length_append, hlf]; rfl
    obtain ⟨k, g1, g2, g3⟩ := lgst_spec (N := nodesOf wd) (x := sfx y kf ++ [l]) hN (m := min 8 (kf + 1)) (by rw [hlx]; omega)
    have ej : auNx (nodesOf wd) (auFa (nodesOf wd) p) l = lgst (nodesOf wd) (sfx y kf ++ [l]) (min 8 (kf + 1)) := by
      unfold auNx
      rw [f2, hlf]
    rw [ej]
    unfold auFa
    rw [hlen, Nat.add_sub_cancel, e]
    have hl : (y ++ [l]).length = y.length + 1 := by rw [List.length_append]; rfl
    have tr : ∀ q, q ≤ kf + 1 → sfx (sfx y kf ++ [l]) q = sfx (y ++ [l]) q := fun q hq => by
      rw [← sfx_app (by omega), sfx_sfx hq (by omega)]
    refine lgst_uniq hN (by omega) (lgst_lt (nl_pos hN) _) (k := k) (by omega) (by rw [g2, tr k (by omega)]) (fun k' h1 h2 => ?_)
    by_cases e1 : k' ≤ kf + 1
    · rw [← tr k' e1]; exact g3 k' h1 (by omega)
    · exact mid_no f4 (by omega) h2
/-- the words that are a node itself -/
def ownK (wd : Nat → List Nat) (x : List Nat) : Nat → Nat
  | 0 => 0
  | v + 1 => ownK wd x v ||| (if (wd v).length ≠ 0 ∧ wd v = x then 2 ^ v else 0)
theorem ownK_bit {wd : Nat → List Nat} {x : List Nat} : ∀ {v u : Nat}, (ownK wd x v).testBit u = true ↔ u < v ∧ (wd u).length ≠ 0 ∧ wd u = x
  | 0, u => ⟨fun h => (by rw [show ownK wd x 0 = 0 from rfl, Nat.zero_testBit] at h; cases h), fun h => absurd h.1 (Nat.not_lt_zero _)⟩
  | v + 1, u => by
    show (ownK wd x v ||| _).testBit u = true ↔ _
    rw [Nat.testBit_or, Bool.or_eq_true, ownK_bit]
    constructor
    · rintro (h | h)
      · exact ⟨by omega, h.2⟩
      · split at h
        · rename_i hc
          rw [Nat.testBit_two_pow] at h
          have := of_decide_eq_true h
          subst this
          exact ⟨by omega, hc⟩
        · rw [Nat.zero_testBit] at h; cases h
    · rintro ⟨h1, h2⟩
      by_cases e : u = v
      · subst e
        refine Or.inr ?_
        rw [if_pos h2, Nat.testBit_two_pow, decide_eq_true rfl]
      · exact Or.inl ⟨by omega, h2⟩
theorem ownK_lt {wd : Nat → List Nat} {x : List Nat} : ∀ {v : Nat}, v ≤ 6 → ownK wd x v < 64
  | 0, _ => by show 0 < 64; decide
  | v + 1, h => by
    refine Nat.or_lt_two_pow (n := 6) (ownK_lt (by omega)) ?_
    split
    · exact Nat.pow_lt_pow_right (by decide) (by omega)
    · decide
theorem endsW_iff {u x : List Nat} : endsW u x = true ↔ u.length ≠ 0 ∧ u.length ≤ x.length ∧ sfx x u.length = u := by
  unfold endsW
  simp only [Bool.and_eq_true, decide_eq_true_eq]
theorem set_fa {wd : Nat → List Nat} {n : Nat} (hw : wdOk wd) (hn : n < (nodesOf wd).length) (h0 : 0 < n) : setK wd (nGet (nodesOf wd) n) 6 = ownK wd (nGet (nodesOf wd) n) 6 ||| setK wd (nGet (nodesOf wd) (auFa (nodesOf wd) n)) 6 := by
  obtain ⟨hN, -⟩ := nodes_ok hw
  obtain ⟨kf, f1, f2, f3, f4⟩ := fa_spec (n := n) hw
  have hne : (nGet (nodesOf wd) n).length ≠ 0 := fun t => nGet_pos hN hn h0 (List.length_eq_zero_iff.mp t)
  obtain ⟨y, hy⟩ : ∃ y, y = nGet (nodesOf wd) n := ⟨_, rfl⟩
  rw [f2]
  rw [← hy] at f1 f4 hne ⊢
  refine Nat.eq_of_testBit_eq (fun v => ?_)
  have key : (setK wd y 6).testBit v = true ↔ (ownK wd y 6 ||| setK wd (sfx y kf) 6).testBit v = true := by
    rw [Nat.testBit_or, Bool.or_eq_true, ownK_bit, setK_bit, setK_bit, Bool.and_eq_true, Bool.and_eq_true, decide_eq_true_iff, endsW_iff, endsW_iff, sfx_len (show kf ≤ y.length by omega)]
    constructor
    · rintro ⟨h1, h2, h3, h4⟩
      by_cases e : (wd v).length = y.length
      · rw [e, sfx_self] at h4
        exact Or.inl ⟨h1, h2, h4.symm⟩
      · refine Or.inr ⟨h1, h2, ?_, ?_⟩
        · rcases Nat.lt_or_ge kf (wd v).length with h5 | h5
          · exact absurd (by rw [h4]; exact word_node h1 h2) (f4 _ h5 (by omega))
          · exact h5
        · have h5 : (wd v).length ≤ kf := by
            rcases Nat.lt_or_ge kf (wd v).length with h5 | h5
            · exact absurd (by rw [h4]; exact word_node h1 h2) (f4 _ h5 (by omega))
            · exact h5
          rw [sfx_sfx h5 (by omega)]; exact h4
    · rintro (⟨h1, h2, h3⟩ | ⟨h1, h2, h3, h4⟩)
      · exact ⟨h1, h2, by rw [h3]; omega, by rw [h3, sfx_self]⟩
      · rw [sfx_sfx h3 (by omega)] at h4
        exact ⟨h1, h2, by omega, h4⟩
  cases ha : (setK wd y 6).testBit v <;> cases hb : (ownK wd y 6 ||| setK wd (sfx y kf) 6).testBit v
  · rfl
  · rw [key.mpr hb] at ha; cases ha
  · rw [key.mp ha] at hb; cases hb
  · rfl
theorem fa_lt {wd : Nat → List Nat} {n : Nat} (hw : wdOk wd) (hn : n < (nodesOf wd).length) (h0 : 0 < n) : auFa (nodesOf wd) n < n := by
  obtain ⟨hN, -⟩ := nodes_ok hw
  obtain ⟨kf, f1, f2, f3, f4⟩ := fa_spec (n := n) hw
  have hne : (nGet (nodesOf wd) n).length ≠ 0 := fun t => nGet_pos hN hn h0 (List.length_eq_zero_iff.mp t)
  have hlf : (sfx (nGet (nodesOf wd) n) kf).length = kf := sfx_len (by omega)
  have := enc_len (l := nGet (nodesOf wd) (auFa (nodesOf wd) n)) (m := nGet (nodesOf wd) n) (hN.2.1 _ (nGet_mem f3)).1 (by rw [f2, hlf]; omega)
  rcases Nat.lt_trichotomy (auFa (nodesOf wd) n) n with h | h | h
  · exact h
  · rw [h] at this; omega
  · have := srt_lt hN.1 h f3; omega
/-- a defined word is found from everywhere -/
theorem near8 {wd : Nat → List Nat} (hw : wdOk wd) {nd : Nat} (hn : nd < (auOf wd).1) (hno : ∀ j, 1 ≤ j → j ≤ 8 → ¬ hit (auOf wd) nd j) : ∀ j, 1 ≤ j → ¬ hit (auOf wd) nd j := by
  obtain ⟨hN, -⟩ := nodes_ok hw
  have hA := au_ok hw
  have hall : ∀ v, v < 6 → (wd v).length = 0 := fun v hv => by
    rcases Nat.eq_zero_or_pos (wd v).length with h | h
    · exact h
    · exfalso
      obtain ⟨v8, vo⟩ := hw v hv
      have run : ∀ i, i ≤ (wd v).length → ∃ n, rch (auOf wd) nd i n ∧ n < (nodesOf wd).length ∧ i ≤ (nGet (nodesOf wd) n).length ∧ sfx (nGet (nodesOf wd) n) i = (wd v).take i := by
        intro i
        induction i with
        | zero => intro _; exact ⟨nd, rfl, hn, Nat.zero_le _, by rw [sfx_zero]; simp⟩
        | succ i ih =>
          intro hi
          obtain ⟨n, r1, r2, r3, r4⟩ := ih (by omega)
          have hnode : (wd v).take (i + 1) ∈ nodesOf wd := nodes_mem.mpr (Or.inr ⟨v, hv, i + 1, by omega, hi, rfl⟩)
          have et : (wd v).take (i + 1) = (wd v).take i ++ [(wd v).getD i 0] := by
            rw [List.take_succ_eq_append_getElem (by omega), List.getD_eq_getElem?_getD, List.getElem?_eq_getElem (by omega)]; rfl
          have hl := lOk_getD vo i
          have hlen : (nGet (nodesOf wd) n ++ [(wd v).getD i 0]).length = (nGet (nodesOf wd) n).length + 1 := by rw [List.length_append]; rfl
          have es : sfx (nGet (nodesOf wd) n ++ [(wd v).getD i 0]) (i + 1) = (wd v).take (i + 1) := by rw [sfx_app r3, r4, et]
          obtain ⟨k, g1, g2, g3⟩ := lgst_spec (N := nodesOf wd) (x := nGet (nodesOf wd) n ++ [(wd v).getD i 0]) hN (m := min 8 ((nGet (nodesOf wd) n).length + 1)) (by omega)
          have hk : i + 1 ≤ k := by
            rcases Nat.lt_or_ge k (i + 1) with h1 | h1
            · exact absurd (by rw [es]; exact hnode) (g3 (i + 1) h1 (by omega))
            · exact h1
          refine ⟨auNx (nodesOf wd) n ((wd v).getD i 0), ⟨n, (wd v).getD i 0, r1, hl, rfl⟩, lgst_lt (nl_pos hN) _, ?_, ?_⟩
          · show _ ≤ (nGet (nodesOf wd) (lgst _ _ _)).length
            rw [g2, sfx_len (by omega)]; exact hk
          · show sfx (nGet (nodesOf wd) (lgst _ _ _)) (i + 1) = _
            rw [g2, sfx_sfx hk (by omega)]; exact es
      obtain ⟨n, r1, r2, r3, r4⟩ := run (wd v).length (Nat.le_refl _)
      rw [List.take_length] at r4
      refine hno (wd v).length h v8 ⟨n, r1, fun z => ?_⟩
      have : (setK wd (nGet (nodesOf wd) n) 6).testBit v = true := by
        rw [setK_bit, decide_eq_true hv, Bool.true_and]
        exact endsW_iff.mpr ⟨by omega, r3, r4⟩
      have z : setK wd (nGet (nodesOf wd) n) 6 = 0 := z
      rw [z, Nat.zero_testBit] at this
      cases this
  intro j _ ⟨n, r1, r2⟩
  refine r2 ?_
  show setK wd (nGet (nodesOf wd) n) 6 = 0
  refine Nat.eq_of_testBit_eq (fun u => ?_)
  rw [setK_bit, Nat.zero_testBit]
  by_cases hu : u < 6
  · have : endsW (wd u) (nGet (nodesOf wd) n) = false := by
      cases e : endsW (wd u) (nGet (nodesOf wd) n) with
      | false => rfl
      | true => exact absurd (hall u hu) (endsW_iff.mp e).1
    rw [this, Bool.and_false]
  · rw [decide_eq_false hu, Bool.false_and]
