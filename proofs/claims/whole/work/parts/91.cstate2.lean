/-! THE CLASS: the flow of a segment; a state is copied -/
theorem mvO_id {od : Nat → Nat} {n : Nat} : mvO od n (n + 1) = od := by
  funext j
  unfold mvO
  by_cases h : j = n + 1 - 1
  · rw [if_pos h, h]; rfl
  · rw [if_neg h, if_neg (by omega)]
section CState2
variable {W : jx_W} {s au : Nat} {Y : cSt} {K : jx_Q} {st : aSt} {od : Nat → Nat}
theorem STr_mv {i : Nat} {f' : Nat → Option Nat} (hS : STr s od Y st) (hi : i < st.2.2.2.1.length) (hO : OD s f' (mvO od i st.2.2.2.1.length)) : STr s (mvO od i st.2.2.2.1.length) (Y.1, Y.2.1, f', Y.2.2.2) (st.1, st.2.1, st.2.2.1, st.2.2.2.1.eraseIdx i ++ [fGet st.2.2.2.1 i], st.2.2.2.2) := by
  obtain ⟨t1, t2, t3, ⟨t4, t4b⟩, t5, -, t7⟩ := hS
  have hl : (st.2.2.2.1.eraseIdx i).length = st.2.2.2.1.length - 1 := List.length_eraseIdx_of_lt hi
  have hl2 : (st.2.2.2.1.eraseIdx i ++ [fGet st.2.2.2.1 i]).length = st.2.2.2.1.length := by
    rw [List.length_append, hl]
    show st.2.2.2.1.length - 1 + 1 = _
    omega
  refine ⟨t1, t2, t3, ⟨by show Y.1 4 = nI (st.2.2.2.1.eraseIdx i ++ [fGet st.2.2.2.1 i]).length; rw [hl2]; exact t4, by show (st.2.2.2.1.eraseIdx i ++ [fGet st.2.2.2.1 i]).length ≤ 4; omega⟩, t5, hO, fun j hj => ?_⟩
  have hj : j < (st.2.2.2.1.eraseIdx i ++ [fGet st.2.2.2.1 i]).length := hj
  rw [hl2] at hj
  show ∃ f0, FWr f0 (Y.2.2.2.2.2 (mvO od i st.2.2.2.1.length j)) (fGet (st.2.2.2.1.eraseIdx i ++ [fGet st.2.2.2.1 i]) j).1 (fGet (st.2.2.2.1.eraseIdx i ++ [fGet st.2.2.2.1 i]) j).2.1 (fGet (st.2.2.2.1.eraseIdx i ++ [fGet st.2.2.2.1 i]) j).2.2
  by_cases e : j = st.2.2.2.1.length - 1
  · have e2 : j = (st.2.2.2.1.eraseIdx i).length := by omega
    rw [e2, fGet_app2, ← e2, e, mvO_last (by omega)]
    exact t7 i hi
  · rw [fGet_app1 (by omega), mvO_lt (by omega), fGet_erase]
    by_cases e3 : j < i
    · rw [if_pos e3, if_pos e3]; exact t7 j (by omega)
    · rw [if_neg e3, if_neg e3]; exact t7 (j + 1) (by omega)
theorem STr_app {c : Nat → Int32} {X : cFl} {f : aFlow} {f0 : Nat} (hS : STr s od Y st) (h4 : st.2.2.2.1.length < 4) (hc4 : c 4 = nI (st.2.2.2.1.length + 1)) (hc5 : c 5 = Y.1 5) (hX : FWr f0 X f.1 f.2.1 f.2.2) : STr s od (c, Y.2.1, Y.2.2.1, Y.2.2.2.1, Y.2.2.2.2.1, fun j => if j = od st.2.2.2.1.length then X else Y.2.2.2.2.2 j) (st.1, st.2.1, st.2.2.1, st.2.2.2.1 ++ [f], st.2.2.2.2) := by
  obtain ⟨t1, t2, t3, ⟨t4, t4b⟩, t5, hO, t7⟩ := hS
  have hl : (st.2.2.2.1 ++ [f]).length = st.2.2.2.1.length + 1 := by rw [List.length_append]; rfl
  refine ⟨t1, t2, t3, ⟨by show c 4 = nI (st.2.2.2.1 ++ [f]).length; rw [hl]; exact hc4, by show (st.2.2.2.1 ++ [f]).length ≤ 4; omega⟩, hc5.trans t5, hO, fun j hj => ?_⟩
  have hj : j < (st.2.2.2.1 ++ [f]).length := hj
  rw [hl] at hj
  show ∃ f0, FWr f0 (if od j = od st.2.2.2.1.length then X else Y.2.2.2.2.2 (od j)) (fGet (st.2.2.2.1 ++ [f]) j).1 (fGet (st.2.2.2.1 ++ [f]) j).2.1 (fGet (st.2.2.2.1 ++ [f]) j).2.2
  by_cases e : j = st.2.2.2.1.length
  · rw [e, fGet_app2, if_pos rfl]
    exact ⟨f0, hX⟩
  · rw [fGet_app1 (by omega), if_neg (fun z => e (hO.2.1 _ _ (by omega) (by omega) z))]
    exact t7 j (by omega)
theorem c_flowOfSegment {key : Int32} (hW : SAt W s au Y) (hS : STr s od Y st) (hK : ∀ W' Y' od', SAt W' s au Y' → STr s od' Y' (st.1, st.2.1, st.2.2.1, (aTo st key).2.1 ++ [(aTo st key).1], (aTo st key).2.2) → Fr W W' s 59 → K W' (some (.ref (s + 11 + 12 * od' (aTo st key).2.1.length)))) : zcall n_St_flowOfSegment [.ref s, .int key] W K := by
  obtain ⟨t1, t2, t3, ⟨t4, t4b⟩, t5, hO, t7⟩ := id hS
  refine e_St_flowOfSegment (b_St_flowOfSegment_0 ⟨⟨_, hW.1.1⟩, c_placeOf hW hS ⟨_, rfl, ?_⟩⟩)
  cases hpl : aPlace st.2.2.2.1 key with
  | some i =>
    have eT : aTo st key = (fGet st.2.2.2.1 i, st.2.2.2.1.eraseIdx i, st.2.2.2.2) := by
      unfold aTo
      rw [hpl]
    rw [eT] at hK
    obtain ⟨hi, -⟩ := aPlace_lt hpl
    have hl : (st.2.2.2.1.eraseIdx i).length = st.2.2.2.1.length - 1 := List.length_eraseIdx_of_lt hi
    refine ⟨fun _ => b_St_flowOfSegment_2 ⟨⟨_, hW.1.1⟩, c_movedToEnd hW hO t4 t4b hi rfl (fun f' g => ⟨_, rfl, ?_⟩)⟩, fun z => absurd z (nI_ne1 (by omega))⟩
    have := hK (Shw W s Y.1 Y.2.1 f') _ _ hW.head (STr_mv hS hi g) Fr_head
    have this : K (Shw W s Y.1 Y.2.1 f') (some (.ref (s + 11 + 12 * mvO od i st.2.2.2.1.length (st.2.2.2.1.eraseIdx i).length))) := this
    rw [hl, mvO_last (by omega)] at this
    exact this
  | none =>
    have eT : aTo st key = (((key, st.2.1), aBeg [], []), if st.2.2.2.1.length = 4 then st.2.2.2.1.eraseIdx 0 else st.2.2.2.1, if st.2.2.2.1.length = 4 then st.2.2.2.2 + 1 else st.2.2.2.2) := by
      unfold aTo
      rw [hpl]
    have eT1 : (aTo st key).1 = ((key, st.2.1), aBeg [], []) := by rw [eT]
    rw [eT1] at hK
    -- there is room: the flow begins
    have b1 : ∀ (V : jx_W) (Y1 : cSt) (od1 : Nat → Nat) (l1 : List aFlow) (fg : Nat), SAt V s au Y1 → STr s od1 Y1 (st.1, st.2.1, st.2.2.1, l1, fg) → l1.length < 4 → l1 = (aTo st key).2.1 → fg = (aTo st key).2.2 → Fr W V s 59 → zwp n_St_flowOfSegment 1 [(0, .ref s), (1, .int key)] [] 0 0 V K := by
      intro V Y1 od1 l1 fg hV hS1 h4 e1 e2 hFr
      subst e2
      obtain ⟨u1, ⟨u2, u2b, u2c⟩, u3, ⟨u4, u4b⟩, u5, hO1, u7⟩ := id hS1
      have u4 : Y1.1 4 = nI l1.length := u4
      obtain ⟨p1, p2, p3⟩ := id hO1
      have hob := SAt_fl hV (p1 l1.length h4)
      have hV2 := hV.2.2.2 _ (p1 l1.length h4)
      refine b_St_flowOfSegment_1 ?_
      have hh := Shw_eq hV.1
      rw [← hh] at hob ⊢
      simp only [Shw_ob, StF_4, StF_3, StF_1, Shw_10, Shw_9, and_assoc, exists_and_left, exists_eq_left, exists_eq_left', Option.some.injEq, Value.int.injEq, Value.ref.injEq, Value.long.injEq, true_and, and_true, exists_eq, exists_true_left]
      rw [u4, nI_clamp (by omega), p3 l1.length h4]
      refine ⟨vp_in_nI h4 (by decide), _, rfl, ?_⟩
      simp only [hob, and_assoc, exists_and_left, exists_eq_left, exists_eq_left', Option.some.injEq, Value.int.injEq, Value.ref.injEq, Value.long.injEq, true_and, and_true, exists_eq, exists_true_left]
      refine ⟨vp_in_nI (n := 0) (by decide) (by decide), vp_in_nI (n := 1) (by decide) (by decide), vp_in_nI (n := 2) (by decide) (by decide), ?_⟩
      rw [hh]
      refine c_fbegin (ky := (key, st.2.1)) (fh := []) hV2 rfl u2 u2b u2c (fun X' g => ⟨rfl, ?_⟩)
      have hV3 := hV.flow1 (X := X') (p1 l1.length h4)
      have hh3 := Shw_eq hV3.1
      have hh3 : Shw (Flw V (s + 11 + 12 * od1 l1.length) 0 au (s + 1) X') s Y1.1 Y1.2.1 Y1.2.2.1 = Flw V (s + 11 + 12 * od1 l1.length) 0 au (s + 1) X' := hh3
      rw [← hh3]
      simp only [Shw_ob, StF_4, StF_s4, StF_len, Shw_uob, Nat.reduceLT, and_assoc, exists_and_left, exists_eq_left, exists_eq_left', Option.some.injEq, Value.int.injEq, Value.ref.injEq, Value.long.injEq, true_and, and_true, exists_eq, exists_true_left]
      rw [u4, nI_1]
      have hV4 := hV3.head (c := upd Y1.1 4 (nI (l1.length + 1))) (se := Y1.2.1) (f := Y1.2.2.1)
      have hS4 := STr_app (st := (st.1, st.2.1, st.2.2.1, l1, (aTo st key).2.2)) (c := upd Y1.1 4 (nI (l1.length + 1))) (X := X') (f := ((key, st.2.1), aBeg [], [])) hS1 h4 rfl rfl g
      have hF4 : Fr W (Shw (Flw V (s + 11 + 12 * od1 l1.length) 0 au (s + 1) X') s (upd Y1.1 4 (nI (l1.length + 1))) Y1.2.1 Y1.2.2.1) s 59 := (hFr.tr (Fr_flow1 (p1 l1.length h4))).tr Fr_head
      refine b_St_flowOfSegment_2 ⟨⟨_, hV4.1.1⟩, c_movedToEnd (i := l1.length) (n := l1.length + 1) hV4 hO1 rfl (by omega) (by omega) rfl (fun f' g2 => ⟨_, rfl, ?_⟩)⟩
      rw [mvO_id] at g2
      have hV5 := hV4.head (c := upd Y1.1 4 (nI (l1.length + 1))) (se := Y1.2.1) (f := f')
      rw [← e1] at hK
      obtain ⟨w1, w2, w3, w4, w5, w6, w7⟩ := hS4
      exact hK _ _ od1 hV5 ⟨w1, w2, w3, w4, w5, g2, w7⟩ (hF4.tr Fr_head)
    refine ⟨fun z => absurd rfl z, fun _ => ?_⟩
    have hh := Shw_eq hW.1
    rw [← hh]
    simp only [Shw_ob, StF_4, and_assoc, exists_and_left, exists_eq_left, exists_eq_left', Option.some.injEq, Value.int.injEq, Value.ref.injEq, Value.long.injEq, true_and, and_true, exists_eq, exists_true_left]
    rw [hh, t4]
    refine ⟨fun z => ?_, fun z => ?_⟩
    · have z := (nI_ltI (b := 4) (by omega) (by decide)).mp z
      exact b1 W Y od st.2.2.2.1 st.2.2.2.2 hW hS z (by rw [eT]; exact (if_neg (by omega)).symm) (by rw [eT]; exact (if_neg (by omega)).symm) Fr.rf
    · have z : st.2.2.2.1.length = 4 := by
        have : ¬ st.2.2.2.1.length < 4 := fun t => z ((nI_ltI (b := 4) (by omega) (by decide)).mpr t)
        omega
      refine c_stRemove hW hS (i := 0) (by omega) rfl (fun c' f' g1 g2 => ⟨rfl, ?_⟩)
      simp only [Shw_ob, StF_5, StF_s5, StF_len, Shw_uob, Nat.reduceLT, and_assoc, exists_and_left, exists_eq_left, exists_eq_left', Option.some.injEq, Value.int.injEq, Value.ref.injEq, Value.long.injEq, true_and, and_true, exists_eq, exists_true_left]
      have hl : (st.2.2.2.1.eraseIdx 0).length = st.2.2.2.1.length - 1 := List.length_eraseIdx_of_lt (by omega)
      obtain ⟨w1, w2, w3, w4, w5, w6, w7⟩ := g2
      have w5 : c' 5 = nI st.2.2.2.2 := w5
      rw [w5, nI_1]
      exact b1 _ _ (mvO od 0 st.2.2.2.1.length) (st.2.2.2.1.eraseIdx 0) (st.2.2.2.2 + 1) hW.head ⟨w1, w2, w3, w4, rfl, w6, w7⟩ (by omega) (by rw [eT]; exact (if_pos z).symm) (by rw [eT]; exact (if_pos z).symm) Fr_head
/-- a state but for the count of forgotten flows -/
def STq (s : Nat) (od : Nat → Nat) (Y : cSt) (st : aSt) : Prop := WDr Y.2.2.2.2.1 st.1 ∧ (Y.2.1 0 = nI st.2.1.1 ∧ Y.2.1 1 = nI st.2.1.2.1 ∧ Y.2.1 2 = nI st.2.1.2.2) ∧ FDr Y.2.2.2.1.1 Y.2.2.2.1.2 st.2.2.1 ∧ Y.1 4 = nI st.2.2.2.1.length ∧ OD s Y.2.2.1 od
theorem HAt_ob {V : jx_W} {s : Nat} {c se : Nat → Int32} {f : Nat → Option Nat} (h : HAt V s c se f) (fs : List Value) : jx_ob V s 5 fs ↔ fs = StF s c := ob_iff h.1
theorem HAt_9 {V : jx_W} {s : Nat} {c se : Nat → Int32} {f : Nat → Option Nat} (h : HAt V s c se f) (n : Nat) (g : Nat → Int32) : jx_ia V (s + 9) n g ↔ n = 3 ∧ g = se := ia_iff (h.2 0 (by decide))
theorem HAt_10 {V : jx_W} {s : Nat} {c se : Nat → Int32} {f : Nat → Option Nat} (h : HAt V s c se f) (n : Nat) (g : Nat → Option Nat) : jx_ra V (s + 10) (jx_nm 2) n g ↔ n = 4 ∧ g = f := ra_iff (h.2 1 (by decide))
theorem c_st_loop {s' : Nat} {Y2 : cSt} {od2 : Nat → Nat} {st2 : aSt} (hd : s + 59 ≤ s' ∨ s' + 59 ≤ s) (hS2 : STr s' od2 Y2 st2) (hK : ∀ W' Y', SAt W' s au Y' → SAt W' s' au Y2 → STq s od Y' st2 → (∀ j, j < st2.2.2.2.1.length → ∃ f0, FWr f0 (Y'.2.2.2.2.2 (od j)) (fGet st2.2.2.2.1 j).1 (fGet st2.2.2.2.1 j).2.1 (fGet st2.2.2.2.1 j).2.2) → Fr W W' s 59 → zwp n_St_copyFrom 2 [(0, .ref s), (1, .ref s')] [] 0 0 W' K) : ∀ (m i : Nat), i + m = st2.2.2.2.1.length → ∀ V Y1, SAt V s au Y1 → SAt V s' au Y2 → Fr W V s 59 → STq s od Y1 st2 → (∀ j, j < i → ∃ f0, FWr f0 (Y1.2.2.2.2.2 (od j)) (fGet st2.2.2.2.1 j).1 (fGet st2.2.2.2.1 j).2.1 (fGet st2.2.2.2.1 j).2.2) → zwp n_St_copyFrom 1 [(0, .ref s), (1, .ref s'), (2, .int (nI i))] [] 0 0 V K := by
  obtain ⟨t1, t2, t3, ⟨t4, t4b⟩, t5, ⟨q1, q2, q3⟩, t7⟩ := id hS2
  intro m
  induction m with
  | zero =>
    intro i hi V Y1 hV hV2 hF hQ w6
    obtain rfl : i = st2.2.2.2.1.length := by omega
    have hfin := hK V Y1 hV hV2 hQ w6 hF
    refine b_St_copyFrom_1 ?_
    simp only [HAt_ob hV.1, StF_4, and_assoc, exists_and_left, exists_eq_left, exists_eq_left', Option.some.injEq, Value.int.injEq, Value.ref.injEq, Value.long.injEq, true_and, and_true, exists_eq, exists_true_left]
    rw [hQ.2.2.2.1]
    exact ⟨fun _ => hfin, fun z => absurd (Int32.le_refl _) z⟩
  | succ m ih =>
    intro i hi V Y1 hV hV2 hF hQ w6
    have hi4 : i < 4 := by omega
    obtain ⟨w1, w2, w3, w4, ⟨o1, o2, o3⟩⟩ := id hQ
    obtain ⟨f0, g⟩ := t7 i (by omega)
    have k1 := o1 i hi4
    have k2 := q1 i hi4
    refine b_St_copyFrom_1 ?_
    simp only [HAt_ob hV.1, HAt_10 hV.1, HAt_ob hV2.1, HAt_10 hV2.1, StF_4, StF_3, and_assoc, exists_and_left, exists_eq_left, exists_eq_left', Option.some.injEq, Value.int.injEq, Value.ref.injEq, Value.long.injEq, true_and, and_true, exists_eq, exists_true_left]
    rw [w4, nI_clamp (by omega), o3 i hi4, q3 i hi4]
    refine ⟨fun z => absurd ((nI_leI (by omega) (by omega)).mp z) (by omega), fun _ => ⟨fun z => absurd ((nI_leI (a := 4) (by decide) (by omega)).mp z) (by omega), fun _ => ⟨vp_in_nI hi4 (by decide), _, rfl, vp_in_nI hi4 (by decide), _, rfl, ⟨_, (hV.2.2.2 _ k1).1⟩, ?_⟩⟩⟩
    refine c_FlCopy (gp := 0) (gp' := 0) (hV.2.2.2 _ k1) (hV2.2.2.2 _ k2) (by omega) g (fun X' g2 => ⟨rfl, ?_⟩)
    rw [nI_1]
    refine ih (i + 1) (by omega) _ _ (hV.flow1 k1) (hV2.fr (Fr_flow1 k1) (by omega)) (hF.tr (Fr_flow1 k1)) ⟨w1, w2, w3, w4, o1, o2, o3⟩ (fun j hj => ?_)
    show ∃ f0, FWr f0 (if od j = od i then X' else Y1.2.2.2.2.2 (od j)) _ _ _
    by_cases e : j = i
    · rw [e, if_pos rfl]; exact ⟨f0, g2⟩
    · rw [if_neg (fun z => e (o2 _ _ (by omega) hi4 z))]
      exact w6 j (by omega)
theorem c_stCopy {s' : Nat} {Y2 : cSt} {od2 : Nat → Nat} {st2 : aSt} (hd : s + 59 ≤ s' ∨ s' + 59 ≤ s) (hW : SAt W s au Y) (hW2 : SAt W s' au Y2) (hO : OD s Y.2.2.1 od) (hS2 : STr s' od2 Y2 st2) (hK : ∀ W' Y', SAt W' s au Y' → STr s od Y' st2 → Fr W W' s 59 → K W' none) : zcall n_St_copyFrom [.ref s, .ref s'] W K := by
  obtain ⟨t1, t2, t3, ⟨t4, t4b⟩, t5, ⟨q1, q2, q3⟩, t7⟩ := id hS2
  refine e_St_copyFrom (b_St_copyFrom_0 ?_)
  simp only [HAt_ob hW.1, HAt_ob hW2.1, StF_0, and_assoc, exists_and_left, exists_eq_left, exists_eq_left', Option.some.injEq, Value.int.injEq, Value.ref.injEq, Value.long.injEq, true_and, and_true, exists_eq, exists_true_left]
  refine ⟨⟨_, hW.2.2.1 0 (by decide)⟩, c_WdCopy (wd := st2.1) hW.2.2.1 hW2.2.2.1 (by omega) t1 (fun r1 g1 => ⟨rfl, ?_⟩)⟩
  have hV := hW.words (r := r1)
  have f1 : Fr W (Wdw W (s + 6) r1) s 59 := Fr.rf.bw (by omega) (by omega)
  have hV2 := hW2.fr f1 (by omega)
  have hh : Shw (Wdw W (s + 6) r1) s Y.1 Y.2.1 Y.2.2.1 = Wdw W (s + 6) r1 := Shw_eq hV.1
  have o1 : ∀ se fs, jx_ob (Shw (Wdw W (s + 6) r1) s Y.1 se Y.2.2.1) s' 5 fs ↔ fs = StF s' Y2.1 := fun se fs => HAt_ob (hV2.fr (Fr_head (c := Y.1) (se := se) (f := Y.2.2.1)) (by omega)).1 fs
  have o2 : ∀ se, (Shw (Wdw W (s + 6) r1) s Y.1 se Y.2.2.1).2.2 (s' + 9) = some (.inl (.int, 3, .inl Y2.2.1)) := fun se => (hV2.fr (Fr_head (c := Y.1) (se := se) (f := Y.2.2.1)) (by omega)).1.2 0 (by decide)
  rw [← hh]
  simp only [Shw_ob, o1, o2, Shw_g9, StF_1, StF_2, Shw_v9, Sum.inl.injEq, Prod.mk.injEq, and_assoc, exists_and_left, exists_eq_left, exists_eq_left', Option.some.injEq, Value.int.injEq, Value.ref.injEq, Value.long.injEq, true_and, and_true, exists_eq, exists_true_left]
  refine ⟨by decide, by decide, by decide, by decide, by decide, fun _ _ => rfl, ?_⟩
  obtain ⟨se, hse⟩ : ∃ se, se = va_cpy Y2.2.1 Y.2.1 (0 : Int32).toNatClampNeg (0 : Int32).toNatClampNeg (3 : Int32).toNatClampNeg := ⟨_, rfl⟩
  rw [← hse]
  have es : ∀ i, i < 3 → se i = Y2.2.1 i := fun i hi => by rw [hse]; exact cpyN (m := 3) (by decide) hi
  have hV3 := hV.head (c := Y.1) (se := se) (f := Y.2.2.1)
  have f3 := f1.tr (Fr_head (c := Y.1) (se := se) (f := Y.2.2.1))
  have hV32 := hW2.fr f3 (by omega)
  refine ⟨⟨_, hV3.2.1 0 (by decide)⟩, c_FdCopy (fh := st2.2.2.1) hV3.2.1 hV32.2.1 (by omega) t3 (fun c4 r4 g4 => ⟨rfl, ?_⟩)⟩
  have hV4 := hV3.finds (c := c4) (r := r4)
  have f4 : Fr W (Fdw (Shw (Wdw W (s + 6) r1) s Y.1 se Y.2.2.1) (s + 1) c4 r4) s 59 := f3.bw (by omega) (by omega)
  have hV42 := hW2.fr f4 (by omega)
  obtain ⟨V4, hVe⟩ : ∃ V4, V4 = Fdw (Shw (Wdw W (s + 6) r1) s Y.1 se Y.2.2.1) (s + 1) c4 r4 := ⟨_, rfl⟩
  rw [← hVe] at hV4 hV42 f4 ⊢
  have hh4 : Shw V4 s Y.1 se Y.2.2.1 = V4 := Shw_eq hV4.1
  have o4 : ∀ fs, jx_ob (Shw V4 s Y.1 se Y.2.2.1) s' 5 fs ↔ fs = StF s' Y2.1 := fun fs => by rw [hh4]; exact HAt_ob hV42.1 fs
  rw [← hh4]
  simp only [Shw_ob, o4, StF_4, StF_s4, StF_len, Shw_uob, Nat.reduceLT, and_assoc, exists_and_left, exists_eq_left, exists_eq_left', Option.some.injEq, Value.int.injEq, Value.ref.injEq, Value.long.injEq, true_and, and_true, exists_eq, exists_true_left]
  have hV5 := hV4.head (c := upd Y.1 4 (Y2.1 4)) (se := se) (f := Y.2.2.1)
  have f5 := f4.tr (Fr_head (c := upd Y.1 4 (Y2.1 4)) (se := se) (f := Y.2.2.1))
  refine c_st_loop (W := W) hd hS2 (fun W' Y' a1 a2 a3 a4 a5 => b_St_copyFrom_2 ?_) st2.2.2.2.1.length 0 (Nat.zero_add _) _ _ hV5 (hW2.fr f5 (by omega)) f5 ⟨g1, ⟨(es 0 (by decide)).trans t2.1, (es 1 (by decide)).trans t2.2.1, (es 2 (by decide)).trans t2.2.2⟩, g4, t4, hO⟩ (fun j hj => absurd hj (Nat.not_lt_zero _))
  have hh6 := Shw_eq a1.1
  have o6 : ∀ fs, jx_ob (Shw W' s Y'.1 Y'.2.1 Y'.2.2.1) s' 5 fs ↔ fs = StF s' Y2.1 := fun fs => by rw [hh6]; exact HAt_ob a2.1 fs
  rw [← hh6]
  simp only [Shw_ob, o6, StF_5, StF_s5, StF_len, Shw_uob, Nat.reduceLT, and_assoc, exists_and_left, exists_eq_left, exists_eq_left', Option.some.injEq, Value.int.injEq, Value.ref.injEq, Value.long.injEq, true_and, and_true, exists_eq, exists_true_left]
  obtain ⟨b1, b2, b3, b4, b5⟩ := a3
  exact hK _ _ (a1.head (c := upd Y'.1 5 (Y2.1 5)) (se := Y'.2.1) (f := Y'.2.2.1)) ⟨b1, b2, b3, ⟨b4, t4b⟩, t5, b5, a4⟩ (a5.tr Fr_head)
end CState2
