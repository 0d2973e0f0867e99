/-! THE CLASS's METHODS: a segment is handled, a flow ends -/
/-- all but the flow i -/
def STe (b : Nat) (od : Nat → Nat) (Y : cSt) (st : aSt) (i : Nat) : Prop := WDr Y.2.2.2.2.1 st.1 ∧ (Y.2.1 0 = nI st.2.1.1 ∧ Y.2.1 1 = nI st.2.1.2.1 ∧ Y.2.1 2 = nI st.2.1.2.2) ∧ FDr Y.2.2.2.1.1 Y.2.2.2.1.2 st.2.2.1 ∧ (Y.1 4 = nI st.2.2.2.1.length ∧ st.2.2.2.1.length ≤ 4) ∧ Y.1 5 = nI st.2.2.2.2 ∧ OD b Y.2.2.1 od ∧ ∀ j, j < st.2.2.2.1.length → j ≠ i → ∃ f0, FWr f0 (Y.2.2.2.2.2 (od j)) (fGet st.2.2.2.1 j).1 (fGet st.2.2.2.1 j).2.1 (fGet st.2.2.2.1 j).2.2
theorem c_stRemove2 {W : jx_W} {b au : Nat} {Y : cSt} {K : jx_Q} {st : aSt} {od : Nat → Nat} {x : Int32} {i : Nat} (hW : SAt W b au Y) (hS : STe b od Y st i) (hi : i < st.2.2.2.1.length) (hx : x = nI i) (hK : ∀ c' f', c' 5 = Y.1 5 → STr b (mvO od i st.2.2.2.1.length) (c', Y.2.1, f', Y.2.2.2) (st.1, st.2.1, st.2.2.1, st.2.2.2.1.eraseIdx i, st.2.2.2.2) → K (Shw W b c' Y.2.1 f') none) : zcall n_St_remove [.ref b, .int x] W K := by
  obtain ⟨t1, t2, t3, ⟨t4, t4b⟩, t5, hO, t7⟩ := hS
  refine e_St_remove (b_St_remove_0 ⟨⟨_, hW.1.1⟩, c_movedToEnd hW hO t4 t4b hi hx (fun f' g => ⟨_, rfl, ?_⟩)⟩)
  simp only [Shw_ob, StF_4, StF_s4, StF_len, Shw_uob, Nat.reduceLT, and_assoc, exists_and_left, exists_eq_left, exists_eq_left', Option.some.injEq, Value.int.injEq, Value.ref.injEq, Value.long.injEq, true_and, and_true, exists_eq, exists_true_left]
  rw [t4, lit_1, pk_sub (by omega)]
  have hl : (st.2.2.2.1.eraseIdx i).length = st.2.2.2.1.length - 1 := List.length_eraseIdx_of_lt hi
  refine hK _ _ rfl ⟨t1, t2, t3, ⟨by show nI (st.2.2.2.1.length - 1) = nI (st.2.2.2.1.eraseIdx i).length; rw [hl], by show (st.2.2.2.1.eraseIdx i).length ≤ 4; omega⟩, t5, g, fun j hj => ?_⟩
  have hj : j < (st.2.2.2.1.eraseIdx i).length := hj
  rw [hl] at hj
  show ∃ f0, FWr f0 (Y.2.2.2.2.2 (mvO od i st.2.2.2.1.length j)) (fGet (st.2.2.2.1.eraseIdx i) j).1 (fGet (st.2.2.2.1.eraseIdx i) j).2.1 (fGet (st.2.2.2.1.eraseIdx i) j).2.2
  rw [mvO_lt hj, fGet_erase]
  by_cases e : j < i
  · rw [if_pos e, if_pos e]; exact t7 j (by omega) (by omega)
  · rw [if_neg e, if_neg e]; exact t7 (j + 1) (by omega) (by omega)
section CTop6
variable {W : jx_W} {t : Nat} {s : aSt} {past : List aSt} {bs : List Int32} {n : Nat} {K : jx_Q}
theorem STr_ff {b i : Nat} {od : Nat → Nat} {Y : cSt} {X : cFl} {f : aFlow} {f0 : Nat} {fc : Nat → Int32} {fr : Nat → Nat → Int32} {fh : List aFd} (hS : STr b od Y s) (hi : i < s.2.2.2.1.length) (hF : FDr fc fr fh) (hX : FWr f0 X f.1 f.2.1 f.2.2) : STr b od (Y.1, Y.2.1, Y.2.2.1, (fc, fr), Y.2.2.2.2.1, fun j => if j = od i then X else Y.2.2.2.2.2 j) (s.1, s.2.1, fh, s.2.2.2.1.set i f, s.2.2.2.2) := by
  obtain ⟨a1, a2, a3, a4⟩ := STr_setf (X := X) (f := f) (f0 := f0) hS hi hX
  exact ⟨a1, a2, hF, a4⟩
theorem c_handled {key x : Int32} {b nw o B : Nat} {pc : Int32} {od : Nat → Nat} {Y : cSt} {tx : Nat → Int32} {pf : Nat → Option Nat} {ac : Nat → Int32} {ar : Nat → Nat → Int32} (h1 : THd W t (nI bs.length) pc nw tx pf) (htx : bs.length ≤ 40 ∧ ∀ i, i < bs.length → tx i = bs.getD i 0) (hb : t + 11 ≤ b ∧ (b + 59 ≤ t + 129 ∨ t + 147 ≤ b)) (hS : SAt W b (t + 2) Y) (hT : STr b od Y s) (hAu : At W (t + 2) 9 (AuC (t + 2) ac ar)) (hU : AUx ac ar s.1) (hI : stI s B) (hB : B + 12480 < 2 ^ 25) (h6 : (aTo s key).1.2.1.2.2.1.length < 6) (hp : aOk (o, bs)) (hx : x = nI o) (hK : ∀ W' Y' od', SAt W' b (t + 2) Y' → STr b od' Y' (aSegm (auOf s.1) s key (o, bs)) → Fr W W' b 59 → K W' (some (.int (nI (aMade (auOf s.1) s key (o, bs)))))) : zcall n_T_handled [.ref t, .ref b, .int key, .int x] W K := by
  have hA := au_ok hI.1
  obtain ⟨i1, i2, i3⟩ := hI.to key
  have hfl : s.2.2.1.length ≤ B := hI.2.2.2.1
  refine e_T_handled (b_T_handled_0 ?_)
  simp only [HAt_ob hS.1, StF_2, and_assoc, exists_and_left, exists_eq_left, exists_eq_left', Option.some.injEq, Value.int.injEq, Value.ref.injEq, Value.long.injEq, true_and, and_true, exists_eq, exists_true_left]
  refine ⟨⟨_, hS.2.1 0 (by decide)⟩, c_made hS.2.1 hT.2.2.1 ⟨_, rfl, ⟨_, hS.1.1⟩, c_flowOfSegment hS hT (fun W1 Y1 od1 hS1 hT1 hf1 => ⟨_, rfl, ?_⟩)⟩⟩
  have h1' := THd_fr h1 hf1 (by omega) (by omega)
  have hAu1 := hAu.fr hf1 (by omega)
  obtain ⟨t1, t2, t3, ⟨t4, t4b⟩, t5, ⟨o1, o2, o3⟩, t7⟩ := id hT1
  have hlen : ((aTo s key).2.1 ++ [(aTo s key).1]).length = (aTo s key).2.1.length + 1 := by rw [List.length_append]; rfl
  obtain ⟨f0, g⟩ := t7 (aTo s key).2.1.length (by show _ < ((aTo s key).2.1 ++ [(aTo s key).1]).length; omega)
  have g : FWr f0 (Y1.2.2.2.2.2 (od1 (aTo s key).2.1.length)) (fGet ((aTo s key).2.1 ++ [(aTo s key).1]) (aTo s key).2.1.length).1 (fGet ((aTo s key).2.1 ++ [(aTo s key).1]) (aTo s key).2.1.length).2.1 (fGet ((aTo s key).2.1 ++ [(aTo s key).1]) (aTo s key).2.1.length).2.2 := g
  rw [fGet_app2] at g
  have hod := o1 (aTo s key).2.1.length (by omega)
  have hFl := hS1.2.2.2 _ hod
  simp only [THd_ob h1', TF_0, TF_1, and_assoc, exists_and_left, exists_eq_left, exists_eq_left', Option.some.injEq, Value.int.injEq, Value.ref.injEq, Value.long.injEq, true_and, and_true, exists_eq, exists_true_left]
  refine ⟨⟨_, hFl.1⟩, c_accept (p := (o, bs)) (m := 40) (fr0 := 0) (B := s.2.2.1.length + 12480) (f := tx) (FCx_st hAu1 (AUx_AUr hU) hA hb.1 hod) hFl hS1.2.1 i1.1 (by omega) (FWr_mask (fh := s.2.2.1) g) t3 (fOk_plug i1.2.1) (flI_iv i1 (Nat.le_refl _)) h6 (h1'.1 1 (by decide)) (by omega) (by omega) (by show 0 + bs.length ≤ 40; omega) (by decide) hp (fun j hj => by rw [Nat.zero_add]; exact htx.2 j hj) rfl rfl hx (fun X' fc' fr' k1 k2 => ⟨rfl, ?_⟩)⟩
  have hS2 := hS1.flow (fc := fc') (fr := fr') (X := X') hod
  have hle : s.2.2.1.length ≤ (afh (aSegF (auOf s.1) s key (o, bs))).length := by
    have := on_len (A := auOf s.1) (fl := (aTo s key).1) (fh := s.2.2.1) (p := (o, bs))
    show _ ≤ (afh (aOn _ _ _ _)).length
    omega
  have hT2 := STr_ff (i := (aTo s key).2.1.length) (X := X') (fc := fc') (fr := fr') (fh := afh (aSegF (auOf s.1) s key (o, bs))) (f := ((aTo s key).1.1, plug (aSegF (auOf s.1) s key (o, bs)) [] 0, aLog (aTo s key).1.2.2 (o, bs))) hT1 (by show _ < ((aTo s key).2.1 ++ [(aTo s key).1]).length; omega) k2 (FWr_mask k1)
  have hT2 : STr b od1 _ (s.1, s.2.1, afh (aSegF (auOf s.1) s key (o, bs)), ((aTo s key).2.1 ++ [(aTo s key).1]).set (aTo s key).2.1.length ((aTo s key).1.1, plug (aSegF (auOf s.1) s key (o, bs)) [] 0, aLog (aTo s key).1.2.2 (o, bs)), (aTo s key).2.2) := hT2
  rw [List.set_append_right _ _ (Nat.le_refl _), Nat.sub_self] at hT2
  simp only [HAt_ob hS2.1, StF_2, and_assoc, exists_and_left, exists_eq_left, exists_eq_left', Option.some.injEq, Value.int.injEq, Value.ref.injEq, Value.long.injEq, true_and, and_true, exists_eq, exists_true_left]
  refine ⟨⟨_, hS2.2.1 0 (by decide)⟩, c_made hS2.2.1 k2 ⟨_, rfl, ?_⟩⟩
  have := hK _ _ od1 hS2 hT2 (hf1.tr (Fr_flow hod))
  have e : nI (aHandle (auOf s.1) (aTo s key).1.1 (plug (aTo s key).1.2.1 s.2.2.1 0) (o, bs)).1.1.2.2.2.2.1.length - nI s.2.2.1.length = nI (aMade (auOf s.1) s key (o, bs)) := pk_sub hle
  rw [e]; exact this
theorem aWrong_0 {key off : Int32} {B : Nat} (hI : stI s B) (hbs : bsOk bs) (h40 : bs.length ≤ 40) (h : aWrong s bs key off = 0) : ∃ o, off = nI o ∧ o ≤ 999 ∧ aOk (o, bs) ∧ (aTo s key).1.2.1.2.2.1.length < 6 := by
  unfold aWrong at h
  split at h
  · rename_i hc
    obtain ⟨o, ho, eo⟩ := rng_nI (hi := 999) (by decide) hc.2
    split at h
    · exact absurd h (by decide)
    · rename_i hne
      refine ⟨o, eo, ho, ⟨ho, by show 1 ≤ bs.length; omega, h40, hbs⟩, ?_⟩
      unfold aTo
      cases e : aPlace s.2.2.2.1 key with
      | some i =>
        rw [e] at h
        have h : (if (fGet s.2.2.2.1 i).2.1.2.2.1.length = 6 then (-3 : Int32) else 0) = 0 := h
        have hi := (aPlace_lt e).1
        have := (hI.2.2.1 _ (fGet_mem hi)).2.1.2.2.2
        show (fGet s.2.2.2.1 i).2.1.2.2.1.length < 6
        split at h
        · exact absurd h (by decide)
        · omega
      | none => show 0 < 6; decide
  · exact absurd h (by decide)
theorem c_segment {key off : Int32} {B : Nat} (hI : TI W t s past bs n) (hs : stI s B) (hB : B + 12480 < 2 ^ 25) (hbs : bsOk bs) (hK0 : aWrong s bs key off ≠ 0 → K W (some (.int (aWrong s bs key off)))) (hK1 : aWrong s bs key off = 0 → ∀ W' o, off = nI o → o ≤ 999 → TI W' t (aSegm (auOf s.1) s key (o, bs)) (aPast past s) bs n → Fr W W' t 383 → K W' (some (.int (nI (aMade (auOf s.1) s key (o, bs)))))) : zcall n_T_segment [.ref t, .int key, .int off] W K := by
  refine e_T_segment (b_T_segment_0 ⟨TI_ob hI, c_segmentError hI ⟨_, rfl, fun z => b_T_segment_1 ⟨TI_ob hI, c_record hI (fun W1 k1 k2 => ⟨rfl, ?_⟩)⟩, fun z => hK0 z⟩⟩)
  obtain ⟨b, od, Y, tx, pf, ac, ar, h1, hS, hT, hAu, hU, hb, htx, hC, -⟩ := TI_st k1
  obtain ⟨o, eo, ho, hp, h6⟩ := aWrong_0 hs hbs htx.1 z
  simp only [THd_ob h1, TF_3, and_assoc, exists_and_left, exists_eq_left, exists_eq_left', Option.some.injEq, Value.int.injEq, Value.ref.injEq, Value.long.injEq, true_and, and_true, exists_eq, exists_true_left]
  refine c_handled h1 htx ⟨hb.1, hb.2.2⟩ hS hT hAu hU hs hB h6 hp eo (fun W2 Y2 od2 a1 a2 a3 => ⟨_, rfl, ?_⟩)
  have hn := hC W2 Y2 od2 _ a3 a1 a2 rfl
  exact hK1 z W2 o eo ho hn.1 (k2.tr hn.2)
theorem TI_trial (hI : TI W t s past bs n) : ∃ b od Y tx pf ac ar Yt odt, THd W t (nI bs.length) (nI past.length) b tx pf ∧ SAt W b (t + 2) Y ∧ STr b od Y s ∧ At W (t + 2) 9 (AuC (t + 2) ac ar) ∧ AUx ac ar s.1 ∧ SAt W (t + 70) (t + 2) Yt ∧ OD (t + 70) Yt.2.2.1 odt ∧ (b + 59 ≤ t + 70 ∨ t + 129 ≤ b) ∧ (bs.length ≤ 40 ∧ ∀ i, i < bs.length → tx i = bs.getD i 0) ∧ (∀ W' Y' od', Fr W W' (t + 70) 59 → SAt W' (t + 70) (t + 2) Y' → OD (t + 70) Y'.2.2.1 od' → TI W' t s past bs n ∧ Fr W W' t 383) := by
  obtain ⟨nw, pa, pf, tx, ac, ar, Y, Xr, fc, fr, hP, m1, m2, ⟨m3, m3b, m3c⟩, ⟨od, m4⟩, ⟨m5, m5b⟩, m6, m7⟩ := hI
  obtain ⟨odt, hodt⟩ := m6 5 (by decide)
  have hd := sa_dis t (j := nw) (k := 5) (by omega) (by decide) (by omega)
  have e5 : sa t 5 = t + 70 := rfl
  rw [e5] at hd
  refine ⟨sa t nw, od, Y nw, tx, pf, ac, ar, Y 5, odt, hP.1, hP.2.2.1 nw (by omega), m4, hP.2.1, m2, hP.2.2.1 5 (by decide), hodt, by omega, m1, fun W' Y' od' a1 a2 a3 => ⟨⟨nw, pa, pf, tx, ac, ar, _, Xr, fc, fr, hP.st (k := 5) (by decide) a1 a2, m1, m2, ⟨m3, m3b, m3c⟩, ⟨od, ?_⟩, ⟨m5, fun i hi => ?_⟩, fun k hk => ?_, m7⟩, Fr_st (k := 5) (by decide) a1⟩⟩
  · show STr _ _ (if nw = 5 then Y' else Y nw) _
    rw [if_neg (by omega)]; exact m4
  · show ∃ od, STr _ od (if pa i = 5 then Y' else Y (pa i)) _
    rw [if_neg (by have := (m3b i (by omega)).1; omega)]; exact m5b i hi
  · show ∃ od, OD _ (if k = 5 then Y' else Y k).2.2.1 od
    by_cases e : k = 5
    · rw [if_pos e, e]; exact ⟨od', a3⟩
    · rw [if_neg e]; exact m6 k hk
theorem c_ifSegment {key off : Int32} {B : Nat} (hI : TI W t s past bs n) (hs : stI s B) (hB : B + 12480 < 2 ^ 25) (hbs : bsOk bs) (hK0 : aWrong s bs key off ≠ 0 → K W (some (.int (aWrong s bs key off)))) (hK1 : aWrong s bs key off = 0 → ∀ W' o, off = nI o → o ≤ 999 → TI W' t s past bs n → Fr W W' t 383 → K W' (some (.int (nI (aMade (auOf s.1) s key (o, bs)))))) : zcall n_T_ifSegment [.ref t, .int key, .int off] W K := by
  refine e_T_ifSegment (b_T_ifSegment_0 ⟨TI_ob hI, c_segmentError hI ⟨_, rfl, fun z => b_T_ifSegment_1 ?_, fun z => hK0 z⟩⟩)
  obtain ⟨b, od, Y, tx, pf, ac, ar, Yt, odt, h1, hS, hT, hAu, hU, hSt, hOt, hd, htx, hC⟩ := TI_trial hI
  obtain ⟨o, eo, ho, hp, h6⟩ := aWrong_0 hs hbs htx.1 z
  simp only [THd_ob h1, TF_3, TF_4, and_assoc, exists_and_left, exists_eq_left, exists_eq_left', Option.some.injEq, Value.int.injEq, Value.ref.injEq, Value.long.injEq, true_and, and_true, exists_eq, exists_true_left]
  refine ⟨⟨_, hSt.1.1⟩, c_stCopy (by omega) hSt hS hOt hT (fun W1 Y1 a1 a2 a3 => ⟨rfl, ?_⟩)⟩
  have h1' := THd_fr h1 a3 (by omega) (by omega)
  have hAu1 := hAu.fr a3 (by omega)
  simp only [THd_ob h1', TF_4, and_assoc, exists_and_left, exists_eq_left, exists_eq_left', Option.some.injEq, Value.int.injEq, Value.ref.injEq, Value.long.injEq, true_and, and_true, exists_eq, exists_true_left]
  refine c_handled h1' htx ⟨by omega, Or.inl (by omega)⟩ a1 a2 hAu1 hU hs hB h6 hp eo (fun W2 Y2 od2 c1 c2 c3 => ⟨_, rfl, ?_⟩)
  have hn := hC W2 Y2 od2 (a3.tr c3) c1 c2.2.2.2.2.2.1
  exact hK1 z W2 o eo ho hn.1 hn.2
theorem c_finish {key : Int32} {B : Nat} (hI : TI W t s past bs n) (hs : stI s B) (hB : B + 12480 < 2 ^ 25) (hK0 : ¬ (0 : Int32) ≤ aAsked s.2.2.2.1 key → K W (some (.int (aAsked s.2.2.2.1 key)))) (hK1 : ∀ i, i < s.2.2.2.1.length → aAsked s.2.2.2.1 key = nI i → ∀ W', TI W' t (aFin (auOf s.1) s i) (aPast past s) bs n → Fr W W' t 383 → K W' (some (.int (nI ((aFinS (auOf s.1) s i).2.2.2.2.1.length - s.2.2.1.length))))) : zcall n_T_finish [.ref t, .int key] W K := by
  obtain ⟨b0, od0, Y0, tx0, pf0, ac0, ar0, g1, gS, gT, -⟩ := TI_st hI
  have h4 := gT.2.2.2.1.2
  refine e_T_finish (b_T_finish_0 (s_T_isKey (fun a => ⟨_, rfl, fun _ => b_T_finish_1 ?_, fun z => absurd z (by decide)⟩) (fun a => ⟨_, rfl, fun z => absurd rfl z, fun _ => ?_⟩)))
  · simp only [THd_ob g1, TF_3, and_assoc, exists_and_left, exists_eq_left, exists_eq_left', Option.some.injEq, Value.int.injEq, Value.ref.injEq, Value.long.injEq, true_and, and_true, exists_eq, exists_true_left]
    refine ⟨⟨_, gS.1.1⟩, c_placeOf gS gT ⟨_, rfl, fun y => b_T_finish_2 ?_, fun y => ?_⟩⟩
    · cases e : aPlace s.2.2.2.1 key with
      | none => rw [e] at y; exact absurd rfl y
      | some i =>
        have hi := (aPlace_lt e).1
        refine ⟨TI_ob hI, c_record hI (fun W1 k1 k2 => ⟨rfl, ?_⟩)⟩
        obtain ⟨b, od, Y, tx, pf, ac, ar, h1, hS, hT, hAu, hU, hb, htx, hC, -⟩ := TI_st k1
        obtain ⟨t1, t2, t3, ⟨t4, t4b⟩, t5, ⟨o1, o2, o3⟩, t7⟩ := id hT
        have hod := o1 i (by omega)
        obtain ⟨f0, g⟩ := t7 i hi
        have hA := au_ok hs.1
        have hf := hs.2.2.1 _ (fGet_mem hi)
        have hfl : s.2.2.1.length ≤ B := hs.2.2.2.1
        simp only [THd_ob h1, TF_3, HAt_ob hS.1, StF_2, and_assoc, exists_and_left, exists_eq_left, exists_eq_left', Option.some.injEq, Value.int.injEq, Value.ref.injEq, Value.long.injEq, true_and, and_true, exists_eq, exists_true_left]
        refine ⟨⟨_, hS.2.1 0 (by decide)⟩, c_made hS.2.1 t3 ⟨_, rfl, ?_⟩⟩
        simp only [THd_ob h1, TF_3, HAt_ob hS.1, StF_3, HAt_10 hS.1, and_assoc, exists_and_left, exists_eq_left, exists_eq_left', Option.some.injEq, Value.int.injEq, Value.ref.injEq, Value.long.injEq, true_and, and_true, exists_eq, exists_true_left]
        refine ⟨vin4 (by omega), b + 11 + 12 * od i, by show Y.2.2.1 (nI i).toNatClampNeg = _; rw [nI_clamp (by omega)]; exact o3 i (by omega), ⟨_, (hS.2.2.2 _ hod).1⟩, ?_⟩
        refine c_fend (B := s.2.2.1.length + 12480) (FCx_st hAu (AUx_AUr hU) hA hb.1 hod) (hS.2.2.2 _ hod) hS.2.1 hf.1 (by omega) (FWr_mask (fh := s.2.2.1) g) t3 (fOk_plug hf.2.1).1 hf.2.1.2.1 (flI_iv hf (Nat.le_refl _)) (fun X' fc' fr' c1 c2 => ⟨rfl, ?_⟩)
        have hS2 := hS.flow (fc := fc') (fr := fr') (X := X') hod
        have h1' := THd_fr h1 (Fr_flow (W := W1) (s := b) (au := t + 2) (fc := fc') (fr := fr') (X := X') hod) (by omega) (by omega)
        simp only [THd_ob h1', TF_3, and_assoc, exists_and_left, exists_eq_left, exists_eq_left', Option.some.injEq, Value.int.injEq, Value.ref.injEq, Value.long.injEq, true_and, and_true, exists_eq, exists_true_left]
        have hE : STe b od (Y.1, Y.2.1, Y.2.2.1, (fc', fr'), Y.2.2.2.2.1, fun j => if j = od i then X' else Y.2.2.2.2.2 j) (s.1, s.2.1, (aFinS (auOf s.1) s i).2.2.2.2.1, s.2.2.2.1, s.2.2.2.2) i := by
          refine ⟨t1, t2, c2, ⟨t4, t4b⟩, t5, ⟨o1, o2, o3⟩, fun j hj hne => ?_⟩
          have hj : j < s.2.2.2.1.length := hj
          show ∃ f0, FWr f0 (if od j = od i then X' else Y.2.2.2.2.2 (od j)) _ _ _
          rw [if_neg (fun t => hne (o2 j i (by omega) (by omega) t))]
          exact t7 j hj
        refine ⟨⟨_, hS2.1.1⟩, c_stRemove2 hS2 hE hi rfl (fun c' f' d1 d2 => ⟨rfl, ?_⟩)⟩
        have hS3 := hS2.head (c := c') (se := Y.2.1) (f := f')
        have hn := hC _ _ _ _ ((Fr_flow (W := W1) (s := b) (au := t + 2) (fc := fc') (fr := fr') (X := X') hod).tr Fr_head) hS3 d2 rfl
        have h1'' := THd_fr h1' (Fr_head (s := b) (c := c') (se := Y.2.1) (f := f')) (by omega) (by omega)
        simp only [THd_ob h1'', TF_3, HAt_ob hS3.1, StF_2, and_assoc, exists_and_left, exists_eq_left, exists_eq_left', Option.some.injEq, Value.int.injEq, Value.ref.injEq, Value.long.injEq, true_and, and_true, exists_eq, exists_true_left]
        refine ⟨⟨_, hS3.2.1 0 (by decide)⟩, c_made hS3.2.1 c2 ⟨_, rfl, ?_⟩⟩
        have hle : s.2.2.1.length ≤ (aFinS (auOf s.1) s i).2.2.2.2.1.length := (gro_rel (A := auOf s.1) (fl := (fGet s.2.2.2.1 i).1.2.2.1) (key := (fGet s.2.2.2.1 i).1.1) (S := (plug (fGet s.2.2.2.1 i).2.1 s.2.2.1 0).1.1) (held := (fGet s.2.2.2.1 i).2.1.1.2.1) (dig := (fGet s.2.2.2.1 i).2.1.1.2.2) (idx := (fGet s.2.2.2.1 i).2.1.2.1) hf.2.2.1.2.2.1).2.2.1
        have := hK1 i hi (asked_some a e) _ hn.1 (k2.tr hn.2)
        have e2 : nI (aFinS (auOf s.1) s i).2.2.2.2.1.length - nI s.2.2.1.length = _ := pk_sub hle
        rw [← e2] at this
        exact this
    · cases e : aPlace s.2.2.2.1 key with
      | none => rw [asked_none a e] at hK0; exact hK0 (by decide)
      | some i =>
        have := (aPlace_lt e).1
        rw [e] at y; exact absurd y (nI_ne1 (by omega))
  · rw [asked_key a] at hK0; exact hK0 (by decide)
end CTop6
