/-! THE CLASS: the reader: release, take, skip, begin, restart, recentCharacter, copyFrom -/
/-- how what is held may be; idx: behind it -/
def hdOk (fl held dig idx : Nat) : Prop := held ≤ 2 ∧ (0 < held → fl.testBit 1 = true ∧ held ≤ idx) ∧ (held = 2 → dig < 128 ∧ ∃ v, hexv dig = some v)
theorem hdOk_take {A : aAU} {fl : Nat} {key : Int32} {S : aS} {held dig bt idx : Nat} (h : hdOk fl held dig idx) (hb : bt < 128) : hdOk fl (aTake A fl key (S, held, dig) bt idx).2.1 (aTake A fl key (S, held, dig) bt idx).2.2 (idx + 1) := by
  obtain ⟨h1, h2, h3⟩ := h
  unfold aTake
  split
  · exact ⟨h1, fun z => ⟨(h2 z).1, Nat.le_succ_of_le (h2 z).2⟩, h3⟩
  · rename_i hfl
    have hfl : fl.testBit 1 = true := by
      cases ht : fl.testBit 1 with
      | true => rfl
      | false => exact absurd ht hfl
    split
    · exact ⟨Nat.zero_le _, fun z => absurd z (Nat.not_lt_zero _), fun z => absurd z (show ¬ 0 = 2 by decide)⟩
    · rename_i v e1 e2
      have e1 : held = 1 := e1
      exact ⟨Nat.le_refl _, fun _ => ⟨hfl, by have := (h2 (by omega)).2; show 2 ≤ idx + 1; omega⟩, fun _ => ⟨hb, v, e2⟩⟩
    · split
      · exact ⟨by show 1 ≤ 2; decide, fun _ => ⟨hfl, by show 1 ≤ idx + 1; omega⟩, fun z => absurd z (show ¬ 1 = 2 by decide)⟩
      · exact ⟨Nat.zero_le _, fun z => absurd z (Nat.not_lt_zero _), fun z => absurd z (show ¬ 0 = 2 by decide)⟩
theorem aTake_last {A : aAU} {fl : Nat} {key : Int32} {S : aS} {held dig bt idx : Nat} (z : fl.testBit 1 = true) (n1 : ¬ (held = 2 ∧ (hexv bt).isSome = true)) (n2 : ¬ (held = 1 ∧ (hexv bt).isSome = true)) : aTake A fl key (S, held, dig) bt idx = if bt = 37 then (aRel A fl key S held dig idx, 1, dig) else (aChar A fl key (aRel A fl key S held dig idx) bt (nI idx) (nI (idx + 1)), 0, dig) := by
  unfold aTake
  rw [if_neg (by rw [z]; decide)]
  dsimp only
  split
  · rename_i h2; exact absurd ⟨rfl, by rw [h2]; rfl⟩ n1
  · rename_i h2; exact absurd ⟨rfl, by rw [h2]; rfl⟩ n2
  · rfl
theorem oC_neg {x : Option Nat} (h : ∀ k, x = some k → k < 2 ^ 31) : oC x < 0 ↔ x = none := by
  cases x with
  | none => exact ⟨fun _ => rfl, fun _ => by decide⟩
  | some k => exact ⟨fun e => absurd e (nI_pos (h k rfl)), fun e => by cases e⟩
/-- how much reading gives: no more finds than twelve a character -/
def Gro (S S' : aS) (n : Nat) : Prop := S.2.2.1.length ≤ S'.2.2.1.length ∧ S'.2.2.1.length ≤ S.2.2.1.length + n ∧ S.2.2.2.2.1.length ≤ S'.2.2.2.2.1.length ∧ S'.2.2.2.2.1.length ≤ S.2.2.2.2.1.length + 12 * (S'.2.2.1.length - S.2.2.1.length)
theorem Gro.rf {S : aS} {n : Nat} : Gro S S n := ⟨Nat.le_refl _, Nat.le_add_right _ _, Nat.le_refl _, Nat.le_add_right _ _⟩
theorem Gro.tr {S S1 S2 : aS} {m n : Nat} (h : Gro S S1 m) (h' : Gro S1 S2 n) : Gro S S2 (m + n) := by
  obtain ⟨a1, a2, a3, a4⟩ := h
  obtain ⟨b1, b2, b3, b4⟩ := h'
  exact ⟨by omega, by omega, by omega, by omega⟩
theorem Gro.le {S S1 : aS} {m n : Nat} (h : Gro S S1 m) (hm : m ≤ n) : Gro S S1 n := ⟨h.1, by have := h.2.1; omega, h.2.2⟩
theorem gro_read {A : aAU} {key : Int32} {S : aS} {cn : Nat} {st e : Int32} : Gro S (aRead A key S cn st e) 1 := by
  refine ⟨?_, ?_, ?_, ?_⟩
  · show S.2.2.1.length ≤ ((nI cn, st) :: S.2.2.1).length
    rw [List.length_cons]; omega
  · show ((nI cn, st) :: S.2.2.1).length ≤ _
    rw [List.length_cons]
    exact Nat.le_refl _
  · show _ ≤ (fD _ _ _ _ _).length
    rw [fD_len, fS_len]; omega
  · show (fD _ _ _ _ _).length ≤ S.2.2.2.2.1.length + 12 * (((nI cn, st) :: S.2.2.1).length - S.2.2.1.length)
    rw [fD_len, fS_len, List.length_cons]
    have h1 := pc6_le (m := A.2.2.1 (aNd A S.1 cn)) (v := 6)
    have h2 := pc6_le (m := aDb A (aNd A S.1 cn) (aPs A S.2.1 cn)) (v := 6)
    omega
theorem gro_char {A : aAU} {fl : Nat} {key : Int32} {S : aS} {cn : Nat} {st e : Int32} : Gro S (aChar A fl key S cn st e) 1 := by
  unfold aChar
  split
  · exact Gro.rf
  · exact gro_read (S := sBl S _)
theorem gro_rel {A : aAU} {fl : Nat} {key : Int32} {S : aS} {held dig idx : Nat} (h : held ≤ 2) : Gro S (aRel A fl key S held dig idx) held := by
  match held, h with
  | 0, _ => exact Gro.rf
  | 1, _ => exact gro_char
  | 2, _ => exact gro_char.tr gro_char
  | n + 3, h => exact absurd h (by omega)
theorem cpyN {f g : Nat → Int32} {n : Int32} {m i : Nat} (hn : n.toNatClampNeg = m) (hi : i < m) : va_cpy f g (0 : Int32).toNatClampNeg (0 : Int32).toNatClampNeg n.toNatClampNeg i = f i := by
  rw [hn, show (0 : Int32).toNatClampNeg = 0 by decide, pk_cpy_in (by omega) (by omega)]
  congr 1
  omega
section CRead2
variable {W : jx_W} {a au fd : Nat} {ac : Nat → Int32} {ar : Nat → Nat → Int32} {K : jx_Q} {A : aAU} {f0 fl held dig : Nat} {key : Int32} {S : aS} {X : cRd} {fc : Nat → Int32} {fr : Nat → Nat → Int32}
/-- the context in a world whose reader and finds are others -/
theorem RCx.up (h : RCx W a au fd ac ar A) {fc' : Nat → Int32} {fr' : Nat → Nat → Int32} {c : Nat → Int32} {p : Int64} {r : Nat → Nat → Int32} : RCx (Rdw (Fdw W fd fc' fr') a au fd c p r) a au fd ac ar A := ⟨h.at, h.2⟩
theorem Rdw_same {c c' : Nat → Int32} {p p' : Int64} {r r' : Nat → Nat → Int32} : Rdw (Rdw W a au fd c p r) a au fd c' p' r' = Rdw W a au fd c' p' r' := bw_same
theorem RF_up (hd : a + 3 ≤ fd ∨ fd + 5 ≤ a) {c c' : Nat → Int32} {p p' : Int64} {r r' : Nat → Nat → Int32} {fc' : Nat → Int32} {fr' : Nat → Nat → Int32} : Rdw (Fdw (Rdw (Fdw W fd fc fr) a au fd c p r) fd fc' fr') a au fd c' p' r' = Rdw (Fdw W fd fc' fr') a au fd c' p' r' := by
  rw [RF_swap hd, Rdw_same]
theorem RDr_held {h0 h1 : Nat} (hX : RDr f0 X key fl (S, h0, dig)) (h2 : h1 ≠ 2) : RDr f0 (upd X.1 4 (nI h1), X.2.1, X.2.2) key fl (S, h1, dig) := by
  obtain ⟨x2, x3, x4, x5, x6, x7, x8, x11, xr, x12, x13, x14⟩ := hX
  exact ⟨x2, x3, rfl, fun z => absurd z h2, x6, x7, x8, x11, xr, x12, x13, x14⟩
theorem c_release {x : Int32} {idx : Nat} (hC : RCx W a au fd ac ar A) (hR : At W a 3 (RdC a au fd X.1 X.2.1 X.2.2)) (hF : At W fd 5 (FdC fd fc fr)) (hX : RDr f0 X key fl (S, held, dig)) (hFr : FDr fc fr S.2.2.2.2.1) (hS : sOk A S) (hfl : fl < 16) (hl : S.2.2.1.length < 2 ^ 28) (hfh : S.2.2.2.2.1.length < 2 ^ 26) (hH : hdOk fl held dig idx) (hx : x = nI idx) (hi : idx < 2 ^ 30) (hK : ∀ X' fc' fr', RDr f0 X' key fl (aRel A fl key S held dig idx, 0, dig) → FDr fc' fr' (aRel A fl key S held dig idx).2.2.2.2.1 → K (Rdw (Fdw W fd fc' fr') a au fd X'.1 X'.2.1 X'.2.2) none) : zcall n_R_release [.ref a, .int x] W K := by
  subst hx
  have hA := hC.2.2.1
  have hd := hC.2.2.2.1
  have hX4 := hX.2.2.1
  have hX5 := hX.2.2.2.1
  have hX0 : RDr f0 (upd X.1 4 (nI 0), X.2.1, X.2.2) key fl (S, 0, dig) := RDr_held hX (by decide)
  obtain ⟨h1, h2, h3⟩ := hH
  have eW : W = Rdw (Fdw W fd fc fr) a au fd X.1 X.2.1 X.2.2 := by rw [Fdw_eq hF, Rdw_eq hR]
  rw [eW]
  have hX4 : X.1 4 = nI held := hX4
  refine e_R_release (b_R_release_0 ?_)
  simp only [and_assoc, exists_and_left, exists_eq_left, exists_eq_left', Option.some.injEq, Value.int.injEq, Value.ref.injEq, Value.long.injEq, true_and, and_true, exists_eq, exists_true_left, FdF_0, FdF_s0, FdF_1, FdF_s1, FdF_2, FdF_s2, FdF_3, FdF_s3, FdF_4, FdF_5, FdF_6, FdF_7, FdF_len, Fdw_ob, Fdw_uob, Fdw_4, Fdw_g4, Fdw_v4, Fdw_u4, Fdw_5, Fdw_g5, Fdw_v5, Fdw_u5, Fdw_6, Fdw_g6, Fdw_v6, Fdw_u6, Fdw_7, Fdw_g7, Fdw_v7, Fdw_u7, WdF_0, WdF_1, WdF_len, Wdw_ob, Wdw_0, Wdw_g0, Wdw_v0, Wdw_u0, Wdw_1, Wdw_g1, Wdw_v1, Wdw_u1, AuF_0, AuF_s0, AuF_1, AuF_2, AuF_3, AuF_4, AuF_5, AuF_6, AuF_7, AuF_8, AuF_len, Auw_ob, Auw_uob, Auw_1, Auw_g1, Auw_v1, Auw_u1, Auw_2, Auw_g2, Auw_v2, Auw_u2, Auw_3, Auw_g3, Auw_v3, Auw_u3, Auw_4, Auw_g4, Auw_v4, Auw_u4, Auw_5, Auw_g5, Auw_v5, Auw_u5, Auw_6, Auw_g6, Auw_v6, Auw_u6, Auw_7, Auw_g7, Auw_v7, Auw_u7, Auw_8, Auw_g8, Auw_v8, Auw_u8, SgF_0, SgF_s0, SgF_1, SgF_2, SgF_3, SgF_len, Sgw_ob, Sgw_uob, Sgw_1, Sgw_g1, Sgw_v1, Sgw_u1, Sgw_2, Sgw_g2, Sgw_v2, Sgw_u2, Sgw_3, Sgw_g3, Sgw_v3, Sgw_u3, RdF_0, RdF_1, RdF_2, RdF_s2, RdF_3, RdF_s3, RdF_4, RdF_s4, RdF_5, RdF_s5, RdF_6, RdF_s6, RdF_7, RdF_s7, RdF_8, RdF_s8, RdF_9, RdF_10, RdF_11, RdF_s11, RdF_12, RdF_s12, RdF_13, RdF_s13, RdF_14, RdF_s14, RdF_len, Rdw_ob, Rdw_uob, Rdw_9, Rdw_g9, Rdw_v9, Rdw_u9, Rdw_10, Rdw_g10, Rdw_v10, Rdw_u10, FlF_0, FlF_s0, FlF_1, FlF_s1, FlF_2, FlF_s2, FlF_3, FlF_s3, FlF_4, FlF_5, FlF_6, FlF_7, FlF_s7, FlF_8, FlF_s8, FlF_9, FlF_s9, FlF_10, FlF_s10, FlF_11, FlF_s11, FlF_len, Flw_ob, Flw_uob, Flw_pob, Flw_upob, Flw_p1, Flw_p2, Flw_p3, Flw_lob, Flw_ulob, Flw_l1, Flw_l2, Flw_l3, Flw_rob, Nat.reduceLT, rup_s, rup_rup]
  rw [hX4]
  match held, h1, h2, h3, hX5, hK with
  | 0, _, _, _, _, hK =>
    exact ⟨fun _ => b_R_release_1 ⟨fun _ => b_R_release_2 (hK _ fc fr hX0 hFr), fun z => absurd (by decide) z⟩, fun z => absurd (by decide) z⟩
  | 1, _, h2, _, _, hK =>
    have hi1 := (h2 (by decide)).2
    refine ⟨fun z => absurd z (by decide), fun _ => ?_⟩
    rw [pk_sub (by omega), nI_1]
    refine c_come (X := (upd X.1 4 0, X.2.1, X.2.2)) (fc := fc) (fr := fr) hC.up At_bw hC.fd hX0 hFr hS hfl (by omega) (by omega) rfl (by decide) (nI_nn (by omega)) (fun X' fc' fr' g1 g2 g3 => ⟨rfl, b_R_release_1 ⟨fun _ => b_R_release_2 ?_, fun z => absurd (by decide) z⟩⟩)
    rw [RF_up hd]
    rw [show idx - 1 + 1 = idx by omega] at g1 g3
    exact hK X' fc' fr' g1 g3
  | 2, _, h2, h3, hX5, hK =>
    have hi1 := (h2 (by decide)).2
    obtain ⟨hdg, -⟩ := h3 rfl
    refine ⟨fun z => absurd z (by decide), fun _ => ?_⟩
    rw [pk_sub (by omega), nI_1]
    refine c_come (X := (upd X.1 4 0, X.2.1, X.2.2)) (fc := fc) (fr := fr) hC.up At_bw hC.fd hX0 hFr hS hfl (by omega) (by omega) rfl (by decide) (nI_nn (by omega)) (fun X' fc' fr' g1 g2 g3 => ⟨rfl, b_R_release_1 ⟨fun z => absurd z (by decide), fun _ => ?_⟩⟩)
    rw [RF_up hd]
    rw [show idx - 2 + 1 = idx - 1 by omega] at g1 g3
    have g2 : X'.1 5 = nI dig := g2.trans ((show upd X.1 4 0 5 = X.1 5 from rfl).trans (hX5 rfl))
    simp only [and_assoc, exists_and_left, exists_eq_left, exists_eq_left', Option.some.injEq, Value.int.injEq, Value.ref.injEq, Value.long.injEq, true_and, and_true, exists_eq, exists_true_left, FdF_0, FdF_s0, FdF_1, FdF_s1, FdF_2, FdF_s2, FdF_3, FdF_s3, FdF_4, FdF_5, FdF_6, FdF_7, FdF_len, Fdw_ob, Fdw_uob, Fdw_4, Fdw_g4, Fdw_v4, Fdw_u4, Fdw_5, Fdw_g5, Fdw_v5, Fdw_u5, Fdw_6, Fdw_g6, Fdw_v6, Fdw_u6, Fdw_7, Fdw_g7, Fdw_v7, Fdw_u7, WdF_0, WdF_1, WdF_len, Wdw_ob, Wdw_0, Wdw_g0, Wdw_v0, Wdw_u0, Wdw_1, Wdw_g1, Wdw_v1, Wdw_u1, AuF_0, AuF_s0, AuF_1, AuF_2, AuF_3, AuF_4, AuF_5, AuF_6, AuF_7, AuF_8, AuF_len, Auw_ob, Auw_uob, Auw_1, Auw_g1, Auw_v1, Auw_u1, Auw_2, Auw_g2, Auw_v2, Auw_u2, Auw_3, Auw_g3, Auw_v3, Auw_u3, Auw_4, Auw_g4, Auw_v4, Auw_u4, Auw_5, Auw_g5, Auw_v5, Auw_u5, Auw_6, Auw_g6, Auw_v6, Auw_u6, Auw_7, Auw_g7, Auw_v7, Auw_u7, Auw_8, Auw_g8, Auw_v8, Auw_u8, SgF_0, SgF_s0, SgF_1, SgF_2, SgF_3, SgF_len, Sgw_ob, Sgw_uob, Sgw_1, Sgw_g1, Sgw_v1, Sgw_u1, Sgw_2, Sgw_g2, Sgw_v2, Sgw_u2, Sgw_3, Sgw_g3, Sgw_v3, Sgw_u3, RdF_0, RdF_1, RdF_2, RdF_s2, RdF_3, RdF_s3, RdF_4, RdF_s4, RdF_5, RdF_s5, RdF_6, RdF_s6, RdF_7, RdF_s7, RdF_8, RdF_s8, RdF_9, RdF_10, RdF_11, RdF_s11, RdF_12, RdF_s12, RdF_13, RdF_s13, RdF_14, RdF_s14, RdF_len, Rdw_ob, Rdw_uob, Rdw_9, Rdw_g9, Rdw_v9, Rdw_u9, Rdw_10, Rdw_g10, Rdw_v10, Rdw_u10, FlF_0, FlF_s0, FlF_1, FlF_s1, FlF_2, FlF_s2, FlF_3, FlF_s3, FlF_4, FlF_5, FlF_6, FlF_7, FlF_s7, FlF_8, FlF_s8, FlF_9, FlF_s9, FlF_10, FlF_s10, FlF_11, FlF_s11, FlF_len, Flw_ob, Flw_uob, Flw_pob, Flw_upob, Flw_p1, Flw_p2, Flw_p3, Flw_lob, Flw_ulob, Flw_l1, Flw_l2, Flw_l3, Flw_rob, Nat.reduceLT, rup_s, rup_rup]
    rw [g2, lit_1, pk_sub (by omega)]
    have gr := gro_char (A := A) (fl := fl) (key := key) (S := S) (cn := 37) (st := nI (idx - 2)) (e := nI (idx - 1))
    refine c_come (X := X') (fc := fc') (fr := fr') hC.up At_bw hC.fd g1 g3 (aChar_ok hA hS (nI_nn (by omega))) hfl (Nat.lt_of_le_of_lt gr.2.1 (by omega)) (Nat.lt_of_le_of_lt gr.2.2.2 (by have h5 := gr.2.1; have h6 := gr.1; omega)) rfl hdg (nI_nn (by omega)) (fun X2 fc2 fr2 k1 k2 k3 => ⟨rfl, b_R_release_2 ?_⟩)
    rw [RF_up hd]
    exact hK X2 fc2 fr2 k1 k3
  | n + 3, h, _, _, _, _ => exact absurd h (by omega)
theorem c_take {x y : Int32} {bt idx : Nat} (hC : RCx W a au fd ac ar A) (hR : At W a 3 (RdC a au fd X.1 X.2.1 X.2.2)) (hF : At W fd 5 (FdC fd fc fr)) (hX : RDr f0 X key fl (S, held, dig)) (hFr : FDr fc fr S.2.2.2.2.1) (hS : sOk A S) (hfl : fl < 16) (hl : S.2.2.1.length < 2 ^ 27) (hfh : S.2.2.2.2.1.length < 2 ^ 25) (hH : hdOk fl held dig idx) (hx : x = nI bt) (hbt : bt < 128) (hy : y = nI idx) (hi : idx < 2 ^ 29) (hK : ∀ X' fc' fr', RDr f0 X' key fl (aTake A fl key (S, held, dig) bt idx) → FDr fc' fr' (aTake A fl key (S, held, dig) bt idx).1.2.2.2.2.1 → K (Rdw (Fdw W fd fc' fr') a au fd X'.1 X'.2.1 X'.2.2) none) : zcall n_R_take [.ref a, .int x, .int y] W K := by
  subst hx hy
  have hA := hC.2.2.1
  have hd := hC.2.2.2.1
  have hX3 : X.1 3 = nI fl := hX.2.1
  have hX4 : X.1 4 = nI held := hX.2.2.1
  have hX5 := hX.2.2.2.1
  obtain ⟨h1, h2, h3⟩ := id hH
  have hox : ∀ k, hexv bt = some k → k < 2 ^ 31 := fun k hk => by have := hexv_lt hk; omega
  have e37 : nI bt = 37 ↔ bt = 37 := nI_eq (b := 37) (by omega) (by decide)
  have eW : W = Rdw (Fdw W fd fc fr) a au fd X.1 X.2.1 X.2.2 := by rw [Fdw_eq hF, Rdw_eq hR]
  rw [eW]
  refine e_R_take (b_R_take_0 ?_)
  simp only [and_assoc, exists_and_left, exists_eq_left, exists_eq_left', Option.some.injEq, Value.int.injEq, Value.ref.injEq, Value.long.injEq, true_and, and_true, exists_eq, exists_true_left, FdF_0, FdF_s0, FdF_1, FdF_s1, FdF_2, FdF_s2, FdF_3, FdF_s3, FdF_4, FdF_5, FdF_6, FdF_7, FdF_len, Fdw_ob, Fdw_uob, Fdw_4, Fdw_g4, Fdw_v4, Fdw_u4, Fdw_5, Fdw_g5, Fdw_v5, Fdw_u5, Fdw_6, Fdw_g6, Fdw_v6, Fdw_u6, Fdw_7, Fdw_g7, Fdw_v7, Fdw_u7, WdF_0, WdF_1, WdF_len, Wdw_ob, Wdw_0, Wdw_g0, Wdw_v0, Wdw_u0, Wdw_1, Wdw_g1, Wdw_v1, Wdw_u1, AuF_0, AuF_s0, AuF_1, AuF_2, AuF_3, AuF_4, AuF_5, AuF_6, AuF_7, AuF_8, AuF_len, Auw_ob, Auw_uob, Auw_1, Auw_g1, Auw_v1, Auw_u1, Auw_2, Auw_g2, Auw_v2, Auw_u2, Auw_3, Auw_g3, Auw_v3, Auw_u3, Auw_4, Auw_g4, Auw_v4, Auw_u4, Auw_5, Auw_g5, Auw_v5, Auw_u5, Auw_6, Auw_g6, Auw_v6, Auw_u6, Auw_7, Auw_g7, Auw_v7, Auw_u7, Auw_8, Auw_g8, Auw_v8, Auw_u8, SgF_0, SgF_s0, SgF_1, SgF_2, SgF_3, SgF_len, Sgw_ob, Sgw_uob, Sgw_1, Sgw_g1, Sgw_v1, Sgw_u1, Sgw_2, Sgw_g2, Sgw_v2, Sgw_u2, Sgw_3, Sgw_g3, Sgw_v3, Sgw_u3, RdF_0, RdF_1, RdF_2, RdF_s2, RdF_3, RdF_s3, RdF_4, RdF_s4, RdF_5, RdF_s5, RdF_6, RdF_s6, RdF_7, RdF_s7, RdF_8, RdF_s8, RdF_9, RdF_10, RdF_11, RdF_s11, RdF_12, RdF_s12, RdF_13, RdF_s13, RdF_14, RdF_s14, RdF_len, Rdw_ob, Rdw_uob, Rdw_9, Rdw_g9, Rdw_v9, Rdw_u9, Rdw_10, Rdw_g10, Rdw_v10, Rdw_u10, FlF_0, FlF_s0, FlF_1, FlF_s1, FlF_2, FlF_s2, FlF_3, FlF_s3, FlF_4, FlF_5, FlF_6, FlF_7, FlF_s7, FlF_8, FlF_s8, FlF_9, FlF_s9, FlF_10, FlF_s10, FlF_11, FlF_s11, FlF_len, Flw_ob, Flw_uob, Flw_pob, Flw_upob, Flw_p1, Flw_p2, Flw_p3, Flw_lob, Flw_ulob, Flw_l1, Flw_l2, Flw_l3, Flw_rob, Nat.reduceLT, rup_s, rup_rup]
  rw [hX3]
  refine ⟨fun z => ?_, fun z => ?_⟩
  · have z : fl.testBit 1 = true := by
      cases h : fl.testBit 1 with
      | true => rfl
      | false => exact absurd ((flag2 fl hfl).mpr h) z
    have b3 : ¬ (held = 2 ∧ (hexv bt).isSome = true) → ¬ (held = 1 ∧ (hexv bt).isSome = true) → zwp n_R_take 3 [(0, .ref a), (1, .int (nI bt)), (2, .int (nI idx))] [] 0 0 (Rdw (Fdw W fd fc fr) a au fd X.1 X.2.1 X.2.2) K := fun n1 n2 => by
      have ht := aTake_last (A := A) (key := key) (S := S) (dig := dig) (idx := idx) z n1 n2
      rw [ht] at hK
      refine b_R_take_3 ⟨⟨_, At_bw 0 (by decide)⟩, c_release (X := X) (fc := fc) (fr := fr) hC.up At_bw hC.fd hX hFr hS hfl (by omega) (by omega) hH rfl (by omega) (fun X' fc' fr' g1 g2 => ⟨rfl, fun t => b_R_take_4 ?_, fun t => ?_⟩)⟩
      · rw [RF_up hd]
        rw [if_neg (fun u => t (e37.mpr u))] at hK
        have gr := gro_rel (A := A) (fl := fl) (key := key) (S := S) (held := held) (dig := dig) (idx := idx) h1
        rw [nI_1]
        refine ⟨⟨_, At_bw 0 (by decide)⟩, c_come (X := X') (fc := fc') (fr := fr') hC.up At_bw hC.fd g1 g2 (aRel_ok hA hS (by omega)) hfl (Nat.lt_of_le_of_lt gr.2.1 (by omega)) (Nat.lt_of_le_of_lt gr.2.2.2 (by have h5 := gr.2.1; have h6 := gr.1; omega)) rfl hbt (nI_nn (by omega)) (fun X2 fc2 fr2 k1 k2 k3 => ⟨rfl, b_R_take_5 ?_⟩)⟩
        rw [RF_up hd]
        exact hK X2 fc2 fr2 k1 k3
      · rw [RF_up hd]
        rw [if_pos (e37.mp t)] at hK
        simp only [and_assoc, exists_and_left, exists_eq_left, exists_eq_left', Option.some.injEq, Value.int.injEq, Value.ref.injEq, Value.long.injEq, true_and, and_true, exists_eq, exists_true_left, FdF_0, FdF_s0, FdF_1, FdF_s1, FdF_2, FdF_s2, FdF_3, FdF_s3, FdF_4, FdF_5, FdF_6, FdF_7, FdF_len, Fdw_ob, Fdw_uob, Fdw_4, Fdw_g4, Fdw_v4, Fdw_u4, Fdw_5, Fdw_g5, Fdw_v5, Fdw_u5, Fdw_6, Fdw_g6, Fdw_v6, Fdw_u6, Fdw_7, Fdw_g7, Fdw_v7, Fdw_u7, WdF_0, WdF_1, WdF_len, Wdw_ob, Wdw_0, Wdw_g0, Wdw_v0, Wdw_u0, Wdw_1, Wdw_g1, Wdw_v1, Wdw_u1, AuF_0, AuF_s0, AuF_1, AuF_2, AuF_3, AuF_4, AuF_5, AuF_6, AuF_7, AuF_8, AuF_len, Auw_ob, Auw_uob, Auw_1, Auw_g1, Auw_v1, Auw_u1, Auw_2, Auw_g2, Auw_v2, Auw_u2, Auw_3, Auw_g3, Auw_v3, Auw_u3, Auw_4, Auw_g4, Auw_v4, Auw_u4, Auw_5, Auw_g5, Auw_v5, Auw_u5, Auw_6, Auw_g6, Auw_v6, Auw_u6, Auw_7, Auw_g7, Auw_v7, Auw_u7, Auw_8, Auw_g8, Auw_v8, Auw_u8, SgF_0, SgF_s0, SgF_1, SgF_2, SgF_3, SgF_len, Sgw_ob, Sgw_uob, Sgw_1, Sgw_g1, Sgw_v1, Sgw_u1, Sgw_2, Sgw_g2, Sgw_v2, Sgw_u2, Sgw_3, Sgw_g3, Sgw_v3, Sgw_u3, RdF_0, RdF_1, RdF_2, RdF_s2, RdF_3, RdF_s3, RdF_4, RdF_s4, RdF_5, RdF_s5, RdF_6, RdF_s6, RdF_7, RdF_s7, RdF_8, RdF_s8, RdF_9, RdF_10, RdF_11, RdF_s11, RdF_12, RdF_s12, RdF_13, RdF_s13, RdF_14, RdF_s14, RdF_len, Rdw_ob, Rdw_uob, Rdw_9, Rdw_g9, Rdw_v9, Rdw_u9, Rdw_10, Rdw_g10, Rdw_v10, Rdw_u10, FlF_0, FlF_s0, FlF_1, FlF_s1, FlF_2, FlF_s2, FlF_3, FlF_s3, FlF_4, FlF_5, FlF_6, FlF_7, FlF_s7, FlF_8, FlF_s8, FlF_9, FlF_s9, FlF_10, FlF_s10, FlF_11, FlF_s11, FlF_len, Flw_ob, Flw_uob, Flw_pob, Flw_upob, Flw_p1, Flw_p2, Flw_p3, Flw_lob, Flw_ulob, Flw_l1, Flw_l2, Flw_l3, Flw_rob, Nat.reduceLT, rup_s, rup_rup]
        exact b_R_take_5 (hK _ fc' fr' (RDr_held g1 (by decide)) g2)
    have b2 : ¬ (held = 2 ∧ (hexv bt).isSome = true) → zwp n_R_take 2 [(0, .ref a), (1, .int (nI bt)), (2, .int (nI idx)), (3, .int (oC (hexv bt)))] [] 0 0 (Rdw (Fdw W fd fc fr) a au fd X.1 X.2.1 X.2.2) K := fun n1 => by
      have e1 : nI held = 1 ↔ held = 1 := nI_eq (b := 1) (by omega) (by decide)
      refine b_R_take_2 ?_
      simp only [and_assoc, exists_and_left, exists_eq_left, exists_eq_left', Option.some.injEq, Value.int.injEq, Value.ref.injEq, Value.long.injEq, true_and, and_true, exists_eq, exists_true_left, FdF_0, FdF_s0, FdF_1, FdF_s1, FdF_2, FdF_s2, FdF_3, FdF_s3, FdF_4, FdF_5, FdF_6, FdF_7, FdF_len, Fdw_ob, Fdw_uob, Fdw_4, Fdw_g4, Fdw_v4, Fdw_u4, Fdw_5, Fdw_g5, Fdw_v5, Fdw_u5, Fdw_6, Fdw_g6, Fdw_v6, Fdw_u6, Fdw_7, Fdw_g7, Fdw_v7, Fdw_u7, WdF_0, WdF_1, WdF_len, Wdw_ob, Wdw_0, Wdw_g0, Wdw_v0, Wdw_u0, Wdw_1, Wdw_g1, Wdw_v1, Wdw_u1, AuF_0, AuF_s0, AuF_1, AuF_2, AuF_3, AuF_4, AuF_5, AuF_6, AuF_7, AuF_8, AuF_len, Auw_ob, Auw_uob, Auw_1, Auw_g1, Auw_v1, Auw_u1, Auw_2, Auw_g2, Auw_v2, Auw_u2, Auw_3, Auw_g3, Auw_v3, Auw_u3, Auw_4, Auw_g4, Auw_v4, Auw_u4, Auw_5, Auw_g5, Auw_v5, Auw_u5, Auw_6, Auw_g6, Auw_v6, Auw_u6, Auw_7, Auw_g7, Auw_v7, Auw_u7, Auw_8, Auw_g8, Auw_v8, Auw_u8, SgF_0, SgF_s0, SgF_1, SgF_2, SgF_3, SgF_len, Sgw_ob, Sgw_uob, Sgw_1, Sgw_g1, Sgw_v1, Sgw_u1, Sgw_2, Sgw_g2, Sgw_v2, Sgw_u2, Sgw_3, Sgw_g3, Sgw_v3, Sgw_u3, RdF_0, RdF_1, RdF_2, RdF_s2, RdF_3, RdF_s3, RdF_4, RdF_s4, RdF_5, RdF_s5, RdF_6, RdF_s6, RdF_7, RdF_s7, RdF_8, RdF_s8, RdF_9, RdF_10, RdF_11, RdF_s11, RdF_12, RdF_s12, RdF_13, RdF_s13, RdF_14, RdF_s14, RdF_len, Rdw_ob, Rdw_uob, Rdw_9, Rdw_g9, Rdw_v9, Rdw_u9, Rdw_10, Rdw_g10, Rdw_v10, Rdw_u10, FlF_0, FlF_s0, FlF_1, FlF_s1, FlF_2, FlF_s2, FlF_3, FlF_s3, FlF_4, FlF_5, FlF_6, FlF_7, FlF_s7, FlF_8, FlF_s8, FlF_9, FlF_s9, FlF_10, FlF_s10, FlF_11, FlF_s11, FlF_len, Flw_ob, Flw_uob, Flw_pob, Flw_upob, Flw_p1, Flw_p2, Flw_p3, Flw_lob, Flw_ulob, Flw_l1, Flw_l2, Flw_l3, Flw_rob, Nat.reduceLT, rup_s, rup_rup]
      rw [hX4]
      refine ⟨fun t => b3 n1 (fun u => t (e1.mpr u.1)), fun t => ⟨fun s => b3 n1 (fun u => ?_), fun s => ?_⟩⟩
      · rw [(oC_neg hox).mp s] at u
        exact absurd u.2 (by decide)
      · have t := e1.mp t
        cases hv : hexv bt with
        | none => rw [hv] at s; exact absurd (by decide) s
        | some v =>
          have e : aTake A fl key (S, held, dig) bt idx = (S, 2, bt) := by
            unfold aTake
            rw [if_neg (by rw [z]; decide)]
            subst t
            dsimp only
            rw [hv]; rfl
          rw [e] at hK
          obtain ⟨x2, x3, x4, x5, x6, x7, x8, x11, xr, x12, x13, x14⟩ := hX
          exact b_R_take_5 (hK (upd (upd X.1 4 2) 5 (nI bt), X.2.1, X.2.2) fc fr ⟨x2, x3, rfl, fun _ => rfl, x6, x7, x8, x11, xr, x12, x13, x14⟩ hFr)
    refine b_R_take_1 ?_
    refine s_hexadecimal rfl (by omega) ⟨_, rfl, ?_⟩
    simp only [and_assoc, exists_and_left, exists_eq_left, exists_eq_left', Option.some.injEq, Value.int.injEq, Value.ref.injEq, Value.long.injEq, true_and, and_true, exists_eq, exists_true_left, FdF_0, FdF_s0, FdF_1, FdF_s1, FdF_2, FdF_s2, FdF_3, FdF_s3, FdF_4, FdF_5, FdF_6, FdF_7, FdF_len, Fdw_ob, Fdw_uob, Fdw_4, Fdw_g4, Fdw_v4, Fdw_u4, Fdw_5, Fdw_g5, Fdw_v5, Fdw_u5, Fdw_6, Fdw_g6, Fdw_v6, Fdw_u6, Fdw_7, Fdw_g7, Fdw_v7, Fdw_u7, WdF_0, WdF_1, WdF_len, Wdw_ob, Wdw_0, Wdw_g0, Wdw_v0, Wdw_u0, Wdw_1, Wdw_g1, Wdw_v1, Wdw_u1, AuF_0, AuF_s0, AuF_1, AuF_2, AuF_3, AuF_4, AuF_5, AuF_6, AuF_7, AuF_8, AuF_len, Auw_ob, Auw_uob, Auw_1, Auw_g1, Auw_v1, Auw_u1, Auw_2, Auw_g2, Auw_v2, Auw_u2, Auw_3, Auw_g3, Auw_v3, Auw_u3, Auw_4, Auw_g4, Auw_v4, Auw_u4, Auw_5, Auw_g5, Auw_v5, Auw_u5, Auw_6, Auw_g6, Auw_v6, Auw_u6, Auw_7, Auw_g7, Auw_v7, Auw_u7, Auw_8, Auw_g8, Auw_v8, Auw_u8, SgF_0, SgF_s0, SgF_1, SgF_2, SgF_3, SgF_len, Sgw_ob, Sgw_uob, Sgw_1, Sgw_g1, Sgw_v1, Sgw_u1, Sgw_2, Sgw_g2, Sgw_v2, Sgw_u2, Sgw_3, Sgw_g3, Sgw_v3, Sgw_u3, RdF_0, RdF_1, RdF_2, RdF_s2, RdF_3, RdF_s3, RdF_4, RdF_s4, RdF_5, RdF_s5, RdF_6, RdF_s6, RdF_7, RdF_s7, RdF_8, RdF_s8, RdF_9, RdF_10, RdF_11, RdF_s11, RdF_12, RdF_s12, RdF_13, RdF_s13, RdF_14, RdF_s14, RdF_len, Rdw_ob, Rdw_uob, Rdw_9, Rdw_g9, Rdw_v9, Rdw_u9, Rdw_10, Rdw_g10, Rdw_v10, Rdw_u10, FlF_0, FlF_s0, FlF_1, FlF_s1, FlF_2, FlF_s2, FlF_3, FlF_s3, FlF_4, FlF_5, FlF_6, FlF_7, FlF_s7, FlF_8, FlF_s8, FlF_9, FlF_s9, FlF_10, FlF_s10, FlF_11, FlF_s11, FlF_len, Flw_ob, Flw_uob, Flw_pob, Flw_upob, Flw_p1, Flw_p2, Flw_p3, Flw_lob, Flw_ulob, Flw_l1, Flw_l2, Flw_l3, Flw_rob, Nat.reduceLT, rup_s, rup_rup]
    rw [hX4]
    have e2 : nI held = 2 ↔ held = 2 := nI_eq (b := 2) (by omega) (by decide)
    refine ⟨fun t => b2 (fun u => t (e2.mpr u.1)), fun t => ⟨fun s => b2 (fun u => ?_), fun s => ?_⟩⟩
    · rw [(oC_neg hox).mp s] at u
      exact absurd u.2 (by decide)
    · have t := e2.mp t
      cases hv : hexv bt with
      | none => rw [hv] at s; exact absurd (by decide) s
      | some v =>
        obtain ⟨j1, v0, hv0⟩ := h3 t
        have hi2 := (h2 (by omega)).2
        have l0 := hexv_lt hv0
        have l1 := hexv_lt hv
        have e : aTake A fl key (S, held, dig) bt idx = (aChar A fl key S ((16 * v0 + v) % 128) (nI (idx - 2)) (nI (idx + 1)), 0, dig) := by
          unfold aTake
          rw [if_neg (by rw [z]; decide)]
          subst t
          dsimp only
          rw [hv, hv0]; rfl
        rw [e] at hK
        rw [show upd X.1 4 0 5 = nI dig from hX5 t]
        refine s_hexadecimal rfl (by omega) ⟨_, rfl, ?_⟩
        simp only [and_assoc, exists_and_left, exists_eq_left, exists_eq_left', Option.some.injEq, Value.int.injEq, Value.ref.injEq, Value.long.injEq, true_and, and_true, exists_eq, exists_true_left, FdF_0, FdF_s0, FdF_1, FdF_s1, FdF_2, FdF_s2, FdF_3, FdF_s3, FdF_4, FdF_5, FdF_6, FdF_7, FdF_len, Fdw_ob, Fdw_uob, Fdw_4, Fdw_g4, Fdw_v4, Fdw_u4, Fdw_5, Fdw_g5, Fdw_v5, Fdw_u5, Fdw_6, Fdw_g6, Fdw_v6, Fdw_u6, Fdw_7, Fdw_g7, Fdw_v7, Fdw_u7, WdF_0, WdF_1, WdF_len, Wdw_ob, Wdw_0, Wdw_g0, Wdw_v0, Wdw_u0, Wdw_1, Wdw_g1, Wdw_v1, Wdw_u1, AuF_0, AuF_s0, AuF_1, AuF_2, AuF_3, AuF_4, AuF_5, AuF_6, AuF_7, AuF_8, AuF_len, Auw_ob, Auw_uob, Auw_1, Auw_g1, Auw_v1, Auw_u1, Auw_2, Auw_g2, Auw_v2, Auw_u2, Auw_3, Auw_g3, Auw_v3, Auw_u3, Auw_4, Auw_g4, Auw_v4, Auw_u4, Auw_5, Auw_g5, Auw_v5, Auw_u5, Auw_6, Auw_g6, Auw_v6, Auw_u6, Auw_7, Auw_g7, Auw_v7, Auw_u7, Auw_8, Auw_g8, Auw_v8, Auw_u8, SgF_0, SgF_s0, SgF_1, SgF_2, SgF_3, SgF_len, Sgw_ob, Sgw_uob, Sgw_1, Sgw_g1, Sgw_v1, Sgw_u1, Sgw_2, Sgw_g2, Sgw_v2, Sgw_u2, Sgw_3, Sgw_g3, Sgw_v3, Sgw_u3, RdF_0, RdF_1, RdF_2, RdF_s2, RdF_3, RdF_s3, RdF_4, RdF_s4, RdF_5, RdF_s5, RdF_6, RdF_s6, RdF_7, RdF_s7, RdF_8, RdF_s8, RdF_9, RdF_10, RdF_11, RdF_s11, RdF_12, RdF_s12, RdF_13, RdF_s13, RdF_14, RdF_s14, RdF_len, Rdw_ob, Rdw_uob, Rdw_9, Rdw_g9, Rdw_v9, Rdw_u9, Rdw_10, Rdw_g10, Rdw_v10, Rdw_u10, FlF_0, FlF_s0, FlF_1, FlF_s1, FlF_2, FlF_s2, FlF_3, FlF_s3, FlF_4, FlF_5, FlF_6, FlF_7, FlF_s7, FlF_8, FlF_s8, FlF_9, FlF_s9, FlF_10, FlF_s10, FlF_11, FlF_s11, FlF_len, Flw_ob, Flw_uob, Flw_pob, Flw_upob, Flw_p1, Flw_p2, Flw_p3, Flw_lob, Flw_ulob, Flw_l1, Flw_l2, Flw_l3, Flw_rob, Nat.reduceLT, rup_s, rup_rup]
        rw [hv0, show oC (some v0) = nI v0 from rfl, show oC (some v) = nI v from rfl, lit_16, pk_mul, nI_add, pk_andN (m := 127) (k := 7) (by omega) (by decide), nI_1, lit_2, pk_sub (by omega), show v0 * 16 + v = 16 * v0 + v by omega]
        refine c_come (X := (upd X.1 4 0, X.2.1, X.2.2)) (fc := fc) (fr := fr) hC.up At_bw hC.fd (RDr_held hX (by decide)) hFr hS hfl (by omega) (by omega) rfl (Nat.mod_lt _ (by decide)) (nI_nn (by omega)) (fun X' fc' fr' g1 g2 g3 => ⟨rfl, b_R_take_5 ?_⟩)
        rw [RF_up hd]
        exact hK X' fc' fr' g1 g3
  · have z := (flag2 fl hfl).mp z
    have e : aTake A fl key (S, held, dig) bt idx = (aChar A fl key S bt (nI idx) (nI (idx + 1)), held, dig) := by
      unfold aTake
      rw [if_pos z]
    rw [e] at hK
    rw [nI_1]
    refine c_come (X := X) (fc := fc) (fr := fr) hC.up At_bw hC.fd hX hFr hS hfl (by omega) (by omega) rfl hbt (nI_nn (by omega)) (fun X' fc' fr' g1 g2 g3 => ⟨rfl, ?_⟩)
    rw [RF_up hd]
    exact hK X' fc' fr' g1 g3
theorem c_skip {x y : Int32} {idx n : Nat} (hC : RCx W a au fd ac ar A) (hR : At W a 3 (RdC a au fd X.1 X.2.1 X.2.2)) (hF : At W fd 5 (FdC fd fc fr)) (hX : RDr f0 X key fl (S, held, dig)) (hFr : FDr fc fr S.2.2.2.2.1) (hS : sOk A S) (hfl : fl < 16) (hl : S.2.2.1.length < 2 ^ 28) (hfh : S.2.2.2.2.1.length < 2 ^ 26) (hH : hdOk fl held dig idx) (hx : x = nI idx) (hi : idx < 2 ^ 30) (hy : y = nI n) (hn : n < 2 ^ 30) (hK : ∀ X' fc' fr', RDr f0 X' key fl ((0, aSpr A n (aRel A fl key S held dig idx).2.1, (aRel A fl key S held dig idx).2.2.1, false, (aRel A fl key S held dig idx).2.2.2.2), 0, dig) → FDr fc' fr' (aRel A fl key S held dig idx).2.2.2.2.1 → K (Rdw (Fdw W fd fc' fr') a au fd X'.1 X'.2.1 X'.2.2) none) : zcall n_R_skip [.ref a, .int x, .int y] W K := by
  subst hy
  have hA := hC.2.2.1
  have hd := hC.2.2.2.1
  refine e_R_skip (b_R_skip_0 ⟨⟨_, hR 0 (by decide)⟩, c_release hC hR hF hX hFr hS hfl hl hfh hH hx hi (fun X' fc' fr' g1 g2 => ⟨rfl, ?_⟩)⟩)
  have at1 := hC.at (fc := fc') (fr := fr') (c := upd (upd X'.1 6 0) 7 0) (p := X'.2.1) (r := X'.2.2)
  simp only [and_assoc, exists_and_left, exists_eq_left, exists_eq_left', Option.some.injEq, Value.int.injEq, Value.ref.injEq, Value.long.injEq, true_and, and_true, exists_eq, exists_true_left, FdF_0, FdF_s0, FdF_1, FdF_s1, FdF_2, FdF_s2, FdF_3, FdF_s3, FdF_4, FdF_5, FdF_6, FdF_7, FdF_len, Fdw_ob, Fdw_uob, Fdw_4, Fdw_g4, Fdw_v4, Fdw_u4, Fdw_5, Fdw_g5, Fdw_v5, Fdw_u5, Fdw_6, Fdw_g6, Fdw_v6, Fdw_u6, Fdw_7, Fdw_g7, Fdw_v7, Fdw_u7, WdF_0, WdF_1, WdF_len, Wdw_ob, Wdw_0, Wdw_g0, Wdw_v0, Wdw_u0, Wdw_1, Wdw_g1, Wdw_v1, Wdw_u1, AuF_0, AuF_s0, AuF_1, AuF_2, AuF_3, AuF_4, AuF_5, AuF_6, AuF_7, AuF_8, AuF_len, Auw_ob, Auw_uob, Auw_1, Auw_g1, Auw_v1, Auw_u1, Auw_2, Auw_g2, Auw_v2, Auw_u2, Auw_3, Auw_g3, Auw_v3, Auw_u3, Auw_4, Auw_g4, Auw_v4, Auw_u4, Auw_5, Auw_g5, Auw_v5, Auw_u5, Auw_6, Auw_g6, Auw_v6, Auw_u6, Auw_7, Auw_g7, Auw_v7, Auw_u7, Auw_8, Auw_g8, Auw_v8, Auw_u8, SgF_0, SgF_s0, SgF_1, SgF_2, SgF_3, SgF_len, Sgw_ob, Sgw_uob, Sgw_1, Sgw_g1, Sgw_v1, Sgw_u1, Sgw_2, Sgw_g2, Sgw_v2, Sgw_u2, Sgw_3, Sgw_g3, Sgw_v3, Sgw_u3, RdF_0, RdF_1, RdF_2, RdF_s2, RdF_3, RdF_s3, RdF_4, RdF_s4, RdF_5, RdF_s5, RdF_6, RdF_s6, RdF_7, RdF_s7, RdF_8, RdF_s8, RdF_9, RdF_10, RdF_11, RdF_s11, RdF_12, RdF_s12, RdF_13, RdF_s13, RdF_14, RdF_s14, RdF_len, Rdw_ob, Rdw_uob, Rdw_9, Rdw_g9, Rdw_v9, Rdw_u9, Rdw_10, Rdw_g10, Rdw_v10, Rdw_u10, FlF_0, FlF_s0, FlF_1, FlF_s1, FlF_2, FlF_s2, FlF_3, FlF_s3, FlF_4, FlF_5, FlF_6, FlF_7, FlF_s7, FlF_8, FlF_s8, FlF_9, FlF_s9, FlF_10, FlF_s10, FlF_11, FlF_s11, FlF_len, Flw_ob, Flw_uob, Flw_pob, Flw_upob, Flw_p1, Flw_p2, Flw_p3, Flw_lob, Flw_ulob, Flw_l1, Flw_l2, Flw_l3, Flw_rob, Nat.reduceLT, rup_s, rup_rup, AuAt_ob at1]
  obtain ⟨x2, x3, x4, x5, x6, x7, x8, x11, xr, x12, x13, x14⟩ := g1
  have hS2 := aRel_ok (fl := fl) (key := key) (held := held) (dig := dig) hA hS hi
  refine ⟨Or.inl trivial, ?_⟩
  rw [show X'.2.1 = lN (aRel A fl key S held dig idx).2.1 from x8]
  refine c_spread (ps := (aRel A fl key S held dig idx).2.1) (by rw [← show X'.2.1 = lN (aRel A fl key S held dig idx).2.1 from x8]; exact at1) hC.2.1 hA hS2.2.1 rfl rfl hn ⟨_, rfl, ?_⟩
  simp only [and_assoc, exists_and_left, exists_eq_left, exists_eq_left', Option.some.injEq, Value.int.injEq, Value.ref.injEq, Value.long.injEq, true_and, and_true, exists_eq, exists_true_left, FdF_0, FdF_s0, FdF_1, FdF_s1, FdF_2, FdF_s2, FdF_3, FdF_s3, FdF_4, FdF_5, FdF_6, FdF_7, FdF_len, Fdw_ob, Fdw_uob, Fdw_4, Fdw_g4, Fdw_v4, Fdw_u4, Fdw_5, Fdw_g5, Fdw_v5, Fdw_u5, Fdw_6, Fdw_g6, Fdw_v6, Fdw_u6, Fdw_7, Fdw_g7, Fdw_v7, Fdw_u7, WdF_0, WdF_1, WdF_len, Wdw_ob, Wdw_0, Wdw_g0, Wdw_v0, Wdw_u0, Wdw_1, Wdw_g1, Wdw_v1, Wdw_u1, AuF_0, AuF_s0, AuF_1, AuF_2, AuF_3, AuF_4, AuF_5, AuF_6, AuF_7, AuF_8, AuF_len, Auw_ob, Auw_uob, Auw_1, Auw_g1, Auw_v1, Auw_u1, Auw_2, Auw_g2, Auw_v2, Auw_u2, Auw_3, Auw_g3, Auw_v3, Auw_u3, Auw_4, Auw_g4, Auw_v4, Auw_u4, Auw_5, Auw_g5, Auw_v5, Auw_u5, Auw_6, Auw_g6, Auw_v6, Auw_u6, Auw_7, Auw_g7, Auw_v7, Auw_u7, Auw_8, Auw_g8, Auw_v8, Auw_u8, SgF_0, SgF_s0, SgF_1, SgF_2, SgF_3, SgF_len, Sgw_ob, Sgw_uob, Sgw_1, Sgw_g1, Sgw_v1, Sgw_u1, Sgw_2, Sgw_g2, Sgw_v2, Sgw_u2, Sgw_3, Sgw_g3, Sgw_v3, Sgw_u3, RdF_0, RdF_1, RdF_2, RdF_s2, RdF_3, RdF_s3, RdF_4, RdF_s4, RdF_5, RdF_s5, RdF_6, RdF_s6, RdF_7, RdF_s7, RdF_8, RdF_s8, RdF_9, RdF_10, RdF_11, RdF_s11, RdF_12, RdF_s12, RdF_13, RdF_s13, RdF_14, RdF_s14, RdF_len, Rdw_ob, Rdw_uob, Rdw_9, Rdw_g9, Rdw_v9, Rdw_u9, Rdw_10, Rdw_g10, Rdw_v10, Rdw_u10, FlF_0, FlF_s0, FlF_1, FlF_s1, FlF_2, FlF_s2, FlF_3, FlF_s3, FlF_4, FlF_5, FlF_6, FlF_7, FlF_s7, FlF_8, FlF_s8, FlF_9, FlF_s9, FlF_10, FlF_s10, FlF_11, FlF_s11, FlF_len, Flw_ob, Flw_uob, Flw_pob, Flw_upob, Flw_p1, Flw_p2, Flw_p3, Flw_lob, Flw_ulob, Flw_l1, Flw_l2, Flw_l3, Flw_rob, Nat.reduceLT, rup_s, rup_rup]
  exact hK (upd (upd X'.1 6 0) 7 0, lN (aSpr A n (aRel A fl key S held dig idx).2.1), X'.2.2) fc' fr' ⟨x2, x3, x4, x5, rfl, rfl, rfl, x11, xr, x12, x13, x14⟩ g2
theorem c_Rbegin {x y : Int32} {fh : List aFd} (hR : At W a 3 (RdC a au fd X.1 X.2.1 X.2.2)) (hy : y = nI fl) (hK : ∀ X', RDr 0 X' x fl ((0, 1, [], false, fh, 0, 0, 0), 0, 0) → K (Rdw W a au fd X'.1 X'.2.1 X'.2.2) none) : zcall n_R_begin [.ref a, .int x, .int y] W K := by
  subst hy
  rw [← Rdw_eq hR]
  refine e_R_begin (b_R_begin_0 ?_)
  simp only [and_assoc, exists_and_left, exists_eq_left, exists_eq_left', Option.some.injEq, Value.int.injEq, Value.ref.injEq, Value.long.injEq, true_and, and_true, exists_eq, exists_true_left, FdF_0, FdF_s0, FdF_1, FdF_s1, FdF_2, FdF_s2, FdF_3, FdF_s3, FdF_4, FdF_5, FdF_6, FdF_7, FdF_len, Fdw_ob, Fdw_uob, Fdw_4, Fdw_g4, Fdw_v4, Fdw_u4, Fdw_5, Fdw_g5, Fdw_v5, Fdw_u5, Fdw_6, Fdw_g6, Fdw_v6, Fdw_u6, Fdw_7, Fdw_g7, Fdw_v7, Fdw_u7, WdF_0, WdF_1, WdF_len, Wdw_ob, Wdw_0, Wdw_g0, Wdw_v0, Wdw_u0, Wdw_1, Wdw_g1, Wdw_v1, Wdw_u1, AuF_0, AuF_s0, AuF_1, AuF_2, AuF_3, AuF_4, AuF_5, AuF_6, AuF_7, AuF_8, AuF_len, Auw_ob, Auw_uob, Auw_1, Auw_g1, Auw_v1, Auw_u1, Auw_2, Auw_g2, Auw_v2, Auw_u2, Auw_3, Auw_g3, Auw_v3, Auw_u3, Auw_4, Auw_g4, Auw_v4, Auw_u4, Auw_5, Auw_g5, Auw_v5, Auw_u5, Auw_6, Auw_g6, Auw_v6, Auw_u6, Auw_7, Auw_g7, Auw_v7, Auw_u7, Auw_8, Auw_g8, Auw_v8, Auw_u8, SgF_0, SgF_s0, SgF_1, SgF_2, SgF_3, SgF_len, Sgw_ob, Sgw_uob, Sgw_1, Sgw_g1, Sgw_v1, Sgw_u1, Sgw_2, Sgw_g2, Sgw_v2, Sgw_u2, Sgw_3, Sgw_g3, Sgw_v3, Sgw_u3, RdF_0, RdF_1, RdF_2, RdF_s2, RdF_3, RdF_s3, RdF_4, RdF_s4, RdF_5, RdF_s5, RdF_6, RdF_s6, RdF_7, RdF_s7, RdF_8, RdF_s8, RdF_9, RdF_10, RdF_11, RdF_s11, RdF_12, RdF_s12, RdF_13, RdF_s13, RdF_14, RdF_s14, RdF_len, Rdw_ob, Rdw_uob, Rdw_9, Rdw_g9, Rdw_v9, Rdw_u9, Rdw_10, Rdw_g10, Rdw_v10, Rdw_u10, FlF_0, FlF_s0, FlF_1, FlF_s1, FlF_2, FlF_s2, FlF_3, FlF_s3, FlF_4, FlF_5, FlF_6, FlF_7, FlF_s7, FlF_8, FlF_s8, FlF_9, FlF_s9, FlF_10, FlF_s10, FlF_11, FlF_s11, FlF_len, Flw_ob, Flw_uob, Flw_pob, Flw_upob, Flw_p1, Flw_p2, Flw_p3, Flw_lob, Flw_ulob, Flw_l1, Flw_l2, Flw_l3, Flw_rob, Nat.reduceLT, rup_s, rup_rup]
  refine ⟨Or.inl trivial, e_R_restart (b_R_restart_0 ?_)⟩
  simp only [and_assoc, exists_and_left, exists_eq_left, exists_eq_left', Option.some.injEq, Value.int.injEq, Value.ref.injEq, Value.long.injEq, true_and, and_true, exists_eq, exists_true_left, FdF_0, FdF_s0, FdF_1, FdF_s1, FdF_2, FdF_s2, FdF_3, FdF_s3, FdF_4, FdF_5, FdF_6, FdF_7, FdF_len, Fdw_ob, Fdw_uob, Fdw_4, Fdw_g4, Fdw_v4, Fdw_u4, Fdw_5, Fdw_g5, Fdw_v5, Fdw_u5, Fdw_6, Fdw_g6, Fdw_v6, Fdw_u6, Fdw_7, Fdw_g7, Fdw_v7, Fdw_u7, WdF_0, WdF_1, WdF_len, Wdw_ob, Wdw_0, Wdw_g0, Wdw_v0, Wdw_u0, Wdw_1, Wdw_g1, Wdw_v1, Wdw_u1, AuF_0, AuF_s0, AuF_1, AuF_2, AuF_3, AuF_4, AuF_5, AuF_6, AuF_7, AuF_8, AuF_len, Auw_ob, Auw_uob, Auw_1, Auw_g1, Auw_v1, Auw_u1, Auw_2, Auw_g2, Auw_v2, Auw_u2, Auw_3, Auw_g3, Auw_v3, Auw_u3, Auw_4, Auw_g4, Auw_v4, Auw_u4, Auw_5, Auw_g5, Auw_v5, Auw_u5, Auw_6, Auw_g6, Auw_v6, Auw_u6, Auw_7, Auw_g7, Auw_v7, Auw_u7, Auw_8, Auw_g8, Auw_v8, Auw_u8, SgF_0, SgF_s0, SgF_1, SgF_2, SgF_3, SgF_len, Sgw_ob, Sgw_uob, Sgw_1, Sgw_g1, Sgw_v1, Sgw_u1, Sgw_2, Sgw_g2, Sgw_v2, Sgw_u2, Sgw_3, Sgw_g3, Sgw_v3, Sgw_u3, RdF_0, RdF_1, RdF_2, RdF_s2, RdF_3, RdF_s3, RdF_4, RdF_s4, RdF_5, RdF_s5, RdF_6, RdF_s6, RdF_7, RdF_s7, RdF_8, RdF_s8, RdF_9, RdF_10, RdF_11, RdF_s11, RdF_12, RdF_s12, RdF_13, RdF_s13, RdF_14, RdF_s14, RdF_len, Rdw_ob, Rdw_uob, Rdw_9, Rdw_g9, Rdw_v9, Rdw_u9, Rdw_10, Rdw_g10, Rdw_v10, Rdw_u10, FlF_0, FlF_s0, FlF_1, FlF_s1, FlF_2, FlF_s2, FlF_3, FlF_s3, FlF_4, FlF_5, FlF_6, FlF_7, FlF_s7, FlF_8, FlF_s8, FlF_9, FlF_s9, FlF_10, FlF_s10, FlF_11, FlF_s11, FlF_len, Flw_ob, Flw_uob, Flw_pob, Flw_upob, Flw_p1, Flw_p2, Flw_p3, Flw_lob, Flw_ulob, Flw_l1, Flw_l2, Flw_l3, Flw_rob, Nat.reduceLT, rup_s, rup_rup]
  exact hK (_, _, _) ⟨rfl, rfl, rfl, fun z => absurd z (show ¬ 0 = 2 by decide), rfl, rfl, rfl, rfl, fun k _ hk => absurd hk (Nat.not_lt_zero _), rfl, rfl, (by show (0 : Int32) = nI (0 ||| 0); decide)⟩
theorem c_Rrestart {H : aH} (hR : At W a 3 (RdC a au fd X.1 X.2.1 X.2.2)) (hX : RDr f0 X key fl H) (hK : ∀ X', RDr f0 X' key fl ((0, 1, H.1.2.2), H.2) → K (Rdw W a au fd X'.1 X'.2.1 X'.2.2) none) : zcall n_R_restart [.ref a] W K := by
  rw [← Rdw_eq hR]
  obtain ⟨x2, x3, x4, x5, x6, x7, x8, x11, xr, x12, x13, x14⟩ := hX
  refine e_R_restart (b_R_restart_0 ?_)
  simp only [and_assoc, exists_and_left, exists_eq_left, exists_eq_left', Option.some.injEq, Value.int.injEq, Value.ref.injEq, Value.long.injEq, true_and, and_true, exists_eq, exists_true_left, FdF_0, FdF_s0, FdF_1, FdF_s1, FdF_2, FdF_s2, FdF_3, FdF_s3, FdF_4, FdF_5, FdF_6, FdF_7, FdF_len, Fdw_ob, Fdw_uob, Fdw_4, Fdw_g4, Fdw_v4, Fdw_u4, Fdw_5, Fdw_g5, Fdw_v5, Fdw_u5, Fdw_6, Fdw_g6, Fdw_v6, Fdw_u6, Fdw_7, Fdw_g7, Fdw_v7, Fdw_u7, WdF_0, WdF_1, WdF_len, Wdw_ob, Wdw_0, Wdw_g0, Wdw_v0, Wdw_u0, Wdw_1, Wdw_g1, Wdw_v1, Wdw_u1, AuF_0, AuF_s0, AuF_1, AuF_2, AuF_3, AuF_4, AuF_5, AuF_6, AuF_7, AuF_8, AuF_len, Auw_ob, Auw_uob, Auw_1, Auw_g1, Auw_v1, Auw_u1, Auw_2, Auw_g2, Auw_v2, Auw_u2, Auw_3, Auw_g3, Auw_v3, Auw_u3, Auw_4, Auw_g4, Auw_v4, Auw_u4, Auw_5, Auw_g5, Auw_v5, Auw_u5, Auw_6, Auw_g6, Auw_v6, Auw_u6, Auw_7, Auw_g7, Auw_v7, Auw_u7, Auw_8, Auw_g8, Auw_v8, Auw_u8, SgF_0, SgF_s0, SgF_1, SgF_2, SgF_3, SgF_len, Sgw_ob, Sgw_uob, Sgw_1, Sgw_g1, Sgw_v1, Sgw_u1, Sgw_2, Sgw_g2, Sgw_v2, Sgw_u2, Sgw_3, Sgw_g3, Sgw_v3, Sgw_u3, RdF_0, RdF_1, RdF_2, RdF_s2, RdF_3, RdF_s3, RdF_4, RdF_s4, RdF_5, RdF_s5, RdF_6, RdF_s6, RdF_7, RdF_s7, RdF_8, RdF_s8, RdF_9, RdF_10, RdF_11, RdF_s11, RdF_12, RdF_s12, RdF_13, RdF_s13, RdF_14, RdF_s14, RdF_len, Rdw_ob, Rdw_uob, Rdw_9, Rdw_g9, Rdw_v9, Rdw_u9, Rdw_10, Rdw_g10, Rdw_v10, Rdw_u10, FlF_0, FlF_s0, FlF_1, FlF_s1, FlF_2, FlF_s2, FlF_3, FlF_s3, FlF_4, FlF_5, FlF_6, FlF_7, FlF_s7, FlF_8, FlF_s8, FlF_9, FlF_s9, FlF_10, FlF_s10, FlF_11, FlF_s11, FlF_len, Flw_ob, Flw_uob, Flw_pob, Flw_upob, Flw_p1, Flw_p2, Flw_p3, Flw_lob, Flw_ulob, Flw_l1, Flw_l2, Flw_l3, Flw_rob, Nat.reduceLT, rup_s, rup_rup]
  exact hK (_, _, _) ⟨x2, x3, x4, x5, x6, rfl, rfl, x11, xr, x12, x13, x14⟩
theorem c_recent {x : Int32} {i : Nat} {H : aH} (hR : At W a 3 (RdC a au fd X.1 X.2.1 X.2.2)) (hX : RDr f0 X key fl H) (hl : H.1.2.2.1.length < 2 ^ 30) (hx : x = nI i) (hi : i < 8) (hK : K W (some (.int (if H.1.2.2.1.length ≤ i then -9 else (hiA H.1.2.2.1 i).1)))) : zcall n_R_recentCharacter [.ref a, .int x] W K := by
  subst hx
  rw [← Rdw_eq hR] at hK ⊢
  obtain ⟨x2, x3, x4, x5, x6, x7, x8, x11, xr, x12, x13, x14⟩ := hX
  refine e_R_recentCharacter (b_R_recentCharacter_0 ?_)
  simp only [and_assoc, exists_and_left, exists_eq_left, exists_eq_left', Option.some.injEq, Value.int.injEq, Value.ref.injEq, Value.long.injEq, true_and, and_true, exists_eq, exists_true_left, FdF_0, FdF_s0, FdF_1, FdF_s1, FdF_2, FdF_s2, FdF_3, FdF_s3, FdF_4, FdF_5, FdF_6, FdF_7, FdF_len, Fdw_ob, Fdw_uob, Fdw_4, Fdw_g4, Fdw_v4, Fdw_u4, Fdw_5, Fdw_g5, Fdw_v5, Fdw_u5, Fdw_6, Fdw_g6, Fdw_v6, Fdw_u6, Fdw_7, Fdw_g7, Fdw_v7, Fdw_u7, WdF_0, WdF_1, WdF_len, Wdw_ob, Wdw_0, Wdw_g0, Wdw_v0, Wdw_u0, Wdw_1, Wdw_g1, Wdw_v1, Wdw_u1, AuF_0, AuF_s0, AuF_1, AuF_2, AuF_3, AuF_4, AuF_5, AuF_6, AuF_7, AuF_8, AuF_len, Auw_ob, Auw_uob, Auw_1, Auw_g1, Auw_v1, Auw_u1, Auw_2, Auw_g2, Auw_v2, Auw_u2, Auw_3, Auw_g3, Auw_v3, Auw_u3, Auw_4, Auw_g4, Auw_v4, Auw_u4, Auw_5, Auw_g5, Auw_v5, Auw_u5, Auw_6, Auw_g6, Auw_v6, Auw_u6, Auw_7, Auw_g7, Auw_v7, Auw_u7, Auw_8, Auw_g8, Auw_v8, Auw_u8, SgF_0, SgF_s0, SgF_1, SgF_2, SgF_3, SgF_len, Sgw_ob, Sgw_uob, Sgw_1, Sgw_g1, Sgw_v1, Sgw_u1, Sgw_2, Sgw_g2, Sgw_v2, Sgw_u2, Sgw_3, Sgw_g3, Sgw_v3, Sgw_u3, RdF_0, RdF_1, RdF_2, RdF_s2, RdF_3, RdF_s3, RdF_4, RdF_s4, RdF_5, RdF_s5, RdF_6, RdF_s6, RdF_7, RdF_s7, RdF_8, RdF_s8, RdF_9, RdF_10, RdF_11, RdF_s11, RdF_12, RdF_s12, RdF_13, RdF_s13, RdF_14, RdF_s14, RdF_len, Rdw_ob, Rdw_uob, Rdw_9, Rdw_g9, Rdw_v9, Rdw_u9, Rdw_10, Rdw_g10, Rdw_v10, Rdw_u10, FlF_0, FlF_s0, FlF_1, FlF_s1, FlF_2, FlF_s2, FlF_3, FlF_s3, FlF_4, FlF_5, FlF_6, FlF_7, FlF_s7, FlF_8, FlF_s8, FlF_9, FlF_s9, FlF_10, FlF_s10, FlF_11, FlF_s11, FlF_len, Flw_ob, Flw_uob, Flw_pob, Flw_upob, Flw_p1, Flw_p2, Flw_p3, Flw_lob, Flw_ulob, Flw_l1, Flw_l2, Flw_l3, Flw_rob, Nat.reduceLT, rup_s, rup_rup]
  rw [x11]
  refine ⟨fun z => b_R_recentCharacter_1 (b_R_recentCharacter_2 ?_), fun z => ?_⟩
  · rw [if_pos ((nI_leI (by omega) (by omega)).mp z)] at hK
    exact hK
  · have z : ¬ H.1.2.2.1.length ≤ i := fun t => z ((nI_leI (by omega) (by omega)).mpr t)
    rw [if_neg z] at hK
    have hm : (H.1.2.2.1.length - 1 - i) % 8 < 8 := Nat.mod_lt _ (by decide)
    rw [lit_1, pk_sub (by omega), pk_sub (by omega), nI_and7 (by omega), nI_clamp (by omega), (xr i hi (by omega)).1]
    exact ⟨vp_in_nI hm (by decide), b_R_recentCharacter_2 hK⟩
theorem c_RdCopy {a' fd' : Nat} {X2 : cRd} {H : aH} (hR : At W a 3 (RdC a au fd X.1 X.2.1 X.2.2)) (hR2 : At W a' 3 (RdC a' au fd' X2.1 X2.2.1 X2.2.2)) (hd : a + 3 ≤ a' ∨ a' + 3 ≤ a) (hX : RDr f0 X2 key fl H) (hK : ∀ X', RDr f0 X' key fl H → K (Rdw W a au fd X'.1 X'.2.1 X'.2.2) none) : zcall n_R_copyFrom [.ref a, .ref a'] W K := by
  rw [← Rdw_eq hR]
  obtain ⟨x2, x3, x4, x5, x6, x7, x8, x11, xr, x12, x13, x14⟩ := hX
  have hV : ∀ c p r, At (Rdw W a au fd c p r) a' 3 (RdC a' au fd' X2.1 X2.2.1 X2.2.2) := fun c p r => At_out hR2 (by omega)
  have o1 : ∀ c p r fs, jx_ob (Rdw W a au fd c p r) a' 3 fs ↔ fs = RdF a' au fd' X2.1 X2.2.1 := fun c p r fs => ob_iff (hV c p r 0 (by decide))
  have o2 : ∀ c p r, (Rdw W a au fd c p r).2.2 (a' + 1) = some (.inl (.int, 8, .inl (X2.2.2 9))) := fun c p r => hV c p r 1 (by decide)
  have o3 : ∀ c p r, (Rdw W a au fd c p r).2.2 (a' + 2) = some (.inl (.int, 8, .inl (X2.2.2 10))) := fun c p r => hV c p r 2 (by decide)
  have h6 : X2.1 6 = 0 ∨ X2.1 6 = 1 := by rw [x6]; cases H.1.2.2.2.1 <;> simp [oob]
  refine e_R_copyFrom (b_R_copyFrom_0 ?_)
  simp only [and_assoc, exists_and_left, exists_eq_left, exists_eq_left', Option.some.injEq, Value.int.injEq, Value.ref.injEq, Value.long.injEq, true_and, and_true, exists_eq, exists_true_left, FdF_0, FdF_s0, FdF_1, FdF_s1, FdF_2, FdF_s2, FdF_3, FdF_s3, FdF_4, FdF_5, FdF_6, FdF_7, FdF_len, Fdw_ob, Fdw_uob, Fdw_4, Fdw_g4, Fdw_v4, Fdw_u4, Fdw_5, Fdw_g5, Fdw_v5, Fdw_u5, Fdw_6, Fdw_g6, Fdw_v6, Fdw_u6, Fdw_7, Fdw_g7, Fdw_v7, Fdw_u7, WdF_0, WdF_1, WdF_len, Wdw_ob, Wdw_0, Wdw_g0, Wdw_v0, Wdw_u0, Wdw_1, Wdw_g1, Wdw_v1, Wdw_u1, AuF_0, AuF_s0, AuF_1, AuF_2, AuF_3, AuF_4, AuF_5, AuF_6, AuF_7, AuF_8, AuF_len, Auw_ob, Auw_uob, Auw_1, Auw_g1, Auw_v1, Auw_u1, Auw_2, Auw_g2, Auw_v2, Auw_u2, Auw_3, Auw_g3, Auw_v3, Auw_u3, Auw_4, Auw_g4, Auw_v4, Auw_u4, Auw_5, Auw_g5, Auw_v5, Auw_u5, Auw_6, Auw_g6, Auw_v6, Auw_u6, Auw_7, Auw_g7, Auw_v7, Auw_u7, Auw_8, Auw_g8, Auw_v8, Auw_u8, SgF_0, SgF_s0, SgF_1, SgF_2, SgF_3, SgF_len, Sgw_ob, Sgw_uob, Sgw_1, Sgw_g1, Sgw_v1, Sgw_u1, Sgw_2, Sgw_g2, Sgw_v2, Sgw_u2, Sgw_3, Sgw_g3, Sgw_v3, Sgw_u3, RdF_0, RdF_1, RdF_2, RdF_s2, RdF_3, RdF_s3, RdF_4, RdF_s4, RdF_5, RdF_s5, RdF_6, RdF_s6, RdF_7, RdF_s7, RdF_8, RdF_s8, RdF_9, RdF_10, RdF_11, RdF_s11, RdF_12, RdF_s12, RdF_13, RdF_s13, RdF_14, RdF_s14, RdF_len, Rdw_ob, Rdw_uob, Rdw_9, Rdw_g9, Rdw_v9, Rdw_u9, Rdw_10, Rdw_g10, Rdw_v10, Rdw_u10, FlF_0, FlF_s0, FlF_1, FlF_s1, FlF_2, FlF_s2, FlF_3, FlF_s3, FlF_4, FlF_5, FlF_6, FlF_7, FlF_s7, FlF_8, FlF_s8, FlF_9, FlF_s9, FlF_10, FlF_s10, FlF_11, FlF_s11, FlF_len, Flw_ob, Flw_uob, Flw_pob, Flw_upob, Flw_p1, Flw_p2, Flw_p3, Flw_lob, Flw_ulob, Flw_l1, Flw_l2, Flw_l3, Flw_rob, Nat.reduceLT, rup_s, rup_rup, o1]
  refine b_R_copyFrom_1 ?_
  simp only [and_assoc, exists_and_left, exists_eq_left, exists_eq_left', Option.some.injEq, Value.int.injEq, Value.ref.injEq, Value.long.injEq, true_and, and_true, exists_eq, exists_true_left, FdF_0, FdF_s0, FdF_1, FdF_s1, FdF_2, FdF_s2, FdF_3, FdF_s3, FdF_4, FdF_5, FdF_6, FdF_7, FdF_len, Fdw_ob, Fdw_uob, Fdw_4, Fdw_g4, Fdw_v4, Fdw_u4, Fdw_5, Fdw_g5, Fdw_v5, Fdw_u5, Fdw_6, Fdw_g6, Fdw_v6, Fdw_u6, Fdw_7, Fdw_g7, Fdw_v7, Fdw_u7, WdF_0, WdF_1, WdF_len, Wdw_ob, Wdw_0, Wdw_g0, Wdw_v0, Wdw_u0, Wdw_1, Wdw_g1, Wdw_v1, Wdw_u1, AuF_0, AuF_s0, AuF_1, AuF_2, AuF_3, AuF_4, AuF_5, AuF_6, AuF_7, AuF_8, AuF_len, Auw_ob, Auw_uob, Auw_1, Auw_g1, Auw_v1, Auw_u1, Auw_2, Auw_g2, Auw_v2, Auw_u2, Auw_3, Auw_g3, Auw_v3, Auw_u3, Auw_4, Auw_g4, Auw_v4, Auw_u4, Auw_5, Auw_g5, Auw_v5, Auw_u5, Auw_6, Auw_g6, Auw_v6, Auw_u6, Auw_7, Auw_g7, Auw_v7, Auw_u7, Auw_8, Auw_g8, Auw_v8, Auw_u8, SgF_0, SgF_s0, SgF_1, SgF_2, SgF_3, SgF_len, Sgw_ob, Sgw_uob, Sgw_1, Sgw_g1, Sgw_v1, Sgw_u1, Sgw_2, Sgw_g2, Sgw_v2, Sgw_u2, Sgw_3, Sgw_g3, Sgw_v3, Sgw_u3, RdF_0, RdF_1, RdF_2, RdF_s2, RdF_3, RdF_s3, RdF_4, RdF_s4, RdF_5, RdF_s5, RdF_6, RdF_s6, RdF_7, RdF_s7, RdF_8, RdF_s8, RdF_9, RdF_10, RdF_11, RdF_s11, RdF_12, RdF_s12, RdF_13, RdF_s13, RdF_14, RdF_s14, RdF_len, Rdw_ob, Rdw_uob, Rdw_9, Rdw_g9, Rdw_v9, Rdw_u9, Rdw_10, Rdw_g10, Rdw_v10, Rdw_u10, FlF_0, FlF_s0, FlF_1, FlF_s1, FlF_2, FlF_s2, FlF_3, FlF_s3, FlF_4, FlF_5, FlF_6, FlF_7, FlF_s7, FlF_8, FlF_s8, FlF_9, FlF_s9, FlF_10, FlF_s10, FlF_11, FlF_s11, FlF_len, Flw_ob, Flw_uob, Flw_pob, Flw_upob, Flw_p1, Flw_p2, Flw_p3, Flw_lob, Flw_ulob, Flw_l1, Flw_l2, Flw_l3, Flw_rob, Nat.reduceLT, rup_s, rup_rup, o1]
  refine ⟨h6, 8, 8, X2.2.2 9, ?_⟩
  simp only [o2, o3, true_and, Option.some.injEq, Sum.inl.injEq, Prod.mk.injEq, and_assoc, exists_and_left, exists_eq_left, exists_eq_left', Option.some.injEq, Value.int.injEq, Value.ref.injEq, Value.long.injEq, true_and, and_true, exists_eq, exists_true_left, FdF_0, FdF_s0, FdF_1, FdF_s1, FdF_2, FdF_s2, FdF_3, FdF_s3, FdF_4, FdF_5, FdF_6, FdF_7, FdF_len, Fdw_ob, Fdw_uob, Fdw_4, Fdw_g4, Fdw_v4, Fdw_u4, Fdw_5, Fdw_g5, Fdw_v5, Fdw_u5, Fdw_6, Fdw_g6, Fdw_v6, Fdw_u6, Fdw_7, Fdw_g7, Fdw_v7, Fdw_u7, WdF_0, WdF_1, WdF_len, Wdw_ob, Wdw_0, Wdw_g0, Wdw_v0, Wdw_u0, Wdw_1, Wdw_g1, Wdw_v1, Wdw_u1, AuF_0, AuF_s0, AuF_1, AuF_2, AuF_3, AuF_4, AuF_5, AuF_6, AuF_7, AuF_8, AuF_len, Auw_ob, Auw_uob, Auw_1, Auw_g1, Auw_v1, Auw_u1, Auw_2, Auw_g2, Auw_v2, Auw_u2, Auw_3, Auw_g3, Auw_v3, Auw_u3, Auw_4, Auw_g4, Auw_v4, Auw_u4, Auw_5, Auw_g5, Auw_v5, Auw_u5, Auw_6, Auw_g6, Auw_v6, Auw_u6, Auw_7, Auw_g7, Auw_v7, Auw_u7, Auw_8, Auw_g8, Auw_v8, Auw_u8, SgF_0, SgF_s0, SgF_1, SgF_2, SgF_3, SgF_len, Sgw_ob, Sgw_uob, Sgw_1, Sgw_g1, Sgw_v1, Sgw_u1, Sgw_2, Sgw_g2, Sgw_v2, Sgw_u2, Sgw_3, Sgw_g3, Sgw_v3, Sgw_u3, RdF_0, RdF_1, RdF_2, RdF_s2, RdF_3, RdF_s3, RdF_4, RdF_s4, RdF_5, RdF_s5, RdF_6, RdF_s6, RdF_7, RdF_s7, RdF_8, RdF_s8, RdF_9, RdF_10, RdF_11, RdF_s11, RdF_12, RdF_s12, RdF_13, RdF_s13, RdF_14, RdF_s14, RdF_len, Rdw_ob, Rdw_uob, Rdw_9, Rdw_g9, Rdw_v9, Rdw_u9, Rdw_10, Rdw_g10, Rdw_v10, Rdw_u10, FlF_0, FlF_s0, FlF_1, FlF_s1, FlF_2, FlF_s2, FlF_3, FlF_s3, FlF_4, FlF_5, FlF_6, FlF_7, FlF_s7, FlF_8, FlF_s8, FlF_9, FlF_s9, FlF_10, FlF_s10, FlF_11, FlF_s11, FlF_len, Flw_ob, Flw_uob, Flw_pob, Flw_upob, Flw_p1, Flw_p2, Flw_p3, Flw_lob, Flw_ulob, Flw_l1, Flw_l2, Flw_l3, Flw_rob, Nat.reduceLT, rup_s, rup_rup, o1]
  refine ⟨by decide, by decide, by decide, by decide, by decide, fun _ _ => rfl, by decide, by decide, by decide, by decide, by decide, fun _ _ => rfl, b_R_copyFrom_2 ?_⟩
  simp only [and_assoc, exists_and_left, exists_eq_left, exists_eq_left', Option.some.injEq, Value.int.injEq, Value.ref.injEq, Value.long.injEq, true_and, and_true, exists_eq, exists_true_left, FdF_0, FdF_s0, FdF_1, FdF_s1, FdF_2, FdF_s2, FdF_3, FdF_s3, FdF_4, FdF_5, FdF_6, FdF_7, FdF_len, Fdw_ob, Fdw_uob, Fdw_4, Fdw_g4, Fdw_v4, Fdw_u4, Fdw_5, Fdw_g5, Fdw_v5, Fdw_u5, Fdw_6, Fdw_g6, Fdw_v6, Fdw_u6, Fdw_7, Fdw_g7, Fdw_v7, Fdw_u7, WdF_0, WdF_1, WdF_len, Wdw_ob, Wdw_0, Wdw_g0, Wdw_v0, Wdw_u0, Wdw_1, Wdw_g1, Wdw_v1, Wdw_u1, AuF_0, AuF_s0, AuF_1, AuF_2, AuF_3, AuF_4, AuF_5, AuF_6, AuF_7, AuF_8, AuF_len, Auw_ob, Auw_uob, Auw_1, Auw_g1, Auw_v1, Auw_u1, Auw_2, Auw_g2, Auw_v2, Auw_u2, Auw_3, Auw_g3, Auw_v3, Auw_u3, Auw_4, Auw_g4, Auw_v4, Auw_u4, Auw_5, Auw_g5, Auw_v5, Auw_u5, Auw_6, Auw_g6, Auw_v6, Auw_u6, Auw_7, Auw_g7, Auw_v7, Auw_u7, Auw_8, Auw_g8, Auw_v8, Auw_u8, SgF_0, SgF_s0, SgF_1, SgF_2, SgF_3, SgF_len, Sgw_ob, Sgw_uob, Sgw_1, Sgw_g1, Sgw_v1, Sgw_u1, Sgw_2, Sgw_g2, Sgw_v2, Sgw_u2, Sgw_3, Sgw_g3, Sgw_v3, Sgw_u3, RdF_0, RdF_1, RdF_2, RdF_s2, RdF_3, RdF_s3, RdF_4, RdF_s4, RdF_5, RdF_s5, RdF_6, RdF_s6, RdF_7, RdF_s7, RdF_8, RdF_s8, RdF_9, RdF_10, RdF_11, RdF_s11, RdF_12, RdF_s12, RdF_13, RdF_s13, RdF_14, RdF_s14, RdF_len, Rdw_ob, Rdw_uob, Rdw_9, Rdw_g9, Rdw_v9, Rdw_u9, Rdw_10, Rdw_g10, Rdw_v10, Rdw_u10, FlF_0, FlF_s0, FlF_1, FlF_s1, FlF_2, FlF_s2, FlF_3, FlF_s3, FlF_4, FlF_5, FlF_6, FlF_7, FlF_s7, FlF_8, FlF_s8, FlF_9, FlF_s9, FlF_10, FlF_s10, FlF_11, FlF_s11, FlF_len, Flw_ob, Flw_uob, Flw_pob, Flw_upob, Flw_p1, Flw_p2, Flw_p3, Flw_lob, Flw_ulob, Flw_l1, Flw_l2, Flw_l3, Flw_rob, Nat.reduceLT, rup_s, rup_rup, o1]
  have hK' : ∀ c p r, RDr f0 (c, p, r) key fl H → K (Rdw W a au fd c p r) none := fun c p r h => hK (c, p, r) h
  refine hK' _ _ _ ?_
  refine ⟨x2, x3, x4, x5, x6, x7, x8, x11, fun k hk hl => ?_, x12, x13, x14⟩
  have hm : (H.1.2.2.1.length - 1 - k) % 8 < 8 := Nat.mod_lt _ (by decide)
  obtain ⟨g1, g2⟩ := xr k hk hl
  exact ⟨(cpyN (m := 8) (by decide) hm).trans g1, (cpyN (m := 8) (by decide) hm).trans g2⟩
theorem c_FdCopy {s s' : Nat} {c c2 : Nat → Int32} {r r2 : Nat → Nat → Int32} {fh : List aFd} (hW : At W s 5 (FdC s c r)) (hW2 : At W s' 5 (FdC s' c2 r2)) (hd : s + 5 ≤ s' ∨ s' + 5 ≤ s) (hF : FDr c2 r2 fh) (hK : ∀ c' r', FDr c' r' fh → K (Fdw W s c' r') none) : zcall n_Fi_copyFrom [.ref s, .ref s'] W K := by
  rw [← Fdw_eq hW]
  have hV : ∀ c r, At (Fdw W s c r) s' 5 (FdC s' c2 r2) := fun c r => At_out hW2 (by omega)
  have o1 : ∀ c r fs, jx_ob (Fdw W s c r) s' 1 fs ↔ fs = FdF s' c2 := fun c r fs => ob_iff (hV c r 0 (by decide))
  have o2 : ∀ c r, (Fdw W s c r).2.2 (s' + 1) = some (.inl (.int, 30, .inl (r2 4))) := fun c r => hV c r 1 (by decide)
  have o3 : ∀ c r, (Fdw W s c r).2.2 (s' + 2) = some (.inl (.int, 30, .inl (r2 5))) := fun c r => hV c r 2 (by decide)
  have o4 : ∀ c r, (Fdw W s c r).2.2 (s' + 3) = some (.inl (.int, 30, .inl (r2 6))) := fun c r => hV c r 3 (by decide)
  have o5 : ∀ c r, (Fdw W s c r).2.2 (s' + 4) = some (.inl (.int, 30, .inl (r2 7))) := fun c r => hV c r 4 (by decide)
  refine e_Fi_copyFrom (b_Fi_copyFrom_0 ?_)
  simp only [o1, o2, o3, o4, o5, Sum.inl.injEq, Prod.mk.injEq, and_assoc, exists_and_left, exists_eq_left, exists_eq_left', Option.some.injEq, Value.int.injEq, Value.ref.injEq, Value.long.injEq, true_and, and_true, exists_eq, exists_true_left, FdF_0, FdF_s0, FdF_1, FdF_s1, FdF_2, FdF_s2, FdF_3, FdF_s3, FdF_4, FdF_5, FdF_6, FdF_7, FdF_len, Fdw_ob, Fdw_uob, Fdw_4, Fdw_g4, Fdw_v4, Fdw_u4, Fdw_5, Fdw_g5, Fdw_v5, Fdw_u5, Fdw_6, Fdw_g6, Fdw_v6, Fdw_u6, Fdw_7, Fdw_g7, Fdw_v7, Fdw_u7, WdF_0, WdF_1, WdF_len, Wdw_ob, Wdw_0, Wdw_g0, Wdw_v0, Wdw_u0, Wdw_1, Wdw_g1, Wdw_v1, Wdw_u1, AuF_0, AuF_s0, AuF_1, AuF_2, AuF_3, AuF_4, AuF_5, AuF_6, AuF_7, AuF_8, AuF_len, Auw_ob, Auw_uob, Auw_1, Auw_g1, Auw_v1, Auw_u1, Auw_2, Auw_g2, Auw_v2, Auw_u2, Auw_3, Auw_g3, Auw_v3, Auw_u3, Auw_4, Auw_g4, Auw_v4, Auw_u4, Auw_5, Auw_g5, Auw_v5, Auw_u5, Auw_6, Auw_g6, Auw_v6, Auw_u6, Auw_7, Auw_g7, Auw_v7, Auw_u7, Auw_8, Auw_g8, Auw_v8, Auw_u8, SgF_0, SgF_s0, SgF_1, SgF_2, SgF_3, SgF_len, Sgw_ob, Sgw_uob, Sgw_1, Sgw_g1, Sgw_v1, Sgw_u1, Sgw_2, Sgw_g2, Sgw_v2, Sgw_u2, Sgw_3, Sgw_g3, Sgw_v3, Sgw_u3, RdF_0, RdF_1, RdF_2, RdF_s2, RdF_3, RdF_s3, RdF_4, RdF_s4, RdF_5, RdF_s5, RdF_6, RdF_s6, RdF_7, RdF_s7, RdF_8, RdF_s8, RdF_9, RdF_10, RdF_11, RdF_s11, RdF_12, RdF_s12, RdF_13, RdF_s13, RdF_14, RdF_s14, RdF_len, Rdw_ob, Rdw_uob, Rdw_9, Rdw_g9, Rdw_v9, Rdw_u9, Rdw_10, Rdw_g10, Rdw_v10, Rdw_u10, FlF_0, FlF_s0, FlF_1, FlF_s1, FlF_2, FlF_s2, FlF_3, FlF_s3, FlF_4, FlF_5, FlF_6, FlF_7, FlF_s7, FlF_8, FlF_s8, FlF_9, FlF_s9, FlF_10, FlF_s10, FlF_11, FlF_s11, FlF_len, Flw_ob, Flw_uob, Flw_pob, Flw_upob, Flw_p1, Flw_p2, Flw_p3, Flw_lob, Flw_ulob, Flw_l1, Flw_l2, Flw_l3, Flw_rob, Nat.reduceLT, rup_s, rup_rup]
  refine ⟨by decide, by decide, by decide, by decide, by decide, fun _ _ => rfl, by decide, by decide, by decide, by decide, by decide, fun _ _ => rfl, by decide, by decide, by decide, by decide, by decide, fun _ _ => rfl, by decide, by decide, by decide, by decide, by decide, fun _ _ => rfl, ?_⟩
  refine hK _ _ ⟨hF.1, hF.2.1, hF.2.2.1, hF.2.2.2.1, fun i j hi hj => ?_⟩
  have hm : (fh.length - 1 - i) % 30 < 30 := Nat.mod_lt _ (by decide)
  have h := hF.2.2.2.2 i j hi hj
  obtain rfl | rfl | rfl | rfl : j = 0 ∨ j = 1 ∨ j = 2 ∨ j = 3 := by omega
  · exact (cpyN (m := 30) (by decide) hm).trans h
  · exact (cpyN (m := 30) (by decide) hm).trans h
  · exact (cpyN (m := 30) (by decide) hm).trans h
  · exact (cpyN (m := 30) (by decide) hm).trans h
end CRead2
