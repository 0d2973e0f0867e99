/-! what stays true while a flow reads -/
theorem stK_lt2 {A : aAU} {ps l : Nat} (hA : auOk A) (hl : l < 26) : ∀ {n : Nat}, n ≤ A.1 → stK A ps l n < 2 ^ A.1
  | 0, _ => Nat.two_pow_pos _
  | n + 1, h => by
    refine Nat.or_lt_two_pow (stK_lt2 hA hl (by omega)) ?_
    split
    · exact Nat.pow_lt_pow_right (by decide) (hA.2.2.1 n l (by omega) hl)
    · exact Nat.two_pow_pos _
theorem one_lt2 {A : aAU} (hA : auOk A) : 1 < 2 ^ A.1 := Nat.one_lt_two_pow (by have := hA.1; omega)
theorem aPs_lt2 {A : aAU} {ps cn : Nat} (hA : auOk A) : aPs A ps cn < 2 ^ A.1 := by
  unfold aPs
  split
  · rename_i hl
    simp only [lett, Bool.and_eq_true, decide_eq_true_eq] at hl
    exact stK_lt2 hA (by omega) (Nat.le_refl _)
  · exact one_lt2 hA
theorem char_ps {A : aAU} {fl : Nat} {key : Int32} {S : aS} {cn : Nat} {st e : Int32} (hA : auOk A) (h : S.2.1 < 2 ^ A.1) : (aChar A fl key S cn st e).2.1 < 2 ^ A.1 := by
  unfold aChar
  split
  · exact h
  · exact aPs_lt2 hA
theorem rel_ps {A : aAU} {fl : Nat} {key : Int32} {S : aS} {held dig idx : Nat} (hA : auOk A) (h : S.2.1 < 2 ^ A.1) : (aRel A fl key S held dig idx).2.1 < 2 ^ A.1 := by
  unfold aRel
  split
  · exact h
  · exact char_ps hA h
  · exact char_ps hA (char_ps hA h)
theorem rowO_lt2 {A : aAU} {k acc : Nat} (hA : auOk A) (hk : k < A.1) (ha : acc < 2 ^ A.1) : ∀ {l : Nat}, l ≤ 26 → rowO A k acc l < 2 ^ A.1
  | 0, _ => ha
  | l + 1, h => Nat.or_lt_two_pow (rowO_lt2 hA hk ha (by omega)) (Nat.pow_lt_pow_right (by decide) (hA.2.2.1 k l hk (by omega)))
theorem widK_lt2 {A : aAU} {ps : Nat} (hA : auOk A) (hp : ps < 2 ^ A.1) : ∀ {k : Nat}, k ≤ A.1 → widK A ps k < 2 ^ A.1
  | 0, _ => Nat.or_lt_two_pow hp (one_lt2 hA)
  | k + 1, h => by
    unfold widK
    split
    · exact rowO_lt2 hA (by omega) (widK_lt2 hA hp (by omega)) (Nat.le_refl _)
    · exact widK_lt2 hA hp (by omega)
theorem aSpr_lt2 {A : aAU} (hA : auOk A) : ∀ {n ps : Nat}, ps < 2 ^ A.1 → aSpr A n ps < 2 ^ A.1
  | 0, ps, h => h
  | n + 1, ps, h => by
    unfold aSpr
    split
    · exact h
    · exact aSpr_lt2 hA (widK_lt2 hA h (Nat.le_refl _))
/-- of a flow: possible nodes; no more characters than bytes; no more finds than B; what is held -/
def fIv (A : aAU) (ky : aKy) (B : Nat) (H : aH) (off : Nat) : Prop := H.1.2.1 < 2 ^ A.1 ∧ H.1.2.2.1.length + H.2.1 ≤ off ∧ H.1.2.2.2.2.1.length + 12 * (1040 - H.1.2.2.1.length) ≤ B ∧ hdOk ky.2.2.1 H.2.1 H.2.2 off
theorem pot_le {S S' : aS} {n B : Nat} (h : Gro S S' n) (hb : S.2.2.2.2.1.length + 12 * (1040 - S.2.2.1.length) ≤ B) (hl : S'.2.2.1.length ≤ 1040) : S'.2.2.2.2.1.length + 12 * (1040 - S'.2.2.1.length) ≤ B := by
  obtain ⟨h1, h2, h3, h4⟩ := h
  refine Nat.le_trans (Nat.add_le_add_right h4 _) ?_
  omega
theorem fIv_take {A : aAU} {ky : aKy} {B : Nat} {H : aH} {bt off : Nat} (hA : auOk A) (h : fIv A ky B H off) (ho : off < 1040) (hb : bt < 128) : fIv A ky B (aTake A ky.2.2.1 ky.1 H bt off) (off + 1) := by
  obtain ⟨S, held, dig⟩ := H
  obtain ⟨h1, h2, h3, h4⟩ := h
  dsimp only at h1 h2 h3 h4
  have hh := hdOk_take (A := A) (key := ky.1) (S := S) h4 hb
  have key : (aTake A ky.2.2.1 ky.1 (S, held, dig) bt off).1.2.1 < 2 ^ A.1 ∧ (aTake A ky.2.2.1 ky.1 (S, held, dig) bt off).1.2.2.1.length + (aTake A ky.2.2.1 ky.1 (S, held, dig) bt off).2.1 ≤ off + 1 ∧ Gro S (aTake A ky.2.2.1 ky.1 (S, held, dig) bt off).1 3 := by
    have gr := gro_rel (A := A) (fl := ky.2.2.1) (key := ky.1) (S := S) (held := held) (dig := dig) (idx := off) h4.1
    unfold aTake
    split
    · have g := gro_char (A := A) (fl := ky.2.2.1) (key := ky.1) (S := S) (cn := bt) (st := nI off) (e := nI (off + 1))
      refine ⟨char_ps hA h1, ?_, g.le (by decide)⟩
      have := g.2.1
      show (aChar A ky.2.2.1 ky.1 S bt (nI off) (nI (off + 1))).2.2.1.length + held ≤ off + 1
      omega
    · split
      · rename_i v e1 e2
        have e1 : held = 2 := e1
        have g := gro_char (A := A) (fl := ky.2.2.1) (key := ky.1) (S := S) (cn := (16 * (hexv dig).getD 0 + v) % 128) (st := nI (off - 2)) (e := nI (off + 1))
        refine ⟨char_ps hA h1, ?_, g.le (by decide)⟩
        have := g.2.1
        show (aChar A ky.2.2.1 ky.1 S ((16 * (hexv dig).getD 0 + v) % 128) (nI (off - 2)) (nI (off + 1))).2.2.1.length + 0 ≤ off + 1
        omega
      · rename_i v e1 e2
        have e1 : held = 1 := e1
        exact ⟨h1, by show S.2.2.1.length + 2 ≤ off + 1; omega, Gro.rf⟩
      · have g1 := gr.2.1
        have h41 := h4.1
        split
        · refine ⟨rel_ps hA h1, ?_, gr.le (by omega)⟩
          show (aRel A ky.2.2.1 ky.1 S held dig off).2.2.1.length + 1 ≤ off + 1
          omega
        · have g := gro_char (A := A) (fl := ky.2.2.1) (key := ky.1) (S := aRel A ky.2.2.1 ky.1 S held dig off) (cn := bt) (st := nI off) (e := nI (off + 1))
          refine ⟨char_ps hA (rel_ps hA h1), ?_, (gr.tr g).le (by omega)⟩
          have g2 := g.2.1
          show (aChar A ky.2.2.1 ky.1 (aRel A ky.2.2.1 ky.1 S held dig off) bt (nI off) (nI (off + 1))).2.2.1.length + 0 ≤ off + 1
          exact Nat.le_trans g2 (by show (aRel A ky.2.2.1 ky.1 S held dig off).2.2.1.length + 1 ≤ off + 1; omega)
  exact ⟨key.1, key.2.1, pot_le key.2.2 h3 (by have := key.2.1; omega), hh⟩
theorem fIv_rel {A : aAU} {ky : aKy} {B : Nat} {H : aH} {off : Nat} (hA : auOk A) (h : fIv A ky B H off) (ho : off ≤ 1040) : (aRel A ky.2.2.1 ky.1 H.1 H.2.1 H.2.2 off).2.1 < 2 ^ A.1 ∧ (aRel A ky.2.2.1 ky.1 H.1 H.2.1 H.2.2 off).2.2.1.length ≤ off ∧ (aRel A ky.2.2.1 ky.1 H.1 H.2.1 H.2.2 off).2.2.2.2.1.length + 12 * (1040 - (aRel A ky.2.2.1 ky.1 H.1 H.2.1 H.2.2 off).2.2.1.length) ≤ B := by
  obtain ⟨h1, h2, h3, h4⟩ := h
  have gr := gro_rel (A := A) (fl := ky.2.2.1) (key := ky.1) (S := H.1) (held := H.2.1) (dig := H.2.2) (idx := off) h4.1
  have g1 := gr.2.1
  have hl : (aRel A ky.2.2.1 ky.1 H.1 H.2.1 H.2.2 off).2.2.1.length ≤ off := Nat.le_trans g1 h2
  exact ⟨rel_ps hA h1, hl, pot_le gr h3 (by omega)⟩
theorem fIv_gap {A : aAU} {ky : aKy} {B : Nat} {F : aF} {to : Nat} (hA : auOk A) (h : fIv A ky B F.1 F.2.1) (ho : F.2.1 ≤ to) (hto : to ≤ 1040) : fIv A ky B (aGap A ky F to).1 to := by
  obtain ⟨h1, h2, h3⟩ := fIv_rel hA h (by omega)
  exact ⟨aSpr_lt2 hA h1, by show (aRel A ky.2.2.1 ky.1 F.1.1 F.1.2.1 F.1.2.2 F.2.1).2.2.1.length + 0 ≤ to; omega, h3, ⟨Nat.zero_le _, fun z => absurd z (Nat.not_lt_zero _), fun z => absurd z (show ¬ 0 = 2 by decide)⟩⟩
theorem fIv_del {A : aAU} {ky : aKy} {B : Nat} {ps : List aP} (hA : auOk A) (hp : ∀ p ∈ ps, aOk p) : ∀ {n : Nat} {s : aH × Nat × Nat}, s.2.1 + n ≤ 1040 → fIv A ky B s.1 s.2.1 → fIv A ky B (aDel A ky ps n s).1 (aDel A ky ps n s).2.1
  | 0, s, _, h => h
  | n + 1, s, hn, h => by
    unfold aDel
    split
    · exact h
    · rename_i j hj
      obtain ⟨j1, j2⟩ := aCh_lt hj
      obtain ⟨-, -, b3⟩ := byteN_ok (hp _ (aPc_mem j1)) j2
      exact fIv_del hA hp (by show s.2.1 + 1 + n ≤ 1040; omega) (fIv_take hA h (by omega) (by omega))
/-- behind a delivery -/
def dlv (F : aF) : Prop := aAny F.2.2.1 F.2.1 = false ∧ ∀ p ∈ F.2.2.1, F.2.1 < p.1 + p.2.length
theorem dlv_ok {A : aAU} {ky : aKy} {F : aF} (hp : ∀ p ∈ F.2.2.1, aOk p) (ho : F.2.1 ≤ 1040) : dlv (aDeliver A ky F) := by
  have h := aDel_end (A := A) (ky := ky) hp (n := 1040 - F.2.1) (s := (F.1, F.2.1, F.2.2.2.1)) (by show F.2.1 + (1040 - F.2.1) = 1040; omega)
  refine ⟨?_, fun p hp => of_decide_eq_true (List.mem_filter.mp hp).2⟩
  cases hc : aAny (aDeliver A ky F).2.2.1 (aDeliver A ky F).2.1 with
  | false => rfl
  | true =>
    unfold aAny at hc h
    rw [List.any_eq_true] at hc
    obtain ⟨p, h1, h2⟩ := hc
    rw [List.any_eq_false] at h
    exact absurd h2 (by have := h p (List.mem_filter.mp h1).1; exact this)
/-- what a flow stands on -/
def fdX (a gp fd : Nat) : Prop := fd + 5 ≤ a ∨ a + gp + 12 ≤ fd ∨ (a < fd ∧ fd + 5 ≤ a + gp + 1)
def FCx (W : jx_W) (a gp au fd : Nat) (ac : Nat → Int32) (ar : Nat → Nat → Int32) (A : aAU) : Prop := At W au 9 (AuC au ac ar) ∧ AUr ac ar A ∧ auOk A ∧ fdX a gp fd ∧ (a + gp + 12 ≤ au ∨ au + 9 ≤ a) ∧ (fd + 5 ≤ au ∨ au + 9 ≤ fd)
section CAcc
variable {W : jx_W} {a gp au fd : Nat} {ac : Nat → Int32} {ar : Nat → Nat → Int32} {K : jx_Q} {A : aAU} {f0 B : Nat} {X : cFl} {ky : aKy} {F : aF} {lg : List aP} {fc : Nat → Int32} {fr : Nat → Nat → Int32}
theorem FCx.rd (h : FCx W a gp au fd ac ar A) {fc : Nat → Int32} {fr : Nat → Nat → Int32} {X : cFl} : RCx (Flw (Fdw W fd fc fr) a gp au fd X) (a + gp + 9) au fd ac ar A := by
  obtain ⟨h1, h2, h3, h4, h5, h6⟩ := h
  unfold fdX at h4
  exact ⟨At_out (At_out (At_out h1 (by omega)) (by omega)) (by omega), h2, h3, by omega, by omega, h6⟩
theorem FCx.fnd (h : FCx W a gp au fd ac ar A) {fc : Nat → Int32} {fr : Nat → Nat → Int32} {X : cFl} : At (Flw (Fdw W fd fc fr) a gp au fd X) fd 5 (FdC fd fc fr) := At_out (At_out At_bw (by have := h.2.2.2.1; unfold fdX at this; omega)) (by have := h.2.2.2.1; unfold fdX at this; omega)
theorem FL_swap (hd : fdX a gp fd) {fc' : Nat → Int32} {fr' : Nat → Nat → Int32} : Fdw (Flw (Fdw W fd fc fr) a gp au fd X) fd fc' fr' = Flw (Fdw W fd fc' fr') a gp au fd X := by
  unfold fdX at hd
  unfold Fdw Flw
  rw [bw_comm (b := a) (n := 1) (b' := fd) (n' := 5) (by omega), bw_comm (b := a + gp + 1) (n := 11) (b' := fd) (n' := 5) (by omega), bw_same]
theorem FL_R (hd : fdX a gp fd) {fc' : Nat → Int32} {fr' : Nat → Nat → Int32} {X' : cRd} : Rdw (Fdw (Flw (Fdw W fd fc fr) a gp au fd X) fd fc' fr') (a + gp + 9) au fd X'.1 X'.2.1 X'.2.2 = Flw (Fdw W fd fc' fr') a gp au fd (X.1, X.2.1, X.2.2.1, X') := by
  rw [FL_swap hd, Flw_bR]
theorem c_dl_end {ps : List aP} {e1 e2 e3 e4 : Nat} {s : aH × Nat × Nat} (hs : s.2.1 ≤ 1040) (hX : FWr f0 X ky (s.1, s.2.1, ps, s.2.2, e1, e2, e3, e4) lg) (hK : ∀ X', FWr f0 X' ky (s.1, s.2.1, aDrop s.2.1 ps, s.2.2, e1, e2, e3, e4) lg → K (Flw W a gp au fd X') none) : zwp n_Fl_deliver 3 [(0, .ref a)] [] 0 0 (Flw W a gp au fd X) K := by
  obtain ⟨x0, x1, x2, x3, xp, xl, xr, x7, x8, x9, x10, x11⟩ := hX
  refine b_Fl_deliver_3 ?_
  simp only [and_assoc, exists_and_left, exists_eq_left, exists_eq_left', Option.some.injEq, Value.int.injEq, Value.ref.injEq, Value.long.injEq, true_and, and_true, exists_eq, exists_true_left, FdF_0, FdF_s0, FdF_1, FdF_s1, FdF_2, FdF_s2, FdF_3, FdF_s3, FdF_4, FdF_5, FdF_6, FdF_7, FdF_len, Fdw_ob, Fdw_uob, Fdw_4, Fdw_g4, Fdw_v4, Fdw_u4, Fdw_5, Fdw_g5, Fdw_v5, Fdw_u5, Fdw_6, Fdw_g6, Fdw_v6, Fdw_u6, Fdw_7, Fdw_g7, Fdw_v7, Fdw_u7, WdF_0, WdF_1, WdF_len, Wdw_ob, Wdw_0, Wdw_g0, Wdw_v0, Wdw_u0, Wdw_1, Wdw_g1, Wdw_v1, Wdw_u1, AuF_0, AuF_s0, AuF_1, AuF_2, AuF_3, AuF_4, AuF_5, AuF_6, AuF_7, AuF_8, AuF_len, Auw_ob, Auw_uob, Auw_1, Auw_g1, Auw_v1, Auw_u1, Auw_2, Auw_g2, Auw_v2, Auw_u2, Auw_3, Auw_g3, Auw_v3, Auw_u3, Auw_4, Auw_g4, Auw_v4, Auw_u4, Auw_5, Auw_g5, Auw_v5, Auw_u5, Auw_6, Auw_g6, Auw_v6, Auw_u6, Auw_7, Auw_g7, Auw_v7, Auw_u7, Auw_8, Auw_g8, Auw_v8, Auw_u8, SgF_0, SgF_s0, SgF_1, SgF_2, SgF_3, SgF_len, Sgw_ob, Sgw_uob, Sgw_1, Sgw_g1, Sgw_v1, Sgw_u1, Sgw_2, Sgw_g2, Sgw_v2, Sgw_u2, Sgw_3, Sgw_g3, Sgw_v3, Sgw_u3, RdF_0, RdF_1, RdF_2, RdF_s2, RdF_3, RdF_s3, RdF_4, RdF_s4, RdF_5, RdF_s5, RdF_6, RdF_s6, RdF_7, RdF_s7, RdF_8, RdF_s8, RdF_9, RdF_10, RdF_11, RdF_s11, RdF_12, RdF_s12, RdF_13, RdF_s13, RdF_14, RdF_s14, RdF_len, Rdw_ob, Rdw_uob, Rdw_9, Rdw_g9, Rdw_v9, Rdw_u9, Rdw_10, Rdw_g10, Rdw_v10, Rdw_u10, FlF_0, FlF_s0, FlF_1, FlF_s1, FlF_2, FlF_s2, FlF_3, FlF_s3, FlF_4, FlF_5, FlF_6, FlF_7, FlF_s7, FlF_8, FlF_s8, FlF_9, FlF_s9, FlF_10, FlF_s10, FlF_11, FlF_s11, FlF_len, Flw_ob, Flw_uob, Flw_pob, Flw_upob, Flw_p1, Flw_p2, Flw_p3, Flw_lob, Flw_ulob, Flw_l1, Flw_l2, Flw_l3, Flw_rob, Nat.reduceLT, rup_s, rup_rup]
  refine c_dropBefore (n := 6) Flw_atP xp (by decide) x3 (by show s.2.1 < 2 ^ 30; omega) (fun c' r' g => ⟨rfl, ?_⟩)
  rw [Flw_bP]
  exact hK _ ⟨x0, x1, x2, x3, g, xl, xr, x7, x8, x9, x10, x11⟩
theorem c_dl_loop {ps : List aP} {e1 e2 e3 e4 : Nat} (hC : FCx W a gp au fd ac ar A) (hky : kyOk ky) (hB : B < 2 ^ 25) : ∀ (n : Nat) (s : aH × Nat × Nat) (X : cFl) (fc : Nat → Int32) (fr : Nat → Nat → Int32), s.2.1 + n = 1040 → FWr f0 X ky (s.1, s.2.1, ps, s.2.2, e1, e2, e3, e4) lg → FDr fc fr s.1.1.2.2.2.2.1 → sOk A s.1.1 → fIv A ky B s.1 s.2.1 →
    (∀ X' fc' fr', FWr f0 X' ky ((aDel A ky ps n s).1, (aDel A ky ps n s).2.1, aDrop (aDel A ky ps n s).2.1 ps, (aDel A ky ps n s).2.2, e1, e2, e3, e4) lg → FDr fc' fr' (aDel A ky ps n s).1.1.2.2.2.2.1 → K (Flw (Fdw W fd fc' fr') a gp au fd X') none) →
    zwp n_Fl_deliver 0 [(0, .ref a)] [] 0 0 (Flw (Fdw W fd fc fr) a gp au fd X) K := by
  have hA := hC.2.2.1
  have hd := hC.2.2.2.1
  intro n
  induction n with
  | zero =>
    intro s X fc fr hn hX hF hS hI hK
    have x3 : X.1 3 = nI s.2.1 := hX.2.2.2.1
    refine b_Fl_deliver_0 ?_
    simp only [and_assoc, exists_and_left, exists_eq_left, exists_eq_left', Option.some.injEq, Value.int.injEq, Value.ref.injEq, Value.long.injEq, true_and, and_true, exists_eq, exists_true_left, FdF_0, FdF_s0, FdF_1, FdF_s1, FdF_2, FdF_s2, FdF_3, FdF_s3, FdF_4, FdF_5, FdF_6, FdF_7, FdF_len, Fdw_ob, Fdw_uob, Fdw_4, Fdw_g4, Fdw_v4, Fdw_u4, Fdw_5, Fdw_g5, Fdw_v5, Fdw_u5, Fdw_6, Fdw_g6, Fdw_v6, Fdw_u6, Fdw_7, Fdw_g7, Fdw_v7, Fdw_u7, WdF_0, WdF_1, WdF_len, Wdw_ob, Wdw_0, Wdw_g0, Wdw_v0, Wdw_u0, Wdw_1, Wdw_g1, Wdw_v1, Wdw_u1, AuF_0, AuF_s0, AuF_1, AuF_2, AuF_3, AuF_4, AuF_5, AuF_6, AuF_7, AuF_8, AuF_len, Auw_ob, Auw_uob, Auw_1, Auw_g1, Auw_v1, Auw_u1, Auw_2, Auw_g2, Auw_v2, Auw_u2, Auw_3, Auw_g3, Auw_v3, Auw_u3, Auw_4, Auw_g4, Auw_v4, Auw_u4, Auw_5, Auw_g5, Auw_v5, Auw_u5, Auw_6, Auw_g6, Auw_v6, Auw_u6, Auw_7, Auw_g7, Auw_v7, Auw_u7, Auw_8, Auw_g8, Auw_v8, Auw_u8, SgF_0, SgF_s0, SgF_1, SgF_2, SgF_3, SgF_len, Sgw_ob, Sgw_uob, Sgw_1, Sgw_g1, Sgw_v1, Sgw_u1, Sgw_2, Sgw_g2, Sgw_v2, Sgw_u2, Sgw_3, Sgw_g3, Sgw_v3, Sgw_u3, RdF_0, RdF_1, RdF_2, RdF_s2, RdF_3, RdF_s3, RdF_4, RdF_s4, RdF_5, RdF_s5, RdF_6, RdF_s6, RdF_7, RdF_s7, RdF_8, RdF_s8, RdF_9, RdF_10, RdF_11, RdF_s11, RdF_12, RdF_s12, RdF_13, RdF_s13, RdF_14, RdF_s14, RdF_len, Rdw_ob, Rdw_uob, Rdw_9, Rdw_g9, Rdw_v9, Rdw_u9, Rdw_10, Rdw_g10, Rdw_v10, Rdw_u10, FlF_0, FlF_s0, FlF_1, FlF_s1, FlF_2, FlF_s2, FlF_3, FlF_s3, FlF_4, FlF_5, FlF_6, FlF_7, FlF_s7, FlF_8, FlF_s8, FlF_9, FlF_s9, FlF_10, FlF_s10, FlF_11, FlF_s11, FlF_len, Flw_ob, Flw_uob, Flw_pob, Flw_upob, Flw_p1, Flw_p2, Flw_p3, Flw_lob, Flw_ulob, Flw_l1, Flw_l2, Flw_l3, Flw_rob, Nat.reduceLT, rup_s, rup_rup]
    rw [x3]
    exact ⟨fun _ => c_dl_end (by omega) hX (fun X' g => hK X' fc fr g hF), fun z => absurd ((nI_leI (a := 1040) (by decide) (by omega)).mpr (by omega)) z⟩
  | succ n ih =>
    intro s X fc fr hn hX hF hS hI hK
    obtain ⟨x0, x1, x2, x3, xp, xl, xr, x7, x8, x9, x10, x11⟩ := id hX
    have x3 : X.1 3 = nI s.2.1 := x3
    have x9 : X.1 9 = nI s.2.2 := x9
    have ed : aDel A ky ps (n + 1) s = match aChosen ky.2.1 ps s.2.1 with
      | none => s
      | some j => aDel A ky ps n (aTake A ky.2.2.1 ky.1 s.1 (byteN (aPc ps j) s.2.1) s.2.1, s.2.1 + 1, s.2.2 + (if aConf ps s.2.1 then 1 else 0)) := rfl
    refine b_Fl_deliver_0 ?_
    simp only [and_assoc, exists_and_left, exists_eq_left, exists_eq_left', Option.some.injEq, Value.int.injEq, Value.ref.injEq, Value.long.injEq, true_and, and_true, exists_eq, exists_true_left, FdF_0, FdF_s0, FdF_1, FdF_s1, FdF_2, FdF_s2, FdF_3, FdF_s3, FdF_4, FdF_5, FdF_6, FdF_7, FdF_len, Fdw_ob, Fdw_uob, Fdw_4, Fdw_g4, Fdw_v4, Fdw_u4, Fdw_5, Fdw_g5, Fdw_v5, Fdw_u5, Fdw_6, Fdw_g6, Fdw_v6, Fdw_u6, Fdw_7, Fdw_g7, Fdw_v7, Fdw_u7, WdF_0, WdF_1, WdF_len, Wdw_ob, Wdw_0, Wdw_g0, Wdw_v0, Wdw_u0, Wdw_1, Wdw_g1, Wdw_v1, Wdw_u1, AuF_0, AuF_s0, AuF_1, AuF_2, AuF_3, AuF_4, AuF_5, AuF_6, AuF_7, AuF_8, AuF_len, Auw_ob, Auw_uob, Auw_1, Auw_g1, Auw_v1, Auw_u1, Auw_2, Auw_g2, Auw_v2, Auw_u2, Auw_3, Auw_g3, Auw_v3, Auw_u3, Auw_4, Auw_g4, Auw_v4, Auw_u4, Auw_5, Auw_g5, Auw_v5, Auw_u5, Auw_6, Auw_g6, Auw_v6, Auw_u6, Auw_7, Auw_g7, Auw_v7, Auw_u7, Auw_8, Auw_g8, Auw_v8, Auw_u8, SgF_0, SgF_s0, SgF_1, SgF_2, SgF_3, SgF_len, Sgw_ob, Sgw_uob, Sgw_1, Sgw_g1, Sgw_v1, Sgw_u1, Sgw_2, Sgw_g2, Sgw_v2, Sgw_u2, Sgw_3, Sgw_g3, Sgw_v3, Sgw_u3, RdF_0, RdF_1, RdF_2, RdF_s2, RdF_3, RdF_s3, RdF_4, RdF_s4, RdF_5, RdF_s5, RdF_6, RdF_s6, RdF_7, RdF_s7, RdF_8, RdF_s8, RdF_9, RdF_10, RdF_11, RdF_s11, RdF_12, RdF_s12, RdF_13, RdF_s13, RdF_14, RdF_s14, RdF_len, Rdw_ob, Rdw_uob, Rdw_9, Rdw_g9, Rdw_v9, Rdw_u9, Rdw_10, Rdw_g10, Rdw_v10, Rdw_u10, FlF_0, FlF_s0, FlF_1, FlF_s1, FlF_2, FlF_s2, FlF_3, FlF_s3, FlF_4, FlF_5, FlF_6, FlF_7, FlF_s7, FlF_8, FlF_s8, FlF_9, FlF_s9, FlF_10, FlF_s10, FlF_11, FlF_s11, FlF_len, Flw_ob, Flw_uob, Flw_pob, Flw_upob, Flw_p1, Flw_p2, Flw_p3, Flw_lob, Flw_ulob, Flw_l1, Flw_l2, Flw_l3, Flw_rob, Nat.reduceLT, rup_s, rup_rup]
    rw [x3]
    refine ⟨fun z => absurd ((nI_leI (a := 1040) (by decide) (by omega)).mp z) (by omega), fun _ => ?_⟩
    refine c_chosenPiece (F := (s.1, s.2.1, ps, s.2.2, e1, e2, e3, e4)) Flw_at hX hky.1 rfl (by omega) ⟨_, rfl, fun z => ?_, fun z => ?_⟩
    · cases hch : aChosen ky.2.1 ps s.2.1 with
      | none =>
        have z : ¬ oC (aChosen ky.2.1 ps s.2.1) = -1 := z
        rw [hch] at z
        exact absurd rfl z
      | some j =>
        obtain ⟨j1, j2⟩ := aCh_lt hch
        obtain ⟨b1, b2, b3⟩ : aByte (aPc ps j) s.2.1 = nI (byteN (aPc ps j) s.2.1) ∧ 32 ≤ byteN (aPc ps j) s.2.1 ∧ byteN (aPc ps j) s.2.1 ≤ 126 := byteN_ok (xp.2.2.1 _ (aPc_mem j1)) j2
        rw [hch] at ed
        dsimp only at ed
        rw [ed] at hK
        have hj2 : zwp n_Fl_deliver 1 [(0, .ref a), (1, .int (nI j))] [] 0 0 (Flw (Fdw W fd fc fr) a gp au fd X) K := by
          -- the byte is taken
          have b2' : ∀ (X1 : cFl) (cf : Nat), cf = s.2.2 + (if aConf ps s.2.1 then 1 else 0) → FWr f0 X1 ky (s.1, s.2.1, ps, cf, e1, e2, e3, e4) lg → zwp n_Fl_deliver 2 [(0, .ref a), (2, .int (aByte (aPc ps j) s.2.1))] [] 0 0 (Flw (Fdw W fd fc fr) a gp au fd X1) K := fun X1 cf hcf hX1 => by
            obtain ⟨y0, y1, y2, y3, yp, yl, yr, y7, y8, y9, y10, y11⟩ := id hX1
            have y3 : X1.1 3 = nI s.2.1 := y3
            refine b_Fl_deliver_2 ?_
            simp only [and_assoc, exists_and_left, exists_eq_left, exists_eq_left', Option.some.injEq, Value.int.injEq, Value.ref.injEq, Value.long.injEq, true_and, and_true, exists_eq, exists_true_left, FdF_0, FdF_s0, FdF_1, FdF_s1, FdF_2, FdF_s2, FdF_3, FdF_s3, FdF_4, FdF_5, FdF_6, FdF_7, FdF_len, Fdw_ob, Fdw_uob, Fdw_4, Fdw_g4, Fdw_v4, Fdw_u4, Fdw_5, Fdw_g5, Fdw_v5, Fdw_u5, Fdw_6, Fdw_g6, Fdw_v6, Fdw_u6, Fdw_7, Fdw_g7, Fdw_v7, Fdw_u7, WdF_0, WdF_1, WdF_len, Wdw_ob, Wdw_0, Wdw_g0, Wdw_v0, Wdw_u0, Wdw_1, Wdw_g1, Wdw_v1, Wdw_u1, AuF_0, AuF_s0, AuF_1, AuF_2, AuF_3, AuF_4, AuF_5, AuF_6, AuF_7, AuF_8, AuF_len, Auw_ob, Auw_uob, Auw_1, Auw_g1, Auw_v1, Auw_u1, Auw_2, Auw_g2, Auw_v2, Auw_u2, Auw_3, Auw_g3, Auw_v3, Auw_u3, Auw_4, Auw_g4, Auw_v4, Auw_u4, Auw_5, Auw_g5, Auw_v5, Auw_u5, Auw_6, Auw_g6, Auw_v6, Auw_u6, Auw_7, Auw_g7, Auw_v7, Auw_u7, Auw_8, Auw_g8, Auw_v8, Auw_u8, SgF_0, SgF_s0, SgF_1, SgF_2, SgF_3, SgF_len, Sgw_ob, Sgw_uob, Sgw_1, Sgw_g1, Sgw_v1, Sgw_u1, Sgw_2, Sgw_g2, Sgw_v2, Sgw_u2, Sgw_3, Sgw_g3, Sgw_v3, Sgw_u3, RdF_0, RdF_1, RdF_2, RdF_s2, RdF_3, RdF_s3, RdF_4, RdF_s4, RdF_5, RdF_s5, RdF_6, RdF_s6, RdF_7, RdF_s7, RdF_8, RdF_s8, RdF_9, RdF_10, RdF_11, RdF_s11, RdF_12, RdF_s12, RdF_13, RdF_s13, RdF_14, RdF_s14, RdF_len, Rdw_ob, Rdw_uob, Rdw_9, Rdw_g9, Rdw_v9, Rdw_u9, Rdw_10, Rdw_g10, Rdw_v10, Rdw_u10, FlF_0, FlF_s0, FlF_1, FlF_s1, FlF_2, FlF_s2, FlF_3, FlF_s3, FlF_4, FlF_5, FlF_6, FlF_7, FlF_s7, FlF_8, FlF_s8, FlF_9, FlF_s9, FlF_10, FlF_s10, FlF_11, FlF_s11, FlF_len, Flw_ob, Flw_uob, Flw_pob, Flw_upob, Flw_p1, Flw_p2, Flw_p3, Flw_lob, Flw_ulob, Flw_l1, Flw_l2, Flw_l3, Flw_rob, Nat.reduceLT, rup_s, rup_rup]
            rw [y3]
            obtain ⟨i1, i2, i3, i4⟩ := id hI
            refine c_take (X := X1.2.2.2) (S := s.1.1) (held := s.1.2.1) (dig := s.1.2.2) (fc := fc) (fr := fr) (key := ky.1) hC.rd Flw_atR hC.fnd yr hF hS hky.2.1 (by omega) (by omega) i4 b1 (by omega) rfl (by omega) (fun X' fc' fr' g1 g2 => ⟨rfl, ?_⟩)
            rw [FL_R hd]
            simp only [and_assoc, exists_and_left, exists_eq_left, exists_eq_left', Option.some.injEq, Value.int.injEq, Value.ref.injEq, Value.long.injEq, true_and, and_true, exists_eq, exists_true_left, FdF_0, FdF_s0, FdF_1, FdF_s1, FdF_2, FdF_s2, FdF_3, FdF_s3, FdF_4, FdF_5, FdF_6, FdF_7, FdF_len, Fdw_ob, Fdw_uob, Fdw_4, Fdw_g4, Fdw_v4, Fdw_u4, Fdw_5, Fdw_g5, Fdw_v5, Fdw_u5, Fdw_6, Fdw_g6, Fdw_v6, Fdw_u6, Fdw_7, Fdw_g7, Fdw_v7, Fdw_u7, WdF_0, WdF_1, WdF_len, Wdw_ob, Wdw_0, Wdw_g0, Wdw_v0, Wdw_u0, Wdw_1, Wdw_g1, Wdw_v1, Wdw_u1, AuF_0, AuF_s0, AuF_1, AuF_2, AuF_3, AuF_4, AuF_5, AuF_6, AuF_7, AuF_8, AuF_len, Auw_ob, Auw_uob, Auw_1, Auw_g1, Auw_v1, Auw_u1, Auw_2, Auw_g2, Auw_v2, Auw_u2, Auw_3, Auw_g3, Auw_v3, Auw_u3, Auw_4, Auw_g4, Auw_v4, Auw_u4, Auw_5, Auw_g5, Auw_v5, Auw_u5, Auw_6, Auw_g6, Auw_v6, Auw_u6, Auw_7, Auw_g7, Auw_v7, Auw_u7, Auw_8, Auw_g8, Auw_v8, Auw_u8, SgF_0, SgF_s0, SgF_1, SgF_2, SgF_3, SgF_len, Sgw_ob, Sgw_uob, Sgw_1, Sgw_g1, Sgw_v1, Sgw_u1, Sgw_2, Sgw_g2, Sgw_v2, Sgw_u2, Sgw_3, Sgw_g3, Sgw_v3, Sgw_u3, RdF_0, RdF_1, RdF_2, RdF_s2, RdF_3, RdF_s3, RdF_4, RdF_s4, RdF_5, RdF_s5, RdF_6, RdF_s6, RdF_7, RdF_s7, RdF_8, RdF_s8, RdF_9, RdF_10, RdF_11, RdF_s11, RdF_12, RdF_s12, RdF_13, RdF_s13, RdF_14, RdF_s14, RdF_len, Rdw_ob, Rdw_uob, Rdw_9, Rdw_g9, Rdw_v9, Rdw_u9, Rdw_10, Rdw_g10, Rdw_v10, Rdw_u10, FlF_0, FlF_s0, FlF_1, FlF_s1, FlF_2, FlF_s2, FlF_3, FlF_s3, FlF_4, FlF_5, FlF_6, FlF_7, FlF_s7, FlF_8, FlF_s8, FlF_9, FlF_s9, FlF_10, FlF_s10, FlF_11, FlF_s11, FlF_len, Flw_ob, Flw_uob, Flw_pob, Flw_upob, Flw_p1, Flw_p2, Flw_p3, Flw_lob, Flw_ulob, Flw_l1, Flw_l2, Flw_l3, Flw_rob, Nat.reduceLT, rup_s, rup_rup]
            rw [y3, nI_1]
            refine ih (aTake A ky.2.2.1 ky.1 s.1 (byteN (aPc ps j) s.2.1) s.2.1, s.2.1 + 1, s.2.2 + (if aConf ps s.2.1 then 1 else 0)) _ fc' fr' (by show s.2.1 + 1 + n = 1040; omega) ⟨y0, y1, y2, rfl, yp, yl, g1, y7, y8, by rw [← hcf]; exact y9, y10, y11⟩ g2 (aTake_ok hA hS (by omega)) (fIv_take hA hI (by omega) (by omega)) hK
          refine b_Fl_deliver_1 ?_
          simp only [and_assoc, exists_and_left, exists_eq_left, exists_eq_left', Option.some.injEq, Value.int.injEq, Value.ref.injEq, Value.long.injEq, true_and, and_true, exists_eq, exists_true_left, FdF_0, FdF_s0, FdF_1, FdF_s1, FdF_2, FdF_s2, FdF_3, FdF_s3, FdF_4, FdF_5, FdF_6, FdF_7, FdF_len, Fdw_ob, Fdw_uob, Fdw_4, Fdw_g4, Fdw_v4, Fdw_u4, Fdw_5, Fdw_g5, Fdw_v5, Fdw_u5, Fdw_6, Fdw_g6, Fdw_v6, Fdw_u6, Fdw_7, Fdw_g7, Fdw_v7, Fdw_u7, WdF_0, WdF_1, WdF_len, Wdw_ob, Wdw_0, Wdw_g0, Wdw_v0, Wdw_u0, Wdw_1, Wdw_g1, Wdw_v1, Wdw_u1, AuF_0, AuF_s0, AuF_1, AuF_2, AuF_3, AuF_4, AuF_5, AuF_6, AuF_7, AuF_8, AuF_len, Auw_ob, Auw_uob, Auw_1, Auw_g1, Auw_v1, Auw_u1, Auw_2, Auw_g2, Auw_v2, Auw_u2, Auw_3, Auw_g3, Auw_v3, Auw_u3, Auw_4, Auw_g4, Auw_v4, Auw_u4, Auw_5, Auw_g5, Auw_v5, Auw_u5, Auw_6, Auw_g6, Auw_v6, Auw_u6, Auw_7, Auw_g7, Auw_v7, Auw_u7, Auw_8, Auw_g8, Auw_v8, Auw_u8, SgF_0, SgF_s0, SgF_1, SgF_2, SgF_3, SgF_len, Sgw_ob, Sgw_uob, Sgw_1, Sgw_g1, Sgw_v1, Sgw_u1, Sgw_2, Sgw_g2, Sgw_v2, Sgw_u2, Sgw_3, Sgw_g3, Sgw_v3, Sgw_u3, RdF_0, RdF_1, RdF_2, RdF_s2, RdF_3, RdF_s3, RdF_4, RdF_s4, RdF_5, RdF_s5, RdF_6, RdF_s6, RdF_7, RdF_s7, RdF_8, RdF_s8, RdF_9, RdF_10, RdF_11, RdF_s11, RdF_12, RdF_s12, RdF_13, RdF_s13, RdF_14, RdF_s14, RdF_len, Rdw_ob, Rdw_uob, Rdw_9, Rdw_g9, Rdw_v9, Rdw_u9, Rdw_10, Rdw_g10, Rdw_v10, Rdw_u10, FlF_0, FlF_s0, FlF_1, FlF_s1, FlF_2, FlF_s2, FlF_3, FlF_s3, FlF_4, FlF_5, FlF_6, FlF_7, FlF_s7, FlF_8, FlF_s8, FlF_9, FlF_s9, FlF_10, FlF_s10, FlF_11, FlF_s11, FlF_len, Flw_ob, Flw_uob, Flw_pob, Flw_upob, Flw_p1, Flw_p2, Flw_p3, Flw_lob, Flw_ulob, Flw_l1, Flw_l2, Flw_l3, Flw_rob, Nat.reduceLT, rup_s, rup_rup]
          rw [x3]
          refine c_byteFor (n := 6) (l := ps) Flw_atP xp (by decide) j1 rfl rfl (by omega) (fun _ => ⟨_, rfl, ?_⟩) (fun h => by rw [j2] at h; cases h)
          simp only [and_assoc, exists_and_left, exists_eq_left, exists_eq_left', Option.some.injEq, Value.int.injEq, Value.ref.injEq, Value.long.injEq, true_and, and_true, exists_eq, exists_true_left, FdF_0, FdF_s0, FdF_1, FdF_s1, FdF_2, FdF_s2, FdF_3, FdF_s3, FdF_4, FdF_5, FdF_6, FdF_7, FdF_len, Fdw_ob, Fdw_uob, Fdw_4, Fdw_g4, Fdw_v4, Fdw_u4, Fdw_5, Fdw_g5, Fdw_v5, Fdw_u5, Fdw_6, Fdw_g6, Fdw_v6, Fdw_u6, Fdw_7, Fdw_g7, Fdw_v7, Fdw_u7, WdF_0, WdF_1, WdF_len, Wdw_ob, Wdw_0, Wdw_g0, Wdw_v0, Wdw_u0, Wdw_1, Wdw_g1, Wdw_v1, Wdw_u1, AuF_0, AuF_s0, AuF_1, AuF_2, AuF_3, AuF_4, AuF_5, AuF_6, AuF_7, AuF_8, AuF_len, Auw_ob, Auw_uob, Auw_1, Auw_g1, Auw_v1, Auw_u1, Auw_2, Auw_g2, Auw_v2, Auw_u2, Auw_3, Auw_g3, Auw_v3, Auw_u3, Auw_4, Auw_g4, Auw_v4, Auw_u4, Auw_5, Auw_g5, Auw_v5, Auw_u5, Auw_6, Auw_g6, Auw_v6, Auw_u6, Auw_7, Auw_g7, Auw_v7, Auw_u7, Auw_8, Auw_g8, Auw_v8, Auw_u8, SgF_0, SgF_s0, SgF_1, SgF_2, SgF_3, SgF_len, Sgw_ob, Sgw_uob, Sgw_1, Sgw_g1, Sgw_v1, Sgw_u1, Sgw_2, Sgw_g2, Sgw_v2, Sgw_u2, Sgw_3, Sgw_g3, Sgw_v3, Sgw_u3, RdF_0, RdF_1, RdF_2, RdF_s2, RdF_3, RdF_s3, RdF_4, RdF_s4, RdF_5, RdF_s5, RdF_6, RdF_s6, RdF_7, RdF_s7, RdF_8, RdF_s8, RdF_9, RdF_10, RdF_11, RdF_s11, RdF_12, RdF_s12, RdF_13, RdF_s13, RdF_14, RdF_s14, RdF_len, Rdw_ob, Rdw_uob, Rdw_9, Rdw_g9, Rdw_v9, Rdw_u9, Rdw_10, Rdw_g10, Rdw_v10, Rdw_u10, FlF_0, FlF_s0, FlF_1, FlF_s1, FlF_2, FlF_s2, FlF_3, FlF_s3, FlF_4, FlF_5, FlF_6, FlF_7, FlF_s7, FlF_8, FlF_s8, FlF_9, FlF_s9, FlF_10, FlF_s10, FlF_11, FlF_s11, FlF_len, Flw_ob, Flw_uob, Flw_pob, Flw_upob, Flw_p1, Flw_p2, Flw_p3, Flw_lob, Flw_ulob, Flw_l1, Flw_l2, Flw_l3, Flw_rob, Nat.reduceLT, rup_s, rup_rup]
          rw [x3]
          refine c_isDisputed (F := (s.1, s.2.1, ps, s.2.2, e1, e2, e3, e4)) Flw_at hX rfl (by omega) j1 j2 rfl ⟨_, rfl, fun z => ?_, fun z => ?_⟩
          · have z : oob (aConf ps s.2.1) = 0 := z
            have hc : aConf ps s.2.1 = false := by
              cases h : aConf ps s.2.1 with
              | false => rfl
              | true => rw [h] at z; exact absurd z (by decide)
            exact b2' X s.2.2 (by rw [hc]; rfl) hX
          · have z : ¬ oob (aConf ps s.2.1) = 0 := z
            have hc : aConf ps s.2.1 = true := by
              cases h : aConf ps s.2.1 with
              | true => rfl
              | false => rw [h] at z; exact absurd rfl z
            simp only [and_assoc, exists_and_left, exists_eq_left, exists_eq_left', Option.some.injEq, Value.int.injEq, Value.ref.injEq, Value.long.injEq, true_and, and_true, exists_eq, exists_true_left, FdF_0, FdF_s0, FdF_1, FdF_s1, FdF_2, FdF_s2, FdF_3, FdF_s3, FdF_4, FdF_5, FdF_6, FdF_7, FdF_len, Fdw_ob, Fdw_uob, Fdw_4, Fdw_g4, Fdw_v4, Fdw_u4, Fdw_5, Fdw_g5, Fdw_v5, Fdw_u5, Fdw_6, Fdw_g6, Fdw_v6, Fdw_u6, Fdw_7, Fdw_g7, Fdw_v7, Fdw_u7, WdF_0, WdF_1, WdF_len, Wdw_ob, Wdw_0, Wdw_g0, Wdw_v0, Wdw_u0, Wdw_1, Wdw_g1, Wdw_v1, Wdw_u1, AuF_0, AuF_s0, AuF_1, AuF_2, AuF_3, AuF_4, AuF_5, AuF_6, AuF_7, AuF_8, AuF_len, Auw_ob, Auw_uob, Auw_1, Auw_g1, Auw_v1, Auw_u1, Auw_2, Auw_g2, Auw_v2, Auw_u2, Auw_3, Auw_g3, Auw_v3, Auw_u3, Auw_4, Auw_g4, Auw_v4, Auw_u4, Auw_5, Auw_g5, Auw_v5, Auw_u5, Auw_6, Auw_g6, Auw_v6, Auw_u6, Auw_7, Auw_g7, Auw_v7, Auw_u7, Auw_8, Auw_g8, Auw_v8, Auw_u8, SgF_0, SgF_s0, SgF_1, SgF_2, SgF_3, SgF_len, Sgw_ob, Sgw_uob, Sgw_1, Sgw_g1, Sgw_v1, Sgw_u1, Sgw_2, Sgw_g2, Sgw_v2, Sgw_u2, Sgw_3, Sgw_g3, Sgw_v3, Sgw_u3, RdF_0, RdF_1, RdF_2, RdF_s2, RdF_3, RdF_s3, RdF_4, RdF_s4, RdF_5, RdF_s5, RdF_6, RdF_s6, RdF_7, RdF_s7, RdF_8, RdF_s8, RdF_9, RdF_10, RdF_11, RdF_s11, RdF_12, RdF_s12, RdF_13, RdF_s13, RdF_14, RdF_s14, RdF_len, Rdw_ob, Rdw_uob, Rdw_9, Rdw_g9, Rdw_v9, Rdw_u9, Rdw_10, Rdw_g10, Rdw_v10, Rdw_u10, FlF_0, FlF_s0, FlF_1, FlF_s1, FlF_2, FlF_s2, FlF_3, FlF_s3, FlF_4, FlF_5, FlF_6, FlF_7, FlF_s7, FlF_8, FlF_s8, FlF_9, FlF_s9, FlF_10, FlF_s10, FlF_11, FlF_s11, FlF_len, Flw_ob, Flw_uob, Flw_pob, Flw_upob, Flw_p1, Flw_p2, Flw_p3, Flw_lob, Flw_ulob, Flw_l1, Flw_l2, Flw_l3, Flw_rob, Nat.reduceLT, rup_s, rup_rup]
            rw [x9, nI_1]
            exact b2' _ (s.2.2 + 1) (by rw [hc]; rfl) ⟨x0, x1, x2, x3, xp, xl, xr, x7, x8, rfl, x10, x11⟩
        exact hj2
    · have hch : aChosen ky.2.1 ps s.2.1 = none := by
        cases hch : aChosen ky.2.1 ps s.2.1 with
        | none => rfl
        | some j =>
          obtain ⟨j1, -⟩ := aCh_lt hch
          have h6 := xp.2.1
          have h6 : ps.length ≤ 6 := h6
          have z : oC (aChosen ky.2.1 ps s.2.1) = -1 := z
          rw [hch] at z
          exact absurd z (nI_ne1 (by omega))
      rw [hch] at ed
      dsimp only at ed
      rw [ed] at hK
      exact c_dl_end (by omega) hX (fun X' g => hK X' fc fr g hF)
theorem c_deliver (hC : FCx W a gp au fd ac ar A) (hky : kyOk ky) (hB : B < 2 ^ 25) (hX : FWr f0 X ky F lg) (hF : FDr fc fr F.1.1.2.2.2.2.1) (hS : sOk A F.1.1) (ho : F.2.1 ≤ 1040) (hI : fIv A ky B F.1 F.2.1) (hK : ∀ X' fc' fr', FWr f0 X' ky (aDeliver A ky F) lg → FDr fc' fr' (aDeliver A ky F).1.1.2.2.2.2.1 → K (Flw (Fdw W fd fc' fr') a gp au fd X') none) : zcall n_Fl_deliver [.ref a] (Flw (Fdw W fd fc fr) a gp au fd X) K := by
  obtain ⟨H, off, ps, cf, e1, e2, e3, e4⟩ := F
  exact e_Fl_deliver (c_dl_loop (ps := ps) hC hky hB (1040 - off) (H, off, cf) X fc fr (by show off + (1040 - off) = 1040; have : off ≤ 1040 := ho; omega) hX hF hS hI hK)
theorem c_skipGap (hC : FCx W a gp au fd ac ar A) (hky : kyOk ky) (hB : B < 2 ^ 25) (hX : FWr f0 X ky F lg) (hF : FDr fc fr F.1.1.2.2.2.2.1) (hS : sOk A F.1.1) (ho : F.2.1 ≤ 1040) (hI : fIv A ky B F.1 F.2.1) (hD : dlv F) (hc : 0 < aCount F.2.2.1 F.2.1) (hK : ∀ X' fc' fr', FWr f0 X' ky (aGap A ky F (aLeast F.2.2.1 F.2.1)) lg → FDr fc' fr' (aGap A ky F (aLeast F.2.2.1 F.2.1)).1.1.2.2.2.2.1 → K (Flw (Fdw W fd fc' fr') a gp au fd X') none) : zcall n_Fl_skipGap [.ref a] (Flw (Fdw W fd fc fr) a gp au fd X) K := by
  obtain ⟨x0, x1, x2, x3, xp, xl, xr, x7, x8, x9, x10, x11⟩ := id hX
  obtain ⟨hL, hlt⟩ := aLeast_ok xp.2.2.1 hc
  have hle := hL.1
  have hd := hC.2.2.2.1
  have em := minS_least xp.2.2.1 hD.1 hD.2 hc
  obtain ⟨i1, i2, i3, i4⟩ := id hI
  refine e_Fl_skipGap (b_Fl_skipGap_0 ?_)
  simp only [and_assoc, exists_and_left, exists_eq_left, exists_eq_left', Option.some.injEq, Value.int.injEq, Value.ref.injEq, Value.long.injEq, true_and, and_true, exists_eq, exists_true_left, FdF_0, FdF_s0, FdF_1, FdF_s1, FdF_2, FdF_s2, FdF_3, FdF_s3, FdF_4, FdF_5, FdF_6, FdF_7, FdF_len, Fdw_ob, Fdw_uob, Fdw_4, Fdw_g4, Fdw_v4, Fdw_u4, Fdw_5, Fdw_g5, Fdw_v5, Fdw_u5, Fdw_6, Fdw_g6, Fdw_v6, Fdw_u6, Fdw_7, Fdw_g7, Fdw_v7, Fdw_u7, WdF_0, WdF_1, WdF_len, Wdw_ob, Wdw_0, Wdw_g0, Wdw_v0, Wdw_u0, Wdw_1, Wdw_g1, Wdw_v1, Wdw_u1, AuF_0, AuF_s0, AuF_1, AuF_2, AuF_3, AuF_4, AuF_5, AuF_6, AuF_7, AuF_8, AuF_len, Auw_ob, Auw_uob, Auw_1, Auw_g1, Auw_v1, Auw_u1, Auw_2, Auw_g2, Auw_v2, Auw_u2, Auw_3, Auw_g3, Auw_v3, Auw_u3, Auw_4, Auw_g4, Auw_v4, Auw_u4, Auw_5, Auw_g5, Auw_v5, Auw_u5, Auw_6, Auw_g6, Auw_v6, Auw_u6, Auw_7, Auw_g7, Auw_v7, Auw_u7, Auw_8, Auw_g8, Auw_v8, Auw_u8, SgF_0, SgF_s0, SgF_1, SgF_2, SgF_3, SgF_len, Sgw_ob, Sgw_uob, Sgw_1, Sgw_g1, Sgw_v1, Sgw_u1, Sgw_2, Sgw_g2, Sgw_v2, Sgw_u2, Sgw_3, Sgw_g3, Sgw_v3, Sgw_u3, RdF_0, RdF_1, RdF_2, RdF_s2, RdF_3, RdF_s3, RdF_4, RdF_s4, RdF_5, RdF_s5, RdF_6, RdF_s6, RdF_7, RdF_s7, RdF_8, RdF_s8, RdF_9, RdF_10, RdF_11, RdF_s11, RdF_12, RdF_s12, RdF_13, RdF_s13, RdF_14, RdF_s14, RdF_len, Rdw_ob, Rdw_uob, Rdw_9, Rdw_g9, Rdw_v9, Rdw_u9, Rdw_10, Rdw_g10, Rdw_v10, Rdw_u10, FlF_0, FlF_s0, FlF_1, FlF_s1, FlF_2, FlF_s2, FlF_3, FlF_s3, FlF_4, FlF_5, FlF_6, FlF_7, FlF_s7, FlF_8, FlF_s8, FlF_9, FlF_s9, FlF_10, FlF_s10, FlF_11, FlF_s11, FlF_len, Flw_ob, Flw_uob, Flw_pob, Flw_upob, Flw_p1, Flw_p2, Flw_p3, Flw_lob, Flw_ulob, Flw_l1, Flw_l2, Flw_l3, Flw_rob, Nat.reduceLT, rup_s, rup_rup]
  refine c_smallestStart (n := 6) Flw_atP xp (by decide) ⟨_, rfl, ?_⟩
  simp only [and_assoc, exists_and_left, exists_eq_left, exists_eq_left', Option.some.injEq, Value.int.injEq, Value.ref.injEq, Value.long.injEq, true_and, and_true, exists_eq, exists_true_left, FdF_0, FdF_s0, FdF_1, FdF_s1, FdF_2, FdF_s2, FdF_3, FdF_s3, FdF_4, FdF_5, FdF_6, FdF_7, FdF_len, Fdw_ob, Fdw_uob, Fdw_4, Fdw_g4, Fdw_v4, Fdw_u4, Fdw_5, Fdw_g5, Fdw_v5, Fdw_u5, Fdw_6, Fdw_g6, Fdw_v6, Fdw_u6, Fdw_7, Fdw_g7, Fdw_v7, Fdw_u7, WdF_0, WdF_1, WdF_len, Wdw_ob, Wdw_0, Wdw_g0, Wdw_v0, Wdw_u0, Wdw_1, Wdw_g1, Wdw_v1, Wdw_u1, AuF_0, AuF_s0, AuF_1, AuF_2, AuF_3, AuF_4, AuF_5, AuF_6, AuF_7, AuF_8, AuF_len, Auw_ob, Auw_uob, Auw_1, Auw_g1, Auw_v1, Auw_u1, Auw_2, Auw_g2, Auw_v2, Auw_u2, Auw_3, Auw_g3, Auw_v3, Auw_u3, Auw_4, Auw_g4, Auw_v4, Auw_u4, Auw_5, Auw_g5, Auw_v5, Auw_u5, Auw_6, Auw_g6, Auw_v6, Auw_u6, Auw_7, Auw_g7, Auw_v7, Auw_u7, Auw_8, Auw_g8, Auw_v8, Auw_u8, SgF_0, SgF_s0, SgF_1, SgF_2, SgF_3, SgF_len, Sgw_ob, Sgw_uob, Sgw_1, Sgw_g1, Sgw_v1, Sgw_u1, Sgw_2, Sgw_g2, Sgw_v2, Sgw_u2, Sgw_3, Sgw_g3, Sgw_v3, Sgw_u3, RdF_0, RdF_1, RdF_2, RdF_s2, RdF_3, RdF_s3, RdF_4, RdF_s4, RdF_5, RdF_s5, RdF_6, RdF_s6, RdF_7, RdF_s7, RdF_8, RdF_s8, RdF_9, RdF_10, RdF_11, RdF_s11, RdF_12, RdF_s12, RdF_13, RdF_s13, RdF_14, RdF_s14, RdF_len, Rdw_ob, Rdw_uob, Rdw_9, Rdw_g9, Rdw_v9, Rdw_u9, Rdw_10, Rdw_g10, Rdw_v10, Rdw_u10, FlF_0, FlF_s0, FlF_1, FlF_s1, FlF_2, FlF_s2, FlF_3, FlF_s3, FlF_4, FlF_5, FlF_6, FlF_7, FlF_s7, FlF_8, FlF_s8, FlF_9, FlF_s9, FlF_10, FlF_s10, FlF_11, FlF_s11, FlF_len, Flw_ob, Flw_uob, Flw_pob, Flw_upob, Flw_p1, Flw_p2, Flw_p3, Flw_lob, Flw_ulob, Flw_l1, Flw_l2, Flw_l3, Flw_rob, Nat.reduceLT, rup_s, rup_rup]
  simp only [show ∀ v w, upd (upd X.1 10 v) 11 w 3 = X.1 3 from fun _ _ => rfl, show ∀ v, upd X.1 10 v 11 = X.1 11 from fun _ => rfl, show ∀ v, upd X.1 10 v 3 = X.1 3 from fun _ => rfl]
  rw [em, x3, x10, x11, nI_1, pk_sub hle, nI_add]
  refine c_skip (X := X.2.2.2) (S := F.1.1) (held := F.1.2.1) (dig := F.1.2.2) (fc := fc) (fr := fr) (key := ky.1) hC.rd Flw_atR hC.fnd xr hF hS hky.2.1 (by omega) (by omega) i4 rfl (by omega) rfl (by omega) (fun X' fc' fr' g1 g2 => ⟨rfl, ?_⟩)
  rw [FL_R hd]
  simp only [and_assoc, exists_and_left, exists_eq_left, exists_eq_left', Option.some.injEq, Value.int.injEq, Value.ref.injEq, Value.long.injEq, true_and, and_true, exists_eq, exists_true_left, FdF_0, FdF_s0, FdF_1, FdF_s1, FdF_2, FdF_s2, FdF_3, FdF_s3, FdF_4, FdF_5, FdF_6, FdF_7, FdF_len, Fdw_ob, Fdw_uob, Fdw_4, Fdw_g4, Fdw_v4, Fdw_u4, Fdw_5, Fdw_g5, Fdw_v5, Fdw_u5, Fdw_6, Fdw_g6, Fdw_v6, Fdw_u6, Fdw_7, Fdw_g7, Fdw_v7, Fdw_u7, WdF_0, WdF_1, WdF_len, Wdw_ob, Wdw_0, Wdw_g0, Wdw_v0, Wdw_u0, Wdw_1, Wdw_g1, Wdw_v1, Wdw_u1, AuF_0, AuF_s0, AuF_1, AuF_2, AuF_3, AuF_4, AuF_5, AuF_6, AuF_7, AuF_8, AuF_len, Auw_ob, Auw_uob, Auw_1, Auw_g1, Auw_v1, Auw_u1, Auw_2, Auw_g2, Auw_v2, Auw_u2, Auw_3, Auw_g3, Auw_v3, Auw_u3, Auw_4, Auw_g4, Auw_v4, Auw_u4, Auw_5, Auw_g5, Auw_v5, Auw_u5, Auw_6, Auw_g6, Auw_v6, Auw_u6, Auw_7, Auw_g7, Auw_v7, Auw_u7, Auw_8, Auw_g8, Auw_v8, Auw_u8, SgF_0, SgF_s0, SgF_1, SgF_2, SgF_3, SgF_len, Sgw_ob, Sgw_uob, Sgw_1, Sgw_g1, Sgw_v1, Sgw_u1, Sgw_2, Sgw_g2, Sgw_v2, Sgw_u2, Sgw_3, Sgw_g3, Sgw_v3, Sgw_u3, RdF_0, RdF_1, RdF_2, RdF_s2, RdF_3, RdF_s3, RdF_4, RdF_s4, RdF_5, RdF_s5, RdF_6, RdF_s6, RdF_7, RdF_s7, RdF_8, RdF_s8, RdF_9, RdF_10, RdF_11, RdF_s11, RdF_12, RdF_s12, RdF_13, RdF_s13, RdF_14, RdF_s14, RdF_len, Rdw_ob, Rdw_uob, Rdw_9, Rdw_g9, Rdw_v9, Rdw_u9, Rdw_10, Rdw_g10, Rdw_v10, Rdw_u10, FlF_0, FlF_s0, FlF_1, FlF_s1, FlF_2, FlF_s2, FlF_3, FlF_s3, FlF_4, FlF_5, FlF_6, FlF_7, FlF_s7, FlF_8, FlF_s8, FlF_9, FlF_s9, FlF_10, FlF_s10, FlF_11, FlF_s11, FlF_len, Flw_ob, Flw_uob, Flw_pob, Flw_upob, Flw_p1, Flw_p2, Flw_p3, Flw_lob, Flw_ulob, Flw_l1, Flw_l2, Flw_l3, Flw_rob, Nat.reduceLT, rup_s, rup_rup]
  exact hK _ fc' fr' ⟨x0, x1, x2, rfl, xp, xl, g1, x7, x8, x9, rfl, rfl⟩ g2
theorem c_gaps_loop (hC : FCx W a gp au fd ac ar A) (hky : kyOk ky) (hB : B < 2 ^ 25) : ∀ (n g : Nat) (F : aF) (X : cFl) (fc : Nat → Int32) (fr : Nat → Nat → Int32), g + n = 6 → FWr f0 X ky F lg → FDr fc fr F.1.1.2.2.2.2.1 → fOk A F → fIv A ky B F.1 F.2.1 → dlv F → (∀ X' fc' fr', FWr f0 X' ky (aGaps A ky n F) lg → FDr fc' fr' (aGaps A ky n F).1.1.2.2.2.2.1 → K (Flw (Fdw W fd fc' fr') a gp au fd X') none) → zwp n_Fl_accept 2 [(0, .ref a), (5, .int (nI g))] [] 0 0 (Flw (Fdw W fd fc fr) a gp au fd X) K := by
  have hA := hC.2.2.1
  intro n
  induction n with
  | zero =>
    intro g F X fc fr hg hX hF hO hI hD hK
    obtain rfl : g = 6 := by omega
    exact b_Fl_accept_2 ⟨fun _ => b_Fl_accept_3 (hK X fc fr hX hF), fun z => absurd (by decide) z⟩
  | succ n ih =>
    intro g F X fc fr hg hX hF hO hI hD hK
    obtain ⟨x0, x1, x2, x3, xp, xl, xr, x7, x8, x9, x10, x11⟩ := id hX
    have eg : aGaps A ky (n + 1) F = if aCount F.2.2.1 F.2.1 ≤ ky.2.2.2 then F else aGaps A ky n (aDeliver A ky (aGap A ky F (aLeast F.2.2.1 F.2.1))) := rfl
    have hcl : aCount F.2.2.1 F.2.1 < 4000 := by
      have h1 := aCnt_le (l := F.2.2.1) (a := F.2.1) (n := aMost F.2.1 F.2.2.1 F.2.2.1.length - F.2.1)
      have h2 : aMost F.2.1 F.2.2.1 F.2.2.1.length ≤ 1040 := aMost_le hO.2.1 (fun i hi => Nat.le_trans (ends_le hO.2.2.1 hi) (by omega)) (Nat.le_refl _)
      unfold aCount
      omega
    have hbn := hky.2.2
    refine b_Fl_accept_2 ⟨fun z => absurd ((nI_leI (a := 6) (by decide) (by omega)).mp z) (by omega), fun _ => ?_⟩
    simp only [and_assoc, exists_and_left, exists_eq_left, exists_eq_left', Option.some.injEq, Value.int.injEq, Value.ref.injEq, Value.long.injEq, true_and, and_true, exists_eq, exists_true_left, FdF_0, FdF_s0, FdF_1, FdF_s1, FdF_2, FdF_s2, FdF_3, FdF_s3, FdF_4, FdF_5, FdF_6, FdF_7, FdF_len, Fdw_ob, Fdw_uob, Fdw_4, Fdw_g4, Fdw_v4, Fdw_u4, Fdw_5, Fdw_g5, Fdw_v5, Fdw_u5, Fdw_6, Fdw_g6, Fdw_v6, Fdw_u6, Fdw_7, Fdw_g7, Fdw_v7, Fdw_u7, WdF_0, WdF_1, WdF_len, Wdw_ob, Wdw_0, Wdw_g0, Wdw_v0, Wdw_u0, Wdw_1, Wdw_g1, Wdw_v1, Wdw_u1, AuF_0, AuF_s0, AuF_1, AuF_2, AuF_3, AuF_4, AuF_5, AuF_6, AuF_7, AuF_8, AuF_len, Auw_ob, Auw_uob, Auw_1, Auw_g1, Auw_v1, Auw_u1, Auw_2, Auw_g2, Auw_v2, Auw_u2, Auw_3, Auw_g3, Auw_v3, Auw_u3, Auw_4, Auw_g4, Auw_v4, Auw_u4, Auw_5, Auw_g5, Auw_v5, Auw_u5, Auw_6, Auw_g6, Auw_v6, Auw_u6, Auw_7, Auw_g7, Auw_v7, Auw_u7, Auw_8, Auw_g8, Auw_v8, Auw_u8, SgF_0, SgF_s0, SgF_1, SgF_2, SgF_3, SgF_len, Sgw_ob, Sgw_uob, Sgw_1, Sgw_g1, Sgw_v1, Sgw_u1, Sgw_2, Sgw_g2, Sgw_v2, Sgw_u2, Sgw_3, Sgw_g3, Sgw_v3, Sgw_u3, RdF_0, RdF_1, RdF_2, RdF_s2, RdF_3, RdF_s3, RdF_4, RdF_s4, RdF_5, RdF_s5, RdF_6, RdF_s6, RdF_7, RdF_s7, RdF_8, RdF_s8, RdF_9, RdF_10, RdF_11, RdF_s11, RdF_12, RdF_s12, RdF_13, RdF_s13, RdF_14, RdF_s14, RdF_len, Rdw_ob, Rdw_uob, Rdw_9, Rdw_g9, Rdw_v9, Rdw_u9, Rdw_10, Rdw_g10, Rdw_v10, Rdw_u10, FlF_0, FlF_s0, FlF_1, FlF_s1, FlF_2, FlF_s2, FlF_3, FlF_s3, FlF_4, FlF_5, FlF_6, FlF_7, FlF_s7, FlF_8, FlF_s8, FlF_9, FlF_s9, FlF_10, FlF_s10, FlF_11, FlF_s11, FlF_len, Flw_ob, Flw_uob, Flw_pob, Flw_upob, Flw_p1, Flw_p2, Flw_p3, Flw_lob, Flw_ulob, Flw_l1, Flw_l2, Flw_l3, Flw_rob, Nat.reduceLT, rup_s, rup_rup]
    refine c_coveredFrom (n := 6) Flw_atP xp (by decide) x3 hO.2.1 ⟨_, rfl, ?_⟩
    simp only [and_assoc, exists_and_left, exists_eq_left, exists_eq_left', Option.some.injEq, Value.int.injEq, Value.ref.injEq, Value.long.injEq, true_and, and_true, exists_eq, exists_true_left, FdF_0, FdF_s0, FdF_1, FdF_s1, FdF_2, FdF_s2, FdF_3, FdF_s3, FdF_4, FdF_5, FdF_6, FdF_7, FdF_len, Fdw_ob, Fdw_uob, Fdw_4, Fdw_g4, Fdw_v4, Fdw_u4, Fdw_5, Fdw_g5, Fdw_v5, Fdw_u5, Fdw_6, Fdw_g6, Fdw_v6, Fdw_u6, Fdw_7, Fdw_g7, Fdw_v7, Fdw_u7, WdF_0, WdF_1, WdF_len, Wdw_ob, Wdw_0, Wdw_g0, Wdw_v0, Wdw_u0, Wdw_1, Wdw_g1, Wdw_v1, Wdw_u1, AuF_0, AuF_s0, AuF_1, AuF_2, AuF_3, AuF_4, AuF_5, AuF_6, AuF_7, AuF_8, AuF_len, Auw_ob, Auw_uob, Auw_1, Auw_g1, Auw_v1, Auw_u1, Auw_2, Auw_g2, Auw_v2, Auw_u2, Auw_3, Auw_g3, Auw_v3, Auw_u3, Auw_4, Auw_g4, Auw_v4, Auw_u4, Auw_5, Auw_g5, Auw_v5, Auw_u5, Auw_6, Auw_g6, Auw_v6, Auw_u6, Auw_7, Auw_g7, Auw_v7, Auw_u7, Auw_8, Auw_g8, Auw_v8, Auw_u8, SgF_0, SgF_s0, SgF_1, SgF_2, SgF_3, SgF_len, Sgw_ob, Sgw_uob, Sgw_1, Sgw_g1, Sgw_v1, Sgw_u1, Sgw_2, Sgw_g2, Sgw_v2, Sgw_u2, Sgw_3, Sgw_g3, Sgw_v3, Sgw_u3, RdF_0, RdF_1, RdF_2, RdF_s2, RdF_3, RdF_s3, RdF_4, RdF_s4, RdF_5, RdF_s5, RdF_6, RdF_s6, RdF_7, RdF_s7, RdF_8, RdF_s8, RdF_9, RdF_10, RdF_11, RdF_s11, RdF_12, RdF_s12, RdF_13, RdF_s13, RdF_14, RdF_s14, RdF_len, Rdw_ob, Rdw_uob, Rdw_9, Rdw_g9, Rdw_v9, Rdw_u9, Rdw_10, Rdw_g10, Rdw_v10, Rdw_u10, FlF_0, FlF_s0, FlF_1, FlF_s1, FlF_2, FlF_s2, FlF_3, FlF_s3, FlF_4, FlF_5, FlF_6, FlF_7, FlF_s7, FlF_8, FlF_s8, FlF_9, FlF_s9, FlF_10, FlF_s10, FlF_11, FlF_s11, FlF_len, Flw_ob, Flw_uob, Flw_pob, Flw_upob, Flw_p1, Flw_p2, Flw_p3, Flw_lob, Flw_ulob, Flw_l1, Flw_l2, Flw_l3, Flw_rob, Nat.reduceLT, rup_s, rup_rup]
    rw [x2]
    refine ⟨fun z => b_Fl_accept_3 ?_, fun z => ?_⟩
    · rw [eg, if_pos ((nI_leI (by omega) (by omega)).mp z)] at hK
      exact hK X fc fr hX hF
    · have z : ¬ aCount F.2.2.1 F.2.1 ≤ ky.2.2.2 := fun t => z ((nI_leI (by omega) (by omega)).mpr t)
      rw [eg, if_neg z] at hK
      have hc : 0 < aCount F.2.2.1 F.2.1 := by omega
      obtain ⟨hL, hlt⟩ := aLeast_ok hO.2.2.1 hc
      refine c_skipGap hC hky hB hX hF hO.1 hO.2.1 hI hD hc (fun X1 fc1 fr1 g1 g2 => ⟨rfl, ⟨_, Flw_at.1⟩, ?_⟩)
      have hO1 := aGap_fok (ky := ky) hA hO hc
      have hI1 := fIv_gap (to := aLeast F.2.2.1 F.2.1) hA hI hL.1 (by omega)
      refine c_deliver hC hky hB g1 g2 hO1.1 hO1.2.1 hI1 (fun X2 fc2 fr2 k1 k2 => ⟨rfl, ?_⟩)
      rw [nI_1]
      exact ih (g + 1) _ X2 fc2 fr2 (by omega) k1 k2 (aDeliver_ok hA hO1) (fIv_del hA hO1.2.2.1 (by have := hO1.2.1; show (aGap A ky F (aLeast F.2.2.1 F.2.1)).2.1 + (1040 - (aGap A ky F (aLeast F.2.2.1 F.2.1)).2.1) ≤ 1040; omega) hI1) (dlv_ok hO1.2.2.1 hO1.2.1) hK
theorem Fdw_out {b : Nat} (h : b < fd ∨ fd + 5 ≤ b) : (Fdw W fd fc fr).2.2 b = W.2.2 b := bw_out h
theorem Flw_out {b : Nat} (h : b < a ∨ a + gp + 12 ≤ b) : (Flw W a gp au fd X).2.2 b = W.2.2 b := (bw_out (by omega)).trans (bw_out (by omega))
theorem c_accept {x2 x3 x4 : Int32} {src m fr0 : Nat} {f : Nat → Int32} {p : aP} (hC : FCx W a gp au fd ac ar A) (hW : FAt W a gp au fd X) (hFd : At W fd 5 (FdC fd fc fr)) (hky : kyOk ky) (hB : B < 2 ^ 25) (hX : FWr f0 X ky F lg) (hF : FDr fc fr F.1.1.2.2.2.2.1) (hO : fOk A F) (hI : fIv A ky B F.1 F.2.1) (h6 : F.2.2.1.length < 6) (hsrc : W.2.2 src = some (.inl (.byte, m, .inl f))) (hs1 : src < a ∨ a + gp + 12 ≤ src) (hs2 : src < fd ∨ fd + 5 ≤ src) (hm : fr0 + p.2.length ≤ m) (hm2 : m < 10000) (hp : aOk p) (hf : ∀ j, j < p.2.length → f (fr0 + j) = p.2.getD j 0) (h2 : x2 = nI fr0) (h3 : x3 = nI p.2.length) (h4 : x4 = nI p.1) (hK : ∀ X' fc' fr', FWr f0 X' ky (aHandle A ky F p) (addL 10 lg p) → FDr fc' fr' (aHandle A ky F p).1.1.2.2.2.2.1 → K (Flw (Fdw W fd fc' fr') a gp au fd X') none) : zcall n_Fl_accept [.ref a, .ref src, .int x2, .int x3, .int x4] W K := by
  subst h2 h3 h4
  have hA := hC.2.2.1
  have h40 := hp.2.2.1
  have h999 := hp.1
  obtain ⟨o1, o2, o3, o4⟩ := id hO
  obtain ⟨y0, y1, y2, y3, yp, yl, yr, y7, y8, y9, y10, y11⟩ := id hX
  have hsv : ∀ X fc fr, (Flw (Fdw W fd fc fr) a gp au fd X).2.2 src = some (.inl (.byte, m, .inl f)) := fun X fc fr => (Flw_out hs1).trans ((Fdw_out hs2).trans hsrc)
  have eW : W = Flw (Fdw W fd fc fr) a gp au fd X := by rw [Fdw_eq hFd, Flw_eq hW]
  unfold aHandle at hK
  rw [eW]
  refine e_Fl_accept (b_Fl_accept_0 ?_)
  simp only [and_assoc, exists_and_left, exists_eq_left, exists_eq_left', Option.some.injEq, Value.int.injEq, Value.ref.injEq, Value.long.injEq, true_and, and_true, exists_eq, exists_true_left, FdF_0, FdF_s0, FdF_1, FdF_s1, FdF_2, FdF_s2, FdF_3, FdF_s3, FdF_4, FdF_5, FdF_6, FdF_7, FdF_len, Fdw_ob, Fdw_uob, Fdw_4, Fdw_g4, Fdw_v4, Fdw_u4, Fdw_5, Fdw_g5, Fdw_v5, Fdw_u5, Fdw_6, Fdw_g6, Fdw_v6, Fdw_u6, Fdw_7, Fdw_g7, Fdw_v7, Fdw_u7, WdF_0, WdF_1, WdF_len, Wdw_ob, Wdw_0, Wdw_g0, Wdw_v0, Wdw_u0, Wdw_1, Wdw_g1, Wdw_v1, Wdw_u1, AuF_0, AuF_s0, AuF_1, AuF_2, AuF_3, AuF_4, AuF_5, AuF_6, AuF_7, AuF_8, AuF_len, Auw_ob, Auw_uob, Auw_1, Auw_g1, Auw_v1, Auw_u1, Auw_2, Auw_g2, Auw_v2, Auw_u2, Auw_3, Auw_g3, Auw_v3, Auw_u3, Auw_4, Auw_g4, Auw_v4, Auw_u4, Auw_5, Auw_g5, Auw_v5, Auw_u5, Auw_6, Auw_g6, Auw_v6, Auw_u6, Auw_7, Auw_g7, Auw_v7, Auw_u7, Auw_8, Auw_g8, Auw_v8, Auw_u8, SgF_0, SgF_s0, SgF_1, SgF_2, SgF_3, SgF_len, Sgw_ob, Sgw_uob, Sgw_1, Sgw_g1, Sgw_v1, Sgw_u1, Sgw_2, Sgw_g2, Sgw_v2, Sgw_u2, Sgw_3, Sgw_g3, Sgw_v3, Sgw_u3, RdF_0, RdF_1, RdF_2, RdF_s2, RdF_3, RdF_s3, RdF_4, RdF_s4, RdF_5, RdF_s5, RdF_6, RdF_s6, RdF_7, RdF_s7, RdF_8, RdF_s8, RdF_9, RdF_10, RdF_11, RdF_s11, RdF_12, RdF_s12, RdF_13, RdF_s13, RdF_14, RdF_s14, RdF_len, Rdw_ob, Rdw_uob, Rdw_9, Rdw_g9, Rdw_v9, Rdw_u9, Rdw_10, Rdw_g10, Rdw_v10, Rdw_u10, FlF_0, FlF_s0, FlF_1, FlF_s1, FlF_2, FlF_s2, FlF_3, FlF_s3, FlF_4, FlF_5, FlF_6, FlF_7, FlF_s7, FlF_8, FlF_s8, FlF_9, FlF_s9, FlF_10, FlF_s10, FlF_11, FlF_s11, FlF_len, Flw_ob, Flw_uob, Flw_pob, Flw_upob, Flw_p1, Flw_p2, Flw_p3, Flw_lob, Flw_ulob, Flw_l1, Flw_l2, Flw_l3, Flw_rob, Nat.reduceLT, rup_s, rup_rup]
  rw [y7, nI_1]
  refine c_add (n := 10) (p := p) (f := f) (fr := fr0) (m := m) Flw_atL yl (by decide) (hsv _ _ _) (by omega) hm hm2 hp hf rfl rfl rfl (fun c' r' g => ⟨rfl, ?_⟩)
  rw [Flw_bL]
  simp only [and_assoc, exists_and_left, exists_eq_left, exists_eq_left', Option.some.injEq, Value.int.injEq, Value.ref.injEq, Value.long.injEq, true_and, and_true, exists_eq, exists_true_left, FdF_0, FdF_s0, FdF_1, FdF_s1, FdF_2, FdF_s2, FdF_3, FdF_s3, FdF_4, FdF_5, FdF_6, FdF_7, FdF_len, Fdw_ob, Fdw_uob, Fdw_4, Fdw_g4, Fdw_v4, Fdw_u4, Fdw_5, Fdw_g5, Fdw_v5, Fdw_u5, Fdw_6, Fdw_g6, Fdw_v6, Fdw_u6, Fdw_7, Fdw_g7, Fdw_v7, Fdw_u7, WdF_0, WdF_1, WdF_len, Wdw_ob, Wdw_0, Wdw_g0, Wdw_v0, Wdw_u0, Wdw_1, Wdw_g1, Wdw_v1, Wdw_u1, AuF_0, AuF_s0, AuF_1, AuF_2, AuF_3, AuF_4, AuF_5, AuF_6, AuF_7, AuF_8, AuF_len, Auw_ob, Auw_uob, Auw_1, Auw_g1, Auw_v1, Auw_u1, Auw_2, Auw_g2, Auw_v2, Auw_u2, Auw_3, Auw_g3, Auw_v3, Auw_u3, Auw_4, Auw_g4, Auw_v4, Auw_u4, Auw_5, Auw_g5, Auw_v5, Auw_u5, Auw_6, Auw_g6, Auw_v6, Auw_u6, Auw_7, Auw_g7, Auw_v7, Auw_u7, Auw_8, Auw_g8, Auw_v8, Auw_u8, SgF_0, SgF_s0, SgF_1, SgF_2, SgF_3, SgF_len, Sgw_ob, Sgw_uob, Sgw_1, Sgw_g1, Sgw_v1, Sgw_u1, Sgw_2, Sgw_g2, Sgw_v2, Sgw_u2, Sgw_3, Sgw_g3, Sgw_v3, Sgw_u3, RdF_0, RdF_1, RdF_2, RdF_s2, RdF_3, RdF_s3, RdF_4, RdF_s4, RdF_5, RdF_s5, RdF_6, RdF_s6, RdF_7, RdF_s7, RdF_8, RdF_s8, RdF_9, RdF_10, RdF_11, RdF_s11, RdF_12, RdF_s12, RdF_13, RdF_s13, RdF_14, RdF_s14, RdF_len, Rdw_ob, Rdw_uob, Rdw_9, Rdw_g9, Rdw_v9, Rdw_u9, Rdw_10, Rdw_g10, Rdw_v10, Rdw_u10, FlF_0, FlF_s0, FlF_1, FlF_s1, FlF_2, FlF_s2, FlF_3, FlF_s3, FlF_4, FlF_5, FlF_6, FlF_7, FlF_s7, FlF_8, FlF_s8, FlF_9, FlF_s9, FlF_10, FlF_s10, FlF_11, FlF_s11, FlF_len, Flw_ob, Flw_uob, Flw_pob, Flw_upob, Flw_p1, Flw_p2, Flw_p3, Flw_lob, Flw_ulob, Flw_l1, Flw_l2, Flw_l3, Flw_rob, Nat.reduceLT, rup_s, rup_rup]
  simp only [show ∀ v, upd X.1 7 v 3 = X.1 3 from fun _ => rfl, show ∀ v, upd X.1 7 v 8 = X.1 8 from fun _ => rfl]
  rw [y3, y8, nI_add, nI_1]
  refine ⟨fun z => b_Fl_accept_1 ?_, fun z => ?_⟩
  · have z := (nI_ltI (by omega) (by omega)).mp z
    rw [if_neg (by omega)] at hK
    simp only [and_assoc, exists_and_left, exists_eq_left, exists_eq_left', Option.some.injEq, Value.int.injEq, Value.ref.injEq, Value.long.injEq, true_and, and_true, exists_eq, exists_true_left, FdF_0, FdF_s0, FdF_1, FdF_s1, FdF_2, FdF_s2, FdF_3, FdF_s3, FdF_4, FdF_5, FdF_6, FdF_7, FdF_len, Fdw_ob, Fdw_uob, Fdw_4, Fdw_g4, Fdw_v4, Fdw_u4, Fdw_5, Fdw_g5, Fdw_v5, Fdw_u5, Fdw_6, Fdw_g6, Fdw_v6, Fdw_u6, Fdw_7, Fdw_g7, Fdw_v7, Fdw_u7, WdF_0, WdF_1, WdF_len, Wdw_ob, Wdw_0, Wdw_g0, Wdw_v0, Wdw_u0, Wdw_1, Wdw_g1, Wdw_v1, Wdw_u1, AuF_0, AuF_s0, AuF_1, AuF_2, AuF_3, AuF_4, AuF_5, AuF_6, AuF_7, AuF_8, AuF_len, Auw_ob, Auw_uob, Auw_1, Auw_g1, Auw_v1, Auw_u1, Auw_2, Auw_g2, Auw_v2, Auw_u2, Auw_3, Auw_g3, Auw_v3, Auw_u3, Auw_4, Auw_g4, Auw_v4, Auw_u4, Auw_5, Auw_g5, Auw_v5, Auw_u5, Auw_6, Auw_g6, Auw_v6, Auw_u6, Auw_7, Auw_g7, Auw_v7, Auw_u7, Auw_8, Auw_g8, Auw_v8, Auw_u8, SgF_0, SgF_s0, SgF_1, SgF_2, SgF_3, SgF_len, Sgw_ob, Sgw_uob, Sgw_1, Sgw_g1, Sgw_v1, Sgw_u1, Sgw_2, Sgw_g2, Sgw_v2, Sgw_u2, Sgw_3, Sgw_g3, Sgw_v3, Sgw_u3, RdF_0, RdF_1, RdF_2, RdF_s2, RdF_3, RdF_s3, RdF_4, RdF_s4, RdF_5, RdF_s5, RdF_6, RdF_s6, RdF_7, RdF_s7, RdF_8, RdF_s8, RdF_9, RdF_10, RdF_11, RdF_s11, RdF_12, RdF_s12, RdF_13, RdF_s13, RdF_14, RdF_s14, RdF_len, Rdw_ob, Rdw_uob, Rdw_9, Rdw_g9, Rdw_v9, Rdw_u9, Rdw_10, Rdw_g10, Rdw_v10, Rdw_u10, FlF_0, FlF_s0, FlF_1, FlF_s1, FlF_2, FlF_s2, FlF_3, FlF_s3, FlF_4, FlF_5, FlF_6, FlF_7, FlF_s7, FlF_8, FlF_s8, FlF_9, FlF_s9, FlF_10, FlF_s10, FlF_11, FlF_s11, FlF_len, Flw_ob, Flw_uob, Flw_pob, Flw_upob, Flw_p1, Flw_p2, Flw_p3, Flw_lob, Flw_ulob, Flw_l1, Flw_l2, Flw_l3, Flw_rob, Nat.reduceLT, rup_s, rup_rup]
    refine c_add (n := 6) (p := p) (f := f) (fr := fr0) (m := m) Flw_atP yp (by decide) (hsv _ _ _) (by omega) hm hm2 hp hf rfl rfl rfl (fun c1 r1 g1 => ⟨rfl, ⟨_, by rw [Flw_bP]; exact Flw_at.1⟩, ?_⟩)
    rw [Flw_bP]
    rw [addL, if_pos h6] at g1
    have hO1 : fOk A (F.1, F.2.1, F.2.2.1 ++ [p], F.2.2.2.1, F.2.2.2.2.1, F.2.2.2.2.2.1, F.2.2.2.2.2.2.1 + 1, F.2.2.2.2.2.2.2) := ⟨o1, o2, g1.2.2.1, g1.2.1⟩
    refine c_deliver (F := (F.1, F.2.1, F.2.2.1 ++ [p], F.2.2.2.1, F.2.2.2.2.1, F.2.2.2.2.2.1, F.2.2.2.2.2.2.1 + 1, F.2.2.2.2.2.2.2)) (lg := addL 10 lg p) hC hky hB ⟨y0, y1, y2, y3, g1, g, yr, rfl, y8, y9, y10, y11⟩ hF o1 o2 hI (fun X2 fc2 fr2 k1 k2 => ⟨rfl, ?_⟩)
    refine c_gaps_loop hC hky hB 6 0 _ X2 fc2 fr2 rfl k1 k2 (aDeliver_ok hA hO1) (fIv_del hA hO1.2.2.1 (by show F.2.1 + (1040 - F.2.1) ≤ 1040; omega) hI) (dlv_ok hO1.2.2.1 o2) hK
  · have z : ¬ F.2.1 < p.1 + p.2.length := fun t => z ((nI_ltI (by omega) (by omega)).mpr t)
    rw [if_pos (by omega)] at hK
    exact hK _ fc fr ⟨y0, y1, y2, y3, yp, g, yr, rfl, rfl, y9, y10, y11⟩ hF
theorem c_fend (hC : FCx W a gp au fd ac ar A) (hW : FAt W a gp au fd X) (hFd : At W fd 5 (FdC fd fc fr)) (hky : kyOk ky) (hB : B < 2 ^ 25) (hX : FWr f0 X ky F lg) (hF : FDr fc fr F.1.1.2.2.2.2.1) (hS : sOk A F.1.1) (ho : F.2.1 ≤ 1040) (hI : fIv A ky B F.1 F.2.1) (hK : ∀ X' fc' fr', X'.1 = X.1 → FDr fc' fr' (aRel A ky.2.2.1 ky.1 F.1.1 F.1.2.1 F.1.2.2 F.2.1).2.2.2.2.1 → K (Flw (Fdw W fd fc' fr') a gp au fd X') none) : zcall n_Fl_end [.ref a] W K := by
  obtain ⟨y0, y1, y2, y3, yp, yl, yr, y7, y8, y9, y10, y11⟩ := id hX
  obtain ⟨i1, i2, i3, i4⟩ := id hI
  have eW : W = Flw (Fdw W fd fc fr) a gp au fd X := by rw [Fdw_eq hFd, Flw_eq hW]
  rw [eW]
  refine e_Fl_end (b_Fl_end_0 ?_)
  simp only [and_assoc, exists_and_left, exists_eq_left, exists_eq_left', Option.some.injEq, Value.int.injEq, Value.ref.injEq, Value.long.injEq, true_and, and_true, exists_eq, exists_true_left, FdF_0, FdF_s0, FdF_1, FdF_s1, FdF_2, FdF_s2, FdF_3, FdF_s3, FdF_4, FdF_5, FdF_6, FdF_7, FdF_len, Fdw_ob, Fdw_uob, Fdw_4, Fdw_g4, Fdw_v4, Fdw_u4, Fdw_5, Fdw_g5, Fdw_v5, Fdw_u5, Fdw_6, Fdw_g6, Fdw_v6, Fdw_u6, Fdw_7, Fdw_g7, Fdw_v7, Fdw_u7, WdF_0, WdF_1, WdF_len, Wdw_ob, Wdw_0, Wdw_g0, Wdw_v0, Wdw_u0, Wdw_1, Wdw_g1, Wdw_v1, Wdw_u1, AuF_0, AuF_s0, AuF_1, AuF_2, AuF_3, AuF_4, AuF_5, AuF_6, AuF_7, AuF_8, AuF_len, Auw_ob, Auw_uob, Auw_1, Auw_g1, Auw_v1, Auw_u1, Auw_2, Auw_g2, Auw_v2, Auw_u2, Auw_3, Auw_g3, Auw_v3, Auw_u3, Auw_4, Auw_g4, Auw_v4, Auw_u4, Auw_5, Auw_g5, Auw_v5, Auw_u5, Auw_6, Auw_g6, Auw_v6, Auw_u6, Auw_7, Auw_g7, Auw_v7, Auw_u7, Auw_8, Auw_g8, Auw_v8, Auw_u8, SgF_0, SgF_s0, SgF_1, SgF_2, SgF_3, SgF_len, Sgw_ob, Sgw_uob, Sgw_1, Sgw_g1, Sgw_v1, Sgw_u1, Sgw_2, Sgw_g2, Sgw_v2, Sgw_u2, Sgw_3, Sgw_g3, Sgw_v3, Sgw_u3, RdF_0, RdF_1, RdF_2, RdF_s2, RdF_3, RdF_s3, RdF_4, RdF_s4, RdF_5, RdF_s5, RdF_6, RdF_s6, RdF_7, RdF_s7, RdF_8, RdF_s8, RdF_9, RdF_10, RdF_11, RdF_s11, RdF_12, RdF_s12, RdF_13, RdF_s13, RdF_14, RdF_s14, RdF_len, Rdw_ob, Rdw_uob, Rdw_9, Rdw_g9, Rdw_v9, Rdw_u9, Rdw_10, Rdw_g10, Rdw_v10, Rdw_u10, FlF_0, FlF_s0, FlF_1, FlF_s1, FlF_2, FlF_s2, FlF_3, FlF_s3, FlF_4, FlF_5, FlF_6, FlF_7, FlF_s7, FlF_8, FlF_s8, FlF_9, FlF_s9, FlF_10, FlF_s10, FlF_11, FlF_s11, FlF_len, Flw_ob, Flw_uob, Flw_pob, Flw_upob, Flw_p1, Flw_p2, Flw_p3, Flw_lob, Flw_ulob, Flw_l1, Flw_l2, Flw_l3, Flw_rob, Nat.reduceLT, rup_s, rup_rup]
  rw [y3]
  refine c_release (X := X.2.2.2) (S := F.1.1) (held := F.1.2.1) (dig := F.1.2.2) (fc := fc) (fr := fr) (key := ky.1) hC.rd Flw_atR hC.fnd yr hF hS hky.2.1 (by omega) (by omega) i4 rfl (by omega) (fun X' fc' fr' g1 g2 => ⟨rfl, ?_⟩)
  rw [FL_R hC.2.2.2.1]
  exact hK _ fc' fr' rfl g2
theorem c_fbegin {x1 x2 x3 x4 : Int32} {fh : List aFd} (hW : FAt W a gp au fd X) (h1 : x1 = ky.1) (h2 : x2 = nI ky.2.1) (h3 : x3 = nI ky.2.2.1) (h4 : x4 = nI ky.2.2.2) (hK : ∀ X', FWr 0 X' ky (aBeg fh) [] → K (Flw W a gp au fd X') none) : zcall n_Fl_begin [.ref a, .int x1, .int x2, .int x3, .int x4] W K := by
  subst h1 h2 h3 h4
  rw [← Flw_eq hW]
  refine e_Fl_begin (b_Fl_begin_0 ?_)
  simp only [and_assoc, exists_and_left, exists_eq_left, exists_eq_left', Option.some.injEq, Value.int.injEq, Value.ref.injEq, Value.long.injEq, true_and, and_true, exists_eq, exists_true_left, FdF_0, FdF_s0, FdF_1, FdF_s1, FdF_2, FdF_s2, FdF_3, FdF_s3, FdF_4, FdF_5, FdF_6, FdF_7, FdF_len, Fdw_ob, Fdw_uob, Fdw_4, Fdw_g4, Fdw_v4, Fdw_u4, Fdw_5, Fdw_g5, Fdw_v5, Fdw_u5, Fdw_6, Fdw_g6, Fdw_v6, Fdw_u6, Fdw_7, Fdw_g7, Fdw_v7, Fdw_u7, WdF_0, WdF_1, WdF_len, Wdw_ob, Wdw_0, Wdw_g0, Wdw_v0, Wdw_u0, Wdw_1, Wdw_g1, Wdw_v1, Wdw_u1, AuF_0, AuF_s0, AuF_1, AuF_2, AuF_3, AuF_4, AuF_5, AuF_6, AuF_7, AuF_8, AuF_len, Auw_ob, Auw_uob, Auw_1, Auw_g1, Auw_v1, Auw_u1, Auw_2, Auw_g2, Auw_v2, Auw_u2, Auw_3, Auw_g3, Auw_v3, Auw_u3, Auw_4, Auw_g4, Auw_v4, Auw_u4, Auw_5, Auw_g5, Auw_v5, Auw_u5, Auw_6, Auw_g6, Auw_v6, Auw_u6, Auw_7, Auw_g7, Auw_v7, Auw_u7, Auw_8, Auw_g8, Auw_v8, Auw_u8, SgF_0, SgF_s0, SgF_1, SgF_2, SgF_3, SgF_len, Sgw_ob, Sgw_uob, Sgw_1, Sgw_g1, Sgw_v1, Sgw_u1, Sgw_2, Sgw_g2, Sgw_v2, Sgw_u2, Sgw_3, Sgw_g3, Sgw_v3, Sgw_u3, RdF_0, RdF_1, RdF_2, RdF_s2, RdF_3, RdF_s3, RdF_4, RdF_s4, RdF_5, RdF_s5, RdF_6, RdF_s6, RdF_7, RdF_s7, RdF_8, RdF_s8, RdF_9, RdF_10, RdF_11, RdF_s11, RdF_12, RdF_s12, RdF_13, RdF_s13, RdF_14, RdF_s14, RdF_len, Rdw_ob, Rdw_uob, Rdw_9, Rdw_g9, Rdw_v9, Rdw_u9, Rdw_10, Rdw_g10, Rdw_v10, Rdw_u10, FlF_0, FlF_s0, FlF_1, FlF_s1, FlF_2, FlF_s2, FlF_3, FlF_s3, FlF_4, FlF_5, FlF_6, FlF_7, FlF_s7, FlF_8, FlF_s8, FlF_9, FlF_s9, FlF_10, FlF_s10, FlF_11, FlF_s11, FlF_len, Flw_ob, Flw_uob, Flw_pob, Flw_upob, Flw_p1, Flw_p2, Flw_p3, Flw_lob, Flw_ulob, Flw_l1, Flw_l2, Flw_l3, Flw_rob, Nat.reduceLT, rup_s, rup_rup]
  refine b_Fl_begin_1 ?_
  simp only [and_assoc, exists_and_left, exists_eq_left, exists_eq_left', Option.some.injEq, Value.int.injEq, Value.ref.injEq, Value.long.injEq, true_and, and_true, exists_eq, exists_true_left, FdF_0, FdF_s0, FdF_1, FdF_s1, FdF_2, FdF_s2, FdF_3, FdF_s3, FdF_4, FdF_5, FdF_6, FdF_7, FdF_len, Fdw_ob, Fdw_uob, Fdw_4, Fdw_g4, Fdw_v4, Fdw_u4, Fdw_5, Fdw_g5, Fdw_v5, Fdw_u5, Fdw_6, Fdw_g6, Fdw_v6, Fdw_u6, Fdw_7, Fdw_g7, Fdw_v7, Fdw_u7, WdF_0, WdF_1, WdF_len, Wdw_ob, Wdw_0, Wdw_g0, Wdw_v0, Wdw_u0, Wdw_1, Wdw_g1, Wdw_v1, Wdw_u1, AuF_0, AuF_s0, AuF_1, AuF_2, AuF_3, AuF_4, AuF_5, AuF_6, AuF_7, AuF_8, AuF_len, Auw_ob, Auw_uob, Auw_1, Auw_g1, Auw_v1, Auw_u1, Auw_2, Auw_g2, Auw_v2, Auw_u2, Auw_3, Auw_g3, Auw_v3, Auw_u3, Auw_4, Auw_g4, Auw_v4, Auw_u4, Auw_5, Auw_g5, Auw_v5, Auw_u5, Auw_6, Auw_g6, Auw_v6, Auw_u6, Auw_7, Auw_g7, Auw_v7, Auw_u7, Auw_8, Auw_g8, Auw_v8, Auw_u8, SgF_0, SgF_s0, SgF_1, SgF_2, SgF_3, SgF_len, Sgw_ob, Sgw_uob, Sgw_1, Sgw_g1, Sgw_v1, Sgw_u1, Sgw_2, Sgw_g2, Sgw_v2, Sgw_u2, Sgw_3, Sgw_g3, Sgw_v3, Sgw_u3, RdF_0, RdF_1, RdF_2, RdF_s2, RdF_3, RdF_s3, RdF_4, RdF_s4, RdF_5, RdF_s5, RdF_6, RdF_s6, RdF_7, RdF_s7, RdF_8, RdF_s8, RdF_9, RdF_10, RdF_11, RdF_s11, RdF_12, RdF_s12, RdF_13, RdF_s13, RdF_14, RdF_s14, RdF_len, Rdw_ob, Rdw_uob, Rdw_9, Rdw_g9, Rdw_v9, Rdw_u9, Rdw_10, Rdw_g10, Rdw_v10, Rdw_u10, FlF_0, FlF_s0, FlF_1, FlF_s1, FlF_2, FlF_s2, FlF_3, FlF_s3, FlF_4, FlF_5, FlF_6, FlF_7, FlF_s7, FlF_8, FlF_s8, FlF_9, FlF_s9, FlF_10, FlF_s10, FlF_11, FlF_s11, FlF_len, Flw_ob, Flw_uob, Flw_pob, Flw_upob, Flw_p1, Flw_p2, Flw_p3, Flw_lob, Flw_ulob, Flw_l1, Flw_l2, Flw_l3, Flw_rob, Nat.reduceLT, rup_s, rup_rup, SgF_s0]
  refine c_Rbegin (fl := ky.2.2.1) (fh := fh) Flw_atR rfl (fun X' g => ⟨rfl, ?_⟩)
  rw [Flw_bR]
  simp only [and_assoc, exists_and_left, exists_eq_left, exists_eq_left', Option.some.injEq, Value.int.injEq, Value.ref.injEq, Value.long.injEq, true_and, and_true, exists_eq, exists_true_left, FdF_0, FdF_s0, FdF_1, FdF_s1, FdF_2, FdF_s2, FdF_3, FdF_s3, FdF_4, FdF_5, FdF_6, FdF_7, FdF_len, Fdw_ob, Fdw_uob, Fdw_4, Fdw_g4, Fdw_v4, Fdw_u4, Fdw_5, Fdw_g5, Fdw_v5, Fdw_u5, Fdw_6, Fdw_g6, Fdw_v6, Fdw_u6, Fdw_7, Fdw_g7, Fdw_v7, Fdw_u7, WdF_0, WdF_1, WdF_len, Wdw_ob, Wdw_0, Wdw_g0, Wdw_v0, Wdw_u0, Wdw_1, Wdw_g1, Wdw_v1, Wdw_u1, AuF_0, AuF_s0, AuF_1, AuF_2, AuF_3, AuF_4, AuF_5, AuF_6, AuF_7, AuF_8, AuF_len, Auw_ob, Auw_uob, Auw_1, Auw_g1, Auw_v1, Auw_u1, Auw_2, Auw_g2, Auw_v2, Auw_u2, Auw_3, Auw_g3, Auw_v3, Auw_u3, Auw_4, Auw_g4, Auw_v4, Auw_u4, Auw_5, Auw_g5, Auw_v5, Auw_u5, Auw_6, Auw_g6, Auw_v6, Auw_u6, Auw_7, Auw_g7, Auw_v7, Auw_u7, Auw_8, Auw_g8, Auw_v8, Auw_u8, SgF_0, SgF_s0, SgF_1, SgF_2, SgF_3, SgF_len, Sgw_ob, Sgw_uob, Sgw_1, Sgw_g1, Sgw_v1, Sgw_u1, Sgw_2, Sgw_g2, Sgw_v2, Sgw_u2, Sgw_3, Sgw_g3, Sgw_v3, Sgw_u3, RdF_0, RdF_1, RdF_2, RdF_s2, RdF_3, RdF_s3, RdF_4, RdF_s4, RdF_5, RdF_s5, RdF_6, RdF_s6, RdF_7, RdF_s7, RdF_8, RdF_s8, RdF_9, RdF_10, RdF_11, RdF_s11, RdF_12, RdF_s12, RdF_13, RdF_s13, RdF_14, RdF_s14, RdF_len, Rdw_ob, Rdw_uob, Rdw_9, Rdw_g9, Rdw_v9, Rdw_u9, Rdw_10, Rdw_g10, Rdw_v10, Rdw_u10, FlF_0, FlF_s0, FlF_1, FlF_s1, FlF_2, FlF_s2, FlF_3, FlF_s3, FlF_4, FlF_5, FlF_6, FlF_7, FlF_s7, FlF_8, FlF_s8, FlF_9, FlF_s9, FlF_10, FlF_s10, FlF_11, FlF_s11, FlF_len, Flw_ob, Flw_uob, Flw_pob, Flw_upob, Flw_p1, Flw_p2, Flw_p3, Flw_lob, Flw_ulob, Flw_l1, Flw_l2, Flw_l3, Flw_rob, Nat.reduceLT, rup_s, rup_rup]
  refine b_Fl_begin_2 ?_
  simp only [and_assoc, exists_and_left, exists_eq_left, exists_eq_left', Option.some.injEq, Value.int.injEq, Value.ref.injEq, Value.long.injEq, true_and, and_true, exists_eq, exists_true_left, FdF_0, FdF_s0, FdF_1, FdF_s1, FdF_2, FdF_s2, FdF_3, FdF_s3, FdF_4, FdF_5, FdF_6, FdF_7, FdF_len, Fdw_ob, Fdw_uob, Fdw_4, Fdw_g4, Fdw_v4, Fdw_u4, Fdw_5, Fdw_g5, Fdw_v5, Fdw_u5, Fdw_6, Fdw_g6, Fdw_v6, Fdw_u6, Fdw_7, Fdw_g7, Fdw_v7, Fdw_u7, WdF_0, WdF_1, WdF_len, Wdw_ob, Wdw_0, Wdw_g0, Wdw_v0, Wdw_u0, Wdw_1, Wdw_g1, Wdw_v1, Wdw_u1, AuF_0, AuF_s0, AuF_1, AuF_2, AuF_3, AuF_4, AuF_5, AuF_6, AuF_7, AuF_8, AuF_len, Auw_ob, Auw_uob, Auw_1, Auw_g1, Auw_v1, Auw_u1, Auw_2, Auw_g2, Auw_v2, Auw_u2, Auw_3, Auw_g3, Auw_v3, Auw_u3, Auw_4, Auw_g4, Auw_v4, Auw_u4, Auw_5, Auw_g5, Auw_v5, Auw_u5, Auw_6, Auw_g6, Auw_v6, Auw_u6, Auw_7, Auw_g7, Auw_v7, Auw_u7, Auw_8, Auw_g8, Auw_v8, Auw_u8, SgF_0, SgF_s0, SgF_1, SgF_2, SgF_3, SgF_len, Sgw_ob, Sgw_uob, Sgw_1, Sgw_g1, Sgw_v1, Sgw_u1, Sgw_2, Sgw_g2, Sgw_v2, Sgw_u2, Sgw_3, Sgw_g3, Sgw_v3, Sgw_u3, RdF_0, RdF_1, RdF_2, RdF_s2, RdF_3, RdF_s3, RdF_4, RdF_s4, RdF_5, RdF_s5, RdF_6, RdF_s6, RdF_7, RdF_s7, RdF_8, RdF_s8, RdF_9, RdF_10, RdF_11, RdF_s11, RdF_12, RdF_s12, RdF_13, RdF_s13, RdF_14, RdF_s14, RdF_len, Rdw_ob, Rdw_uob, Rdw_9, Rdw_g9, Rdw_v9, Rdw_u9, Rdw_10, Rdw_g10, Rdw_v10, Rdw_u10, FlF_0, FlF_s0, FlF_1, FlF_s1, FlF_2, FlF_s2, FlF_3, FlF_s3, FlF_4, FlF_5, FlF_6, FlF_7, FlF_s7, FlF_8, FlF_s8, FlF_9, FlF_s9, FlF_10, FlF_s10, FlF_11, FlF_s11, FlF_len, Flw_ob, Flw_uob, Flw_pob, Flw_upob, Flw_p1, Flw_p2, Flw_p3, Flw_lob, Flw_ulob, Flw_l1, Flw_l2, Flw_l3, Flw_rob, Nat.reduceLT, rup_s, rup_rup]
  exact hK _ ⟨rfl, rfl, rfl, rfl, ⟨rfl, Nat.zero_le _, fun p hp => (by cases hp), fun i hi => absurd hi (Nat.not_lt_zero _)⟩, ⟨rfl, Nat.zero_le _, fun p hp => (by cases hp), fun i hi => absurd hi (Nat.not_lt_zero _)⟩, g, rfl, rfl, rfl, rfl, rfl⟩
end CAcc
