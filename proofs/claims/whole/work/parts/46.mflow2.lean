/-! THE MATHEMATICAL FLOW, and the model's deliversAll() -/
/-- key, policy, flags, bound of a flow -/
abbrev aKy : Type := Int32 × Nat × Nat × Nat
/-- what is read and held; the offset; the pieces; conflicts, gaps, bytes of gaps, segments, old ones -/
abbrev aF : Type := aH × Nat × List aP × Nat × Nat × Nat × Nat × Nat
def byteN (p : aP) (o : Nat) : Nat := (aByte p o).toNatClampNeg
def aDel (A : aAU) (ky : aKy) (ps : List aP) : Nat → aH × Nat × Nat → aH × Nat × Nat
  | 0, s => s
  | n + 1, s => match aChosen ky.2.1 ps s.2.1 with
    | none => s
    | some j => aDel A ky ps n (aTake A ky.2.2.1 ky.1 s.1 (byteN (aPc ps j) s.2.1) s.2.1, s.2.1 + 1, s.2.2 + (if aConf ps s.2.1 then 1 else 0))
def aDeliver (A : aAU) (ky : aKy) (F : aF) : aF :=
  let s := aDel A ky F.2.2.1 (1040 - F.2.1) (F.1, F.2.1, F.2.2.2.1)
  (s.1, s.2.1, aDrop s.2.1 F.2.2.1, s.2.2, F.2.2.2.2)
theorem byteN_ok {p : aP} {o : Nat} (h : aOk p) (hc : aCov p o = true) : aByte p o = nI (byteN p o) ∧ 32 ≤ byteN p o ∧ byteN p o ≤ 126 := by
  obtain ⟨-, -, -, h4⟩ := h
  have hcv := aCov_iff.mp hc
  have hm : aByte p o ∈ p.2 := by
    unfold aByte
    rw [List.getD_eq_getElem?_getD, List.getElem?_eq_getElem (by omega)]
    exact List.getElem_mem _
  obtain ⟨n, e, h1, h2⟩ := h4 _ hm
  have : byteN p o = n := by unfold byteN; rw [e]; exact nI_clamp (by omega)
  rw [this]
  exact ⟨e, h1, h2⟩
theorem no_cov {ps : List aP} (h : ∀ p ∈ ps, aOk p) {o : Nat} (ho : 1040 ≤ o) : aAny ps o = false := by
  cases hc : aAny ps o with
  | false => rfl
  | true =>
    obtain ⟨i, hi, hcv⟩ := aAny_iff.mp hc
    have := aCov_iff.mp hcv
    have := ends_le h hi
    omega
theorem aDel_off {A : aAU} {ky : aKy} {ps : List aP} : ∀ {n : Nat} {s : aH × Nat × Nat}, s.2.1 + n ≤ 1040 → s.2.1 ≤ (aDel A ky ps n s).2.1 ∧ (aDel A ky ps n s).2.1 ≤ 1040
  | 0, s, h => ⟨Nat.le_refl _, h⟩
  | n + 1, s, h => by
    unfold aDel
    split
    · exact ⟨Nat.le_refl _, by omega⟩
    · rename_i j hj
      have ih := aDel_off (A := A) (ky := ky) (ps := ps) (n := n) (s := (aTake A ky.2.2.1 ky.1 s.1 (byteN (aPc ps j) s.2.1) s.2.1, s.2.1 + 1, s.2.2 + (if aConf ps s.2.1 then 1 else 0))) (by show s.2.1 + 1 + n ≤ 1040; omega)
      exact ⟨Nat.le_trans (Nat.le_succ _) ih.1, ih.2⟩
theorem aDel_ok {A : aAU} {ky : aKy} {ps : List aP} (hA : auOk A) : ∀ {n : Nat} {s : aH × Nat × Nat}, s.2.1 + n ≤ 1040 → sOk A s.1.1 → sOk A (aDel A ky ps n s).1.1
  | 0, s, _, h => h
  | n + 1, s, hn, h => by
    unfold aDel
    split
    · exact h
    · rename_i j hj
      exact aDel_ok hA (by show s.2.1 + 1 + n ≤ 1040; omega) (aTake_ok hA h (by omega))
/-- behind a delivery nothing covers the offset -/
theorem aDel_end {A : aAU} {ky : aKy} {ps : List aP} (hp : ∀ p ∈ ps, aOk p) : ∀ {n : Nat} {s : aH × Nat × Nat}, s.2.1 + n = 1040 → aAny ps (aDel A ky ps n s).2.1 = false
  | 0, s, h => no_cov hp (by show 1040 ≤ s.2.1; omega)
  | n + 1, s, h => by
    unfold aDel
    split
    · rename_i hn; exact aChosen_none.mp hn
    · rename_i j hj
      exact aDel_end hp (by show s.2.1 + 1 + n = 1040; omega)
def MFw (f0 n0 : Nat) (c P g : Nat → Int32) (ky : aKy) (F : aF) : Prop := MR f0 n0 c P g F.1.1 ∧ MHd g ky.2.2.1 F.1.2.1 F.1.2.2 F.2.1 ∧ g 4 = nI F.2.1 ∧ MP g F.2.2.1 ∧ g 15 = nI F.2.2.2.1 ∧ g 16 = nI F.2.2.2.2.1 ∧ g 17 = nI F.2.2.2.2.2.1 ∧ g 13 = nI F.2.2.2.2.2.2.1 ∧ g 14 = nI F.2.2.2.2.2.2.2 ∧ g 0 = ky.1 ∧ g 1 = nI ky.2.1 ∧ g 2 = nI ky.2.2.1 ∧ g 3 = nI ky.2.2.2
def kyOk (ky : aKy) : Prop := ky.2.1 ≤ 3 ∧ ky.2.2.1 < 16 ∧ 1 ≤ ky.2.2.2 ∧ ky.2.2.2 ≤ 40
/-- what a flow's handling leaves: the log -/
def GLg (g g' : Nat → Int32) : Prop := g' 21 = g 21 ∧ ∀ i, 290 ≤ i → g' i = g i
theorem GLg.rf {g : Nat → Int32} : GLg g g := ⟨rfl, fun _ _ => rfl⟩
theorem GLg.tr {g g1 g2 : Nat → Int32} (h : GLg g g1) (h' : GLg g1 g2) : GLg g g2 := ⟨h'.1.trans h.1, fun i hi => (h'.2 i hi).trans (h.2 i hi)⟩
theorem GFd.lg {g g' : Nat → Int32} (h : GFd g g') : GLg g g' := ⟨h 21 (by decide) (by decide) (by decide) (by decide) (by decide) (by decide) (by decide) (by decide) (by decide) (by decide) (by decide), fun i hi => h i (by omega) (by omega) (by omega) (by omega) (by omega) (by omega) (by omega) (by omega) (by omega) (by omega) (by omega)⟩
theorem GLg.up {g g' : Nat → Int32} {k : Nat} {x : Int32} (h : GLg g g') (hk : k < 21) : GLg g (upd g' k x) := ⟨(if_neg (by omega)).trans h.1, fun i hi => (if_neg (by omega)).trans (h.2 i hi)⟩
theorem MP_congr {g g' : Nat → Int32} {l : List aP} (h : MP g l) (e5 : g' 5 = g 5) (e : ∀ i, 38 ≤ i → i < 290 → g' i = g i) : MP g' l := by
  obtain ⟨h1, h2, h3, h4⟩ := h
  refine ⟨e5.trans h1, h2, h3, fun i hi => PC_congr (h4 i hi) (fun j hj => e _ (by omega) ?_)⟩
  have := (h3 _ (aPc_mem hi)).2.2.1
  omega
section MFlow2
variable {w : jx_W} {q : Nat} {c : Nat → Int32} {r : Nat → Nat → Int32} {K : jx_Q} {P g : Nat → Int32} {b : Nat} {A : aAU}
theorem MR_congr2 {f0 n0 : Nat} {c P g g' : Nat → Int32} {S : aS} (h : MR f0 n0 c P g S) (e : ∀ i, (i = 6 ∨ i = 7 ∨ i = 8 ∨ i = 12 ∨ i = 18 ∨ i = 19 ∨ i = 20 ∨ 22 ≤ i) → i < 38 → g' i = g i) : MR f0 n0 c P g' S := by
  obtain ⟨r1, r2, r3, r4, r5, r6, r7, r8, r9, r10⟩ := h
  exact ⟨(e 6 (by decide) (by decide)).trans r1, ⟨(e 7 (by decide) (by decide)).trans r2.1, (e 8 (by decide) (by decide)).trans r2.2.1, r2.2.2⟩, MH_congr r3 (e 18 (by decide) (by decide)) (fun i h1 h2 => e i (by omega) h2), (e 12 (by decide) (by decide)).trans r4, r5, (e 19 (by decide) (by decide)).trans r6, (e 20 (by decide) (by decide)).trans r7, r8, r9, r10⟩
theorem MHd_congr {g g' : Nat → Int32} {fl held dig index : Nat} (h : MHd g fl held dig index) (e9 : g' 9 = g 9) (e10 : g' 10 = g 10) (e11 : g' 11 = g 11) : MHd g' fl held dig index := ⟨e9.trans h.1, h.2.1, fun z => ⟨(h.2.2.1 z).1, (h.2.2.1 z).2.1, e10.trans (h.2.2.1 z).2.2⟩, fun z => ⟨e11.trans (h.2.2.2 z).1, (h.2.2.2 z).2⟩⟩
theorem f_dall_end {f0 n0 : Nat} {ky : aKy} {ps : List aP} {e1 e2 e3 e4 : Nat} {s : aH × Nat × Nat} (hf : b + 710 ≤ 22416) (hb : c 12 = nI b) (hs : s.2.1 ≤ 1040) (hno : aAny ps s.2.1 = false) (hF : MFw f0 n0 c P g ky (s.1, s.2.1, ps, s.2.2, e1, e2, e3, e4))
    (hK : ∀ g', MFw f0 n0 c P g' ky (s.1, s.2.1, aDrop s.2.1 ps, s.2.2, e1, e2, e3, e4) → GLg g g' → K (mw w q c (rup r 0 (pgf P b 710 g'))) none) : zwp n_M_deliversAll 1 [(0, .ref q), (1, .int (oM (chA s.2.1 ky.2.1 ps s.2.1 ps.length)))] [] 0 0 (mw w q c (rup r 0 (pgf P b 710 g))) K := by
  obtain ⟨r1, r2, r3, r4, r5, r6, r7, r8, r9, r10, r11, r12, r13⟩ := hF
  dsimp only at r1 r2 r3 r4 r5 r6 r7 r8 r9 r10 r11 r12 r13
  rw [(chA_none (pol := ky.2.1) (l := ps) (Nat.le_refl s.2.1)).mpr hno]
  refine b_M_deliversAll_1 ⟨fun _ => b_M_deliversAll_4 ?_, fun z => absurd rfl z⟩
  simp only [and_assoc, exists_and_left, exists_eq_left, exists_eq_left', Option.some.injEq, Value.int.injEq, Value.ref.injEq, Value.long.injEq, true_and, and_true, exists_eq, exists_true_left, mw_ob, mw_ia0, mw_ia2, mw_ia5, mw_ia6, mw_ia7, mw_ia8, mw_ia9, mw_ia10, mw_ia11, mw_ia15, mw_ia16, mF_0, mF_1, mF_2, mF_3, mF_4, mF_5, mF_6, mF_7, mF_8, mF_9, mF_10, mF_11, mF_12, mF_13, mF_14, mF_15, mF_16, mF_len, mF_s1, mF_s3, mF_s4, mF_s12, mF_s13, mF_s14, mw_uob, mw_u0, mw_u2, mw_u5, mw_u6, mw_u7, mw_u8, mw_u9, mw_u10, mw_u11, mw_u15, mw_u16, Nat.reduceLT, rup_s, rup_rup]
  refine f_drops hb hf r3 (by omega) r4 (fun g' d1 d2 => ?_)
  simp only [and_assoc, exists_and_left, exists_eq_left, exists_eq_left', Option.some.injEq, Value.int.injEq, Value.ref.injEq, Value.long.injEq, true_and, and_true, exists_eq, exists_true_left, mw_ob, mw_ia0, mw_ia2, mw_ia5, mw_ia6, mw_ia7, mw_ia8, mw_ia9, mw_ia10, mw_ia11, mw_ia15, mw_ia16, mF_0, mF_1, mF_2, mF_3, mF_4, mF_5, mF_6, mF_7, mF_8, mF_9, mF_10, mF_11, mF_12, mF_13, mF_14, mF_15, mF_16, mF_len, mF_s1, mF_s3, mF_s4, mF_s12, mF_s13, mF_s14, mw_uob, mw_u0, mw_u2, mw_u5, mw_u6, mw_u7, mw_u8, mw_u9, mw_u10, mw_u11, mw_u15, mw_u16, Nat.reduceLT, rup_s, rup_rup]
  have lo : ∀ i, i ≠ 5 → i < 38 → g' i = g i := fun i a1 a2 => d2 i a1 (Or.inl a2)
  exact hK g' ⟨MR_congr2 r1 (fun i a1 a2 => lo i (by omega) a2), MHd_congr r2 (lo 9 (by decide) (by decide)) (lo 10 (by decide) (by decide)) (lo 11 (by decide) (by decide)), (lo 4 (by decide) (by decide)).trans r3, d1, (lo 15 (by decide) (by decide)).trans r5, (lo 16 (by decide) (by decide)).trans r6, (lo 17 (by decide) (by decide)).trans r7, (lo 13 (by decide) (by decide)).trans r8, (lo 14 (by decide) (by decide)).trans r9, (lo 0 (by decide) (by decide)).trans r10, (lo 1 (by decide) (by decide)).trans r11, (lo 2 (by decide) (by decide)).trans r12, (lo 3 (by decide) (by decide)).trans r13⟩ ⟨lo 21 (by decide) (by decide), fun i hi => d2 i (by omega) (Or.inr hi)⟩
theorem f_dall_loop {f0 n0 : Nat} {ky : aKy} {ps : List aP} {e1 e2 e3 e4 : Nat} (hf : b + 710 ≤ 22416) (hb1 : 186 ≤ b) (hA : auOk A) (hky : kyOk ky) : ∀ (n : Nat) (s : aH × Nat × Nat) (c P g : Nat → Int32), s.2.1 + n = 1040 → c 12 = nI b → MA c r A → PWd P A → sOk A s.1.1 → MFw f0 n0 c P g ky (s.1, s.2.1, ps, s.2.2, e1, e2, e3, e4) →
    (∀ c' P' g', MFw f0 n0 c' P' g' ky ((aDel A ky ps n s).1, (aDel A ky ps n s).2.1, aDrop (aDel A ky ps n s).2.1 ps, (aDel A ky ps n s).2.2, e1, e2, e3, e4) → CFr c c' → PFr P P' → GLg g g' → K (mw w q c' (rup r 0 (pgf P' b 710 g'))) none) →
    zwp n_M_deliversAll 1 [(0, .ref q), (1, .int (oM (chA s.2.1 ky.2.1 ps s.2.1 ps.length)))] [] 0 0 (mw w q c (rup r 0 (pgf P b 710 g))) K := by
  intro n
  induction n with
  | zero =>
    intro s c P g hn hb hm hW hS hF hK
    exact f_dall_end hf hb (by omega) (no_cov hF.2.2.2.1.2.2.1 (by omega)) hF (fun g' m1 m2 => hK c P g' m1 CFr.rf PFr.rf m2)
  | succ n ih =>
    intro s c P g hn hb hm hW hS hF hK
    cases hch : aChosen ky.2.1 ps s.2.1 with
    | none =>
      have e : aDel A ky ps (n + 1) s = s := by
        show (match aChosen ky.2.1 ps s.2.1 with | none => s | some j => _) = s
        rw [hch]
      rw [e] at hK
      exact f_dall_end hf hb (by omega) (aChosen_none.mp hch) hF (fun g' m1 m2 => hK c P g' m1 CFr.rf PFr.rf m2)
    | some j =>
      obtain ⟨s', hs'⟩ : ∃ s' : aH × Nat × Nat, s' = (aTake A ky.2.2.1 ky.1 s.1 (byteN (aPc ps j) s.2.1) s.2.1, s.2.1 + 1, s.2.2 + (if aConf ps s.2.1 then 1 else 0)) := ⟨_, rfl⟩
      have e : aDel A ky ps (n + 1) s = aDel A ky ps n s' := by
        show (match aChosen ky.2.1 ps s.2.1 with | none => s | some j => _) = _
        rw [hch, hs']
      rw [e] at hK
      obtain ⟨r1, r2, r3, r4, r5, r6, r7, r8, r9, r10, r11, r12, r13⟩ := hF
      dsimp only at r1 r2 r3 r4 r5 r6 r7 r8 r9 r10 r11 r12 r13
      have hl6 := r4.2.1
      obtain ⟨hj, hcov⟩ := aCh_lt hch
      obtain ⟨by1, by2, by3⟩ := byteN_ok (r4.2.2.1 _ (aPc_mem hj)) hcov
      have hcA : chA s.2.1 ky.2.1 ps s.2.1 ps.length = some j := by unfold chA; rw [if_pos (Nat.le_refl _)]; exact hch
      rw [hcA]
      have hso : s'.2.1 = s.2.1 + 1 := by rw [hs']
      have go : ∀ y : Int32, y = nI (if aConf ps s.2.1 then 1 else 0) → zwp n_M_deliversAll 3 [(0, .ref q), (2, .int (nI (byteN (aPc ps j) s.2.1)))] [.int y, .int 15, .ref q] 0 0 (mw w q c (rup r 0 (pgf P b 710 g))) K := fun y hy => by
        refine b_M_deliversAll_3 ?_
        simp only [and_assoc, exists_and_left, exists_eq_left, exists_eq_left', Option.some.injEq, Value.int.injEq, Value.ref.injEq, Value.long.injEq, true_and, and_true, exists_eq, exists_true_left, mw_ob, mw_ia0, mw_ia2, mw_ia5, mw_ia6, mw_ia7, mw_ia8, mw_ia9, mw_ia10, mw_ia11, mw_ia15, mw_ia16, mF_0, mF_1, mF_2, mF_3, mF_4, mF_5, mF_6, mF_7, mF_8, mF_9, mF_10, mF_11, mF_12, mF_13, mF_14, mF_15, mF_16, mF_len, mF_s1, mF_s3, mF_s4, mF_s12, mF_s13, mF_s14, mw_uob, mw_u0, mw_u2, mw_u5, mw_u6, mw_u7, mw_u8, mw_u9, mw_u10, mw_u11, mw_u15, mw_u16, Nat.reduceLT, rup_s, rup_rup]
        refine f_adds hb (i := 15) rfl (by decide) hf ?_
        simp only [and_assoc, exists_and_left, exists_eq_left, exists_eq_left', Option.some.injEq, Value.int.injEq, Value.ref.injEq, Value.long.injEq, true_and, and_true, exists_eq, exists_true_left, mw_ob, mw_ia0, mw_ia2, mw_ia5, mw_ia6, mw_ia7, mw_ia8, mw_ia9, mw_ia10, mw_ia11, mw_ia15, mw_ia16, mF_0, mF_1, mF_2, mF_3, mF_4, mF_5, mF_6, mF_7, mF_8, mF_9, mF_10, mF_11, mF_12, mF_13, mF_14, mF_15, mF_16, mF_len, mF_s1, mF_s3, mF_s4, mF_s12, mF_s13, mF_s14, mw_uob, mw_u0, mw_u2, mw_u5, mw_u6, mw_u7, mw_u8, mw_u9, mw_u10, mw_u11, mw_u15, mw_u16, Nat.reduceLT, rup_s, rup_rup]
        refine f_of hb (i := 4) rfl (by decide) hf ?_
        simp only [and_assoc, exists_and_left, exists_eq_left, exists_eq_left', Option.some.injEq, Value.int.injEq, Value.ref.injEq, Value.long.injEq, true_and, and_true, exists_eq, exists_true_left, mw_ob, mw_ia0, mw_ia2, mw_ia5, mw_ia6, mw_ia7, mw_ia8, mw_ia9, mw_ia10, mw_ia11, mw_ia15, mw_ia16, mF_0, mF_1, mF_2, mF_3, mF_4, mF_5, mF_6, mF_7, mF_8, mF_9, mF_10, mF_11, mF_12, mF_13, mF_14, mF_15, mF_16, mF_len, mF_s1, mF_s3, mF_s4, mF_s12, mF_s13, mF_s14, mw_uob, mw_u0, mw_u2, mw_u5, mw_u6, mw_u7, mw_u8, mw_u9, mw_u10, mw_u11, mw_u15, mw_u16, Nat.reduceLT, rup_s, rup_rup]
        refine f_adds hb (i := 4) rfl (by decide) hf ?_
        simp only [and_assoc, exists_and_left, exists_eq_left, exists_eq_left', Option.some.injEq, Value.int.injEq, Value.ref.injEq, Value.long.injEq, true_and, and_true, exists_eq, exists_true_left, mw_ob, mw_ia0, mw_ia2, mw_ia5, mw_ia6, mw_ia7, mw_ia8, mw_ia9, mw_ia10, mw_ia11, mw_ia15, mw_ia16, mF_0, mF_1, mF_2, mF_3, mF_4, mF_5, mF_6, mF_7, mF_8, mF_9, mF_10, mF_11, mF_12, mF_13, mF_14, mF_15, mF_16, mF_len, mF_s1, mF_s3, mF_s4, mF_s12, mF_s13, mF_s14, mw_uob, mw_u0, mw_u2, mw_u5, mw_u6, mw_u7, mw_u8, mw_u9, mw_u10, mw_u11, mw_u15, mw_u16, Nat.reduceLT, rup_s, rup_rup]
        rw [show upd g 15 (g 15 + y) 4 = nI s.2.1 from r3, nI_1]
        obtain ⟨g1, hg1⟩ : ∃ g1, g1 = upd (upd g 15 (g 15 + y)) 4 (nI (s.2.1 + 1)) := ⟨_, rfl⟩
        rw [← hg1]
        have g1o : ∀ i, i ≠ 15 → i ≠ 4 → g1 i = g i := fun i a1 a2 => by rw [hg1]; exact (if_neg a2).trans (if_neg a1)
        refine f_delivers (S := s.1.1) (held := s.1.2.1) (dig := s.1.2.2) hb hf hb1 hA hm hW ((g1o 2 (by decide) (by decide)).trans r12) hky.2.1 hS (MR_congr2 r1 (fun i a1 a2 => g1o i (by omega) (by omega))) (MHd_congr r2 (g1o 9 (by decide) (by decide)) (g1o 10 (by decide) (by decide)) (g1o 11 (by decide) (by decide))) rfl (by omega) rfl (by omega) (fun c' P' g' m1 m2 m3 m4 m5 => ?_)
        simp only [and_assoc, exists_and_left, exists_eq_left, exists_eq_left', Option.some.injEq, Value.int.injEq, Value.ref.injEq, Value.long.injEq, true_and, and_true, exists_eq, exists_true_left, mw_ob, mw_ia0, mw_ia2, mw_ia5, mw_ia6, mw_ia7, mw_ia8, mw_ia9, mw_ia10, mw_ia11, mw_ia15, mw_ia16, mF_0, mF_1, mF_2, mF_3, mF_4, mF_5, mF_6, mF_7, mF_8, mF_9, mF_10, mF_11, mF_12, mF_13, mF_14, mF_15, mF_16, mF_len, mF_s1, mF_s3, mF_s4, mF_s12, mF_s13, mF_s14, mw_uob, mw_u0, mw_u2, mw_u5, mw_u6, mw_u7, mw_u8, mw_u9, mw_u10, mw_u11, mw_u15, mw_u16, Nat.reduceLT, rup_s, rup_rup]
        have hb' := m3.b hb
        have k5 : ∀ i, i ≠ 15 → i ≠ 4 → i < 6 ∨ i = 13 ∨ i = 14 ∨ i = 16 ∨ i = 17 ∨ 38 ≤ i → g' i = g i := fun i a1 a2 a3 => (m5 i (by omega) (by omega) (by omega) (by omega) (by omega) (by omega) (by omega) (by omega) (by omega) (by omega) (by omega)).trans (g1o i a1 a2)
        have k4 : g' 4 = nI (s.2.1 + 1) := (m5 4 (by decide) (by decide) (by decide) (by decide) (by decide) (by decide) (by decide) (by decide) (by decide) (by decide) (by decide)).trans (by rw [hg1]; rfl)
        have k15 : g' 15 = nI (s.2.2 + (if aConf ps s.2.1 then 1 else 0)) := (m5 15 (by decide) (by decide) (by decide) (by decide) (by decide) (by decide) (by decide) (by decide) (by decide) (by decide) (by decide)).trans (by rw [hg1]; show g 15 + y = _; rw [r5, hy, nI_add])
        rw [show g1 0 = ky.1 from (g1o 0 (by decide) (by decide)).trans r10] at m1 m2
        have mp : MP g' ps := MP_congr r4 (k5 5 (by decide) (by decide) (by decide)) (fun i h1 h2 => k5 i (by omega) (by omega) (by omega))
        have hF' : MFw f0 n0 c' P' g' ky (s'.1, s'.2.1, ps, s'.2.2, e1, e2, e3, e4) := by
          rw [hs']
          exact ⟨m1, m2, k4, mp, k15, (k5 16 (by decide) (by decide) (by decide)).trans r6, (k5 17 (by decide) (by decide) (by decide)).trans r7, (k5 13 (by decide) (by decide) (by decide)).trans r8, (k5 14 (by decide) (by decide) (by decide)).trans r9, (k5 0 (by decide) (by decide) (by decide)).trans r10, (k5 1 (by decide) (by decide) (by decide)).trans r11, (k5 2 (by decide) (by decide) (by decide)).trans r12, (k5 3 (by decide) (by decide) (by decide)).trans r13⟩
        refine f_of hb' (i := 4) rfl (by decide) hf ?_
        simp only [and_assoc, exists_and_left, exists_eq_left, exists_eq_left', Option.some.injEq, Value.int.injEq, Value.ref.injEq, Value.long.injEq, true_and, and_true, exists_eq, exists_true_left, mw_ob, mw_ia0, mw_ia2, mw_ia5, mw_ia6, mw_ia7, mw_ia8, mw_ia9, mw_ia10, mw_ia11, mw_ia15, mw_ia16, mF_0, mF_1, mF_2, mF_3, mF_4, mF_5, mF_6, mF_7, mF_8, mF_9, mF_10, mF_11, mF_12, mF_13, mF_14, mF_15, mF_16, mF_len, mF_s1, mF_s3, mF_s4, mF_s12, mF_s13, mF_s14, mw_uob, mw_u0, mw_u2, mw_u5, mw_u6, mw_u7, mw_u8, mw_u9, mw_u10, mw_u11, mw_u15, mw_u16, Nat.reduceLT, rup_s, rup_rup]
        rw [k4]
        refine f_chosen (a := s.2.1 + 1) (pol := ky.2.1) hb' hf mp rfl (by omega) k4 (by omega) ((k5 1 (by decide) (by decide) (by decide)).trans r11) hky.1 ?_
        simp only [and_assoc, exists_and_left, exists_eq_left, exists_eq_left', Option.some.injEq, Value.int.injEq, Value.ref.injEq, Value.long.injEq, true_and, and_true, exists_eq, exists_true_left, mw_ob, mw_ia0, mw_ia2, mw_ia5, mw_ia6, mw_ia7, mw_ia8, mw_ia9, mw_ia10, mw_ia11, mw_ia15, mw_ia16, mF_0, mF_1, mF_2, mF_3, mF_4, mF_5, mF_6, mF_7, mF_8, mF_9, mF_10, mF_11, mF_12, mF_13, mF_14, mF_15, mF_16, mF_len, mF_s1, mF_s3, mF_s4, mF_s12, mF_s13, mF_s14, mw_uob, mw_u0, mw_u2, mw_u5, mw_u6, mw_u7, mw_u8, mw_u9, mw_u10, mw_u11, mw_u15, mw_u16, Nat.reduceLT, rup_s, rup_rup]
        have hgl : GLg g g' := ⟨(m5 21 (by decide) (by decide) (by decide) (by decide) (by decide) (by decide) (by decide) (by decide) (by decide) (by decide) (by decide)).trans (g1o 21 (by decide) (by decide)), fun i hi => k5 i (by omega) (by omega) (by omega)⟩
        have hrec := ih s' c' P' g' (by omega) hb' (hm.fr m3) (hW.fr m4) (by rw [hs']; exact aTake_ok hA hS (by omega)) hF' (fun c2 P2 g2 t1 t2 t3 t4 => hK c2 P2 g2 t1 (m3.tr t2) (m4.tr t3) (hgl.tr t4))
        rw [hso] at hrec
        exact hrec
      refine b_M_deliversAll_1 ⟨fun z => absurd z (nI_ne9 (by omega)), fun _ => ?_⟩
      simp only [and_assoc, exists_and_left, exists_eq_left, exists_eq_left', Option.some.injEq, Value.int.injEq, Value.ref.injEq, Value.long.injEq, true_and, and_true, exists_eq, exists_true_left, mw_ob, mw_ia0, mw_ia2, mw_ia5, mw_ia6, mw_ia7, mw_ia8, mw_ia9, mw_ia10, mw_ia11, mw_ia15, mw_ia16, mF_0, mF_1, mF_2, mF_3, mF_4, mF_5, mF_6, mF_7, mF_8, mF_9, mF_10, mF_11, mF_12, mF_13, mF_14, mF_15, mF_16, mF_len, mF_s1, mF_s3, mF_s4, mF_s12, mF_s13, mF_s14, mw_uob, mw_u0, mw_u2, mw_u5, mw_u6, mw_u7, mw_u8, mw_u9, mw_u10, mw_u11, mw_u15, mw_u16, Nat.reduceLT, rup_s, rup_rup]
      refine f_of hb (i := 4) rfl (by decide) hf ?_
      simp only [and_assoc, exists_and_left, exists_eq_left, exists_eq_left', Option.some.injEq, Value.int.injEq, Value.ref.injEq, Value.long.injEq, true_and, and_true, exists_eq, exists_true_left, mw_ob, mw_ia0, mw_ia2, mw_ia5, mw_ia6, mw_ia7, mw_ia8, mw_ia9, mw_ia10, mw_ia11, mw_ia15, mw_ia16, mF_0, mF_1, mF_2, mF_3, mF_4, mF_5, mF_6, mF_7, mF_8, mF_9, mF_10, mF_11, mF_12, mF_13, mF_14, mF_15, mF_16, mF_len, mF_s1, mF_s3, mF_s4, mF_s12, mF_s13, mF_s14, mw_uob, mw_u0, mw_u2, mw_u5, mw_u6, mw_u7, mw_u8, mw_u9, mw_u10, mw_u11, mw_u15, mw_u16, Nat.reduceLT, rup_s, rup_rup]
      rw [r3]
      refine f_byteOf hb hf r4 hj rfl rfl hcov ?_
      simp only [and_assoc, exists_and_left, exists_eq_left, exists_eq_left', Option.some.injEq, Value.int.injEq, Value.ref.injEq, Value.long.injEq, true_and, and_true, exists_eq, exists_true_left, mw_ob, mw_ia0, mw_ia2, mw_ia5, mw_ia6, mw_ia7, mw_ia8, mw_ia9, mw_ia10, mw_ia11, mw_ia15, mw_ia16, mF_0, mF_1, mF_2, mF_3, mF_4, mF_5, mF_6, mF_7, mF_8, mF_9, mF_10, mF_11, mF_12, mF_13, mF_14, mF_15, mF_16, mF_len, mF_s1, mF_s3, mF_s4, mF_s12, mF_s13, mF_s14, mw_uob, mw_u0, mw_u2, mw_u5, mw_u6, mw_u7, mw_u8, mw_u9, mw_u10, mw_u11, mw_u15, mw_u16, Nat.reduceLT, rup_s, rup_rup]
      refine f_of hb (i := 4) rfl (by decide) hf ?_
      simp only [and_assoc, exists_and_left, exists_eq_left, exists_eq_left', Option.some.injEq, Value.int.injEq, Value.ref.injEq, Value.long.injEq, true_and, and_true, exists_eq, exists_true_left, mw_ob, mw_ia0, mw_ia2, mw_ia5, mw_ia6, mw_ia7, mw_ia8, mw_ia9, mw_ia10, mw_ia11, mw_ia15, mw_ia16, mF_0, mF_1, mF_2, mF_3, mF_4, mF_5, mF_6, mF_7, mF_8, mF_9, mF_10, mF_11, mF_12, mF_13, mF_14, mF_15, mF_16, mF_len, mF_s1, mF_s3, mF_s4, mF_s12, mF_s13, mF_s14, mw_uob, mw_u0, mw_u2, mw_u5, mw_u6, mw_u7, mw_u8, mw_u9, mw_u10, mw_u11, mw_u15, mw_u16, Nat.reduceLT, rup_s, rup_rup]
      rw [r3, by1]
      refine f_isConflict hb hf r4 rfl (by omega) r3 (Nat.le_refl _) ?_
      simp only [and_assoc, exists_and_left, exists_eq_left, exists_eq_left', Option.some.injEq, Value.int.injEq, Value.ref.injEq, Value.long.injEq, true_and, and_true, exists_eq, exists_true_left, mw_ob, mw_ia0, mw_ia2, mw_ia5, mw_ia6, mw_ia7, mw_ia8, mw_ia9, mw_ia10, mw_ia11, mw_ia15, mw_ia16, mF_0, mF_1, mF_2, mF_3, mF_4, mF_5, mF_6, mF_7, mF_8, mF_9, mF_10, mF_11, mF_12, mF_13, mF_14, mF_15, mF_16, mF_len, mF_s1, mF_s3, mF_s4, mF_s12, mF_s13, mF_s14, mw_uob, mw_u0, mw_u2, mw_u5, mw_u6, mw_u7, mw_u8, mw_u9, mw_u10, mw_u11, mw_u15, mw_u16, Nat.reduceLT, rup_s, rup_rup]
      cases hcf : aConf ps s.2.1 with
      | true => exact if0 (go _ (by rw [hcf]; rfl))
      | false => exact ⟨fun _ => b_M_deliversAll_2 (go _ (by rw [hcf]; rfl)), fun z => absurd rfl z⟩
theorem f_deliversAll {f0 n0 : Nat} {ky : aKy} {F : aF} (hb : c 12 = nI b) (hf : b + 710 ≤ 22416) (hb1 : 186 ≤ b) (hA : auOk A) (hky : kyOk ky) (hm : MA c r A) (hW : PWd P A) (hS : sOk A F.1.1) (ho : F.2.1 ≤ 1040) (hF : MFw f0 n0 c P g ky F)
    (hK : ∀ c' P' g', MFw f0 n0 c' P' g' ky (aDeliver A ky F) → CFr c c' → PFr P P' → GLg g g' → K (mw w q c' (rup r 0 (pgf P' b 710 g'))) none) : zcall n_M_deliversAll [.ref q] (mw w q c (rup r 0 (pgf P b 710 g))) K := by
  obtain ⟨H, off, ps, cf, e1, e2, e3, e4⟩ := F
  refine e_M_deliversAll (b_M_deliversAll_0 ?_)
  simp only [and_assoc, exists_and_left, exists_eq_left, exists_eq_left', Option.some.injEq, Value.int.injEq, Value.ref.injEq, Value.long.injEq, true_and, and_true, exists_eq, exists_true_left, mw_ob, mw_ia0, mw_ia2, mw_ia5, mw_ia6, mw_ia7, mw_ia8, mw_ia9, mw_ia10, mw_ia11, mw_ia15, mw_ia16, mF_0, mF_1, mF_2, mF_3, mF_4, mF_5, mF_6, mF_7, mF_8, mF_9, mF_10, mF_11, mF_12, mF_13, mF_14, mF_15, mF_16, mF_len, mF_s1, mF_s3, mF_s4, mF_s12, mF_s13, mF_s14, mw_uob, mw_u0, mw_u2, mw_u5, mw_u6, mw_u7, mw_u8, mw_u9, mw_u10, mw_u11, mw_u15, mw_u16, Nat.reduceLT, rup_s, rup_rup]
  refine f_of hb (i := 4) rfl (by decide) hf ?_
  simp only [and_assoc, exists_and_left, exists_eq_left, exists_eq_left', Option.some.injEq, Value.int.injEq, Value.ref.injEq, Value.long.injEq, true_and, and_true, exists_eq, exists_true_left, mw_ob, mw_ia0, mw_ia2, mw_ia5, mw_ia6, mw_ia7, mw_ia8, mw_ia9, mw_ia10, mw_ia11, mw_ia15, mw_ia16, mF_0, mF_1, mF_2, mF_3, mF_4, mF_5, mF_6, mF_7, mF_8, mF_9, mF_10, mF_11, mF_12, mF_13, mF_14, mF_15, mF_16, mF_len, mF_s1, mF_s3, mF_s4, mF_s12, mF_s13, mF_s14, mw_uob, mw_u0, mw_u2, mw_u5, mw_u6, mw_u7, mw_u8, mw_u9, mw_u10, mw_u11, mw_u15, mw_u16, Nat.reduceLT, rup_s, rup_rup]
  rw [hF.2.2.1]
  have ho : off ≤ 1040 := ho
  refine f_chosen (a := off) (pol := ky.2.1) hb hf hF.2.2.2.1 rfl (by show off < _; omega) hF.2.2.1 (by show off < _; omega) hF.2.2.2.2.2.2.2.2.2.2.1 hky.1 ?_
  simp only [and_assoc, exists_and_left, exists_eq_left, exists_eq_left', Option.some.injEq, Value.int.injEq, Value.ref.injEq, Value.long.injEq, true_and, and_true, exists_eq, exists_true_left, mw_ob, mw_ia0, mw_ia2, mw_ia5, mw_ia6, mw_ia7, mw_ia8, mw_ia9, mw_ia10, mw_ia11, mw_ia15, mw_ia16, mF_0, mF_1, mF_2, mF_3, mF_4, mF_5, mF_6, mF_7, mF_8, mF_9, mF_10, mF_11, mF_12, mF_13, mF_14, mF_15, mF_16, mF_len, mF_s1, mF_s3, mF_s4, mF_s12, mF_s13, mF_s14, mw_uob, mw_u0, mw_u2, mw_u5, mw_u6, mw_u7, mw_u8, mw_u9, mw_u10, mw_u11, mw_u15, mw_u16, Nat.reduceLT, rup_s, rup_rup]
  exact f_dall_loop hf hb1 hA hky (1040 - off) (H, off, cf) c P g (by show off + _ = _; omega) hb hm hW hS hF hK
end MFlow2
