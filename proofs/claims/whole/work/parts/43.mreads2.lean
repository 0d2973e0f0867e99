/-! THE MODEL: reads(..) -/
def MH (g : Nat → Int32) (h : aHi) : Prop := g 18 = nI h.length ∧ ∀ k, k < 8 → g (22 + k) = (hiA h k).1 ∧ g (30 + k) = (hiA h k).2
/-- the model's flow g, its page's header P, its numbers c hold the state S of reading; n0: how many finds there were when 'made' became 0; f0: what 'foundWords' had besides -/
def MR (f0 n0 : Nat) (c P g : Nat → Int32) (S : aS) : Prop := g 6 = nI S.1 ∧ PM g S.2.1 ∧ MH g S.2.2.1 ∧ g 12 = oob S.2.2.2.1 ∧ HF P S.2.2.2.2.1 ∧ g 19 = nI S.2.2.2.2.2.1 ∧ g 20 = nI S.2.2.2.2.2.2.1 ∧ c 14 = nI (f0 ||| S.2.2.2.2.2.2.2) ∧ n0 ≤ 4294967296 + S.2.2.2.2.1.length ∧ c 13 = nI (4294967296 + S.2.2.2.2.1.length - n0)
/-- what reading leaves as it was: of the flow, of the numbers -/
def GFr (g g' : Nat → Int32) : Prop := ∀ i, i ≠ 6 → i ≠ 7 → i ≠ 8 → i ≠ 12 → i ≠ 18 → i ≠ 19 → i ≠ 20 → (i < 22 ∨ 38 ≤ i) → g' i = g i
def CFr (c c' : Nat → Int32) : Prop := ∀ i, i ≠ 13 → i ≠ 14 → c' i = c i
theorem GFr.rf {g : Nat → Int32} : GFr g g := fun _ _ _ _ _ _ _ _ _ => rfl
theorem GFr.tr {g g1 g2 : Nat → Int32} (h : GFr g g1) (h' : GFr g1 g2) : GFr g g2 := fun i a b c d e f k l => (h' i a b c d e f k l).trans (h i a b c d e f k l)
theorem CFr.rf {c : Nat → Int32} : CFr c c := fun _ _ _ => rfl
theorem CFr.tr {c c1 c2 : Nat → Int32} (h : CFr c c1) (h' : CFr c1 c2) : CFr c c2 := fun i a b => (h' i a b).trans (h i a b)
/-- the two rows of eight, those behind j moved by one -/
def shd (g : Nat → Int32) (j : Nat) : Nat → Int32 := fun i => if (22 + j < i ∧ i ≤ 29) ∨ (30 + j < i ∧ i ≤ 37) then g (i - 1) else g i
theorem shd_step {g : Nat → Int32} {j : Nat} (h1 : 1 ≤ j) (h7 : j ≤ 7) : upd (upd (shd g j) (22 + j) (shd g j (22 + j - 1))) (30 + j) (upd (shd g j) (22 + j) (shd g j (22 + j - 1)) (30 + j - 1)) = shd g (j - 1) := by
  have e1 : shd g j (22 + j - 1) = g (22 + j - 1) := if_neg (by omega)
  have e2 : upd (shd g j) (22 + j) (shd g j (22 + j - 1)) (30 + j - 1) = g (30 + j - 1) := (if_neg (by omega)).trans (if_neg (by omega))
  rw [e2, e1]
  funext i
  show (if i = 30 + j then g (30 + j - 1) else if i = 22 + j then g (22 + j - 1) else if (22 + j < i ∧ i ≤ 29) ∨ (30 + j < i ∧ i ≤ 37) then g (i - 1) else g i) = if (22 + (j - 1) < i ∧ i ≤ 29) ∨ (30 + (j - 1) < i ∧ i ≤ 37) then g (i - 1) else g i
  by_cases a1 : i = 30 + j
  · rw [if_pos a1, if_pos (by omega), a1]
  · rw [if_neg a1]
    by_cases a2 : i = 22 + j
    · rw [if_pos a2, if_pos (by omega), a2]
    · rw [if_neg a2]
      by_cases a3 : (22 + j < i ∧ i ≤ 29) ∨ (30 + j < i ∧ i ≤ 37)
      · rw [if_pos a3, if_pos (by omega)]
      · rw [if_neg a3, if_neg (by omega)]
theorem MH_push {g : Nat → Int32} {h : aHi} {x st : Int32} (hm : MH g h) : MH (upd (upd (shd (upd g 18 (g 18 + 1)) 0) 22 x) 30 st) ((x, st) :: h) := by
  obtain ⟨h1, h2⟩ := hm
  refine ⟨?_, fun k hk => ?_⟩
  · show g 18 + 1 = _
    rw [h1, nI_1]; rfl
  · match k, hk with
    | 0, _ => exact ⟨rfl, rfl⟩
    | k + 1, hk =>
      refine ⟨?_, ?_⟩
      · have e : (upd (upd (shd (upd g 18 (g 18 + 1)) 0) 22 x) 30 st) (22 + (k + 1)) = g (22 + k) := by
          refine (if_neg (by omega)).trans ((if_neg (by omega)).trans ((if_pos (by omega)).trans ((if_neg (by omega)).trans ?_)))
          congr 1
        rw [e]; exact (h2 k (by omega)).1
      · have e : (upd (upd (shd (upd g 18 (g 18 + 1)) 0) 22 x) 30 st) (30 + (k + 1)) = g (30 + k) := by
          refine (if_neg (by omega)).trans ((if_neg (by omega)).trans ((if_pos (by omega)).trans ((if_neg (by omega)).trans ?_)))
          congr 1
        rw [e]; exact (h2 k (by omega)).2
theorem MH_congr {g g' : Nat → Int32} {h : aHi} (hm : MH g h) (e18 : g' 18 = g 18) (e : ∀ i, 22 ≤ i → i < 38 → g' i = g i) : MH g' h := ⟨e18.trans hm.1, fun k hk => ⟨(e _ (by omega) (by omega)).trans (hm.2 k hk).1, (e _ (by omega) (by omega)).trans (hm.2 k hk).2⟩⟩
theorem cF_cF {c : Nat → Int32} {n n' m : Nat} : cF (cF c n m) n' 0 = cF c (n + n') m := by
  have e1 : cF c n m 13 = c 13 + nI n := rfl
  have e2 : cF c n m 14 = c 14 ||| nI m := rfl
  show upd (upd (cF c n m) 13 (cF c n m 13 + nI n')) 14 (cF c n m 14 ||| nI 0) = _
  rw [e1, e2, Int32.add_assoc, nI_add, nI_0, Int32.or_zero]
  unfold cF
  rw [upd_comm (k := 14) (j := 13) (by decide), upd_upd, upd_upd]
section MReads2
variable {w : jx_W} {q : Nat} {c : Nat → Int32} {r : Nat → Nat → Int32} {K : jx_Q} {P g : Nat → Int32} {b : Nat} {A : aAU} {fh : List aFd}
theorem f_sh_loop {x1 x2 x3 : Int32} (hb : c 12 = nI b) (hf : b + 710 ≤ 22416) (hK : zwp n_M_reads 2 [(0, .ref q), (1, .int x1), (2, .int x2), (3, .int x3)] [] 0 0 (mw w q c (rup r 0 (pgf P b 710 (shd g 0)))) K) : ∀ j, j ≤ 7 → zwp n_M_reads 1 [(0, .ref q), (1, .int x1), (2, .int x2), (3, .int x3), (4, .int (nI j))] [] 0 0 (mw w q c (rup r 0 (pgf P b 710 (shd g j)))) K := by
  intro j
  induction j with
  | zero => intro _; exact b_M_reads_1 ⟨fun _ => hK, fun z => absurd (show nI 0 ≤ 0 by decide) z⟩
  | succ j ih =>
    intro hj
    refine b_M_reads_1 ⟨fun z => absurd z (nI_nle (by omega) (by omega)), fun _ => ?_⟩
    simp only [and_assoc, exists_and_left, exists_eq_left, exists_eq_left', Option.some.injEq, Value.int.injEq, Value.ref.injEq, Value.long.injEq, true_and, and_true, exists_eq, exists_true_left, mw_ob, mw_ia0, mw_ia2, mw_ia5, mw_ia6, mw_ia7, mw_ia8, mw_ia9, mw_ia10, mw_ia11, mw_ia15, mw_ia16, mF_0, mF_1, mF_2, mF_3, mF_4, mF_5, mF_6, mF_7, mF_8, mF_9, mF_10, mF_11, mF_12, mF_13, mF_14, mF_15, mF_16, mF_len, mF_s1, mF_s3, mF_s4, mF_s12, mF_s13, mF_s14, mw_uob, mw_u0, mw_u2, mw_u5, mw_u6, mw_u7, mw_u8, mw_u9, mw_u10, mw_u11, mw_u15, mw_u16, Nat.reduceLT, rup_s, rup_rup]
    rw [lit_22, lit_1, nI_add, pk_sub (by omega)]
    refine f_of hb (i := 22 + (j + 1) - 1) rfl (by omega) hf ?_
    simp only [and_assoc, exists_and_left, exists_eq_left, exists_eq_left', Option.some.injEq, Value.int.injEq, Value.ref.injEq, Value.long.injEq, true_and, and_true, exists_eq, exists_true_left, mw_ob, mw_ia0, mw_ia2, mw_ia5, mw_ia6, mw_ia7, mw_ia8, mw_ia9, mw_ia10, mw_ia11, mw_ia15, mw_ia16, mF_0, mF_1, mF_2, mF_3, mF_4, mF_5, mF_6, mF_7, mF_8, mF_9, mF_10, mF_11, mF_12, mF_13, mF_14, mF_15, mF_16, mF_len, mF_s1, mF_s3, mF_s4, mF_s12, mF_s13, mF_s14, mw_uob, mw_u0, mw_u2, mw_u5, mw_u6, mw_u7, mw_u8, mw_u9, mw_u10, mw_u11, mw_u15, mw_u16, Nat.reduceLT, rup_s, rup_rup]
    refine f_put hb (i := 22 + (j + 1)) rfl (by omega) hf ?_
    simp only [and_assoc, exists_and_left, exists_eq_left, exists_eq_left', Option.some.injEq, Value.int.injEq, Value.ref.injEq, Value.long.injEq, true_and, and_true, exists_eq, exists_true_left, mw_ob, mw_ia0, mw_ia2, mw_ia5, mw_ia6, mw_ia7, mw_ia8, mw_ia9, mw_ia10, mw_ia11, mw_ia15, mw_ia16, mF_0, mF_1, mF_2, mF_3, mF_4, mF_5, mF_6, mF_7, mF_8, mF_9, mF_10, mF_11, mF_12, mF_13, mF_14, mF_15, mF_16, mF_len, mF_s1, mF_s3, mF_s4, mF_s12, mF_s13, mF_s14, mw_uob, mw_u0, mw_u2, mw_u5, mw_u6, mw_u7, mw_u8, mw_u9, mw_u10, mw_u11, mw_u15, mw_u16, Nat.reduceLT, rup_s, rup_rup]
    rw [lit_30, nI_add, pk_sub (by omega)]
    refine f_of hb (i := 30 + (j + 1) - 1) rfl (by omega) hf ?_
    simp only [and_assoc, exists_and_left, exists_eq_left, exists_eq_left', Option.some.injEq, Value.int.injEq, Value.ref.injEq, Value.long.injEq, true_and, and_true, exists_eq, exists_true_left, mw_ob, mw_ia0, mw_ia2, mw_ia5, mw_ia6, mw_ia7, mw_ia8, mw_ia9, mw_ia10, mw_ia11, mw_ia15, mw_ia16, mF_0, mF_1, mF_2, mF_3, mF_4, mF_5, mF_6, mF_7, mF_8, mF_9, mF_10, mF_11, mF_12, mF_13, mF_14, mF_15, mF_16, mF_len, mF_s1, mF_s3, mF_s4, mF_s12, mF_s13, mF_s14, mw_uob, mw_u0, mw_u2, mw_u5, mw_u6, mw_u7, mw_u8, mw_u9, mw_u10, mw_u11, mw_u15, mw_u16, Nat.reduceLT, rup_s, rup_rup]
    refine f_put hb (i := 30 + (j + 1)) rfl (by omega) hf ?_
    simp only [and_assoc, exists_and_left, exists_eq_left, exists_eq_left', Option.some.injEq, Value.int.injEq, Value.ref.injEq, Value.long.injEq, true_and, and_true, exists_eq, exists_true_left, mw_ob, mw_ia0, mw_ia2, mw_ia5, mw_ia6, mw_ia7, mw_ia8, mw_ia9, mw_ia10, mw_ia11, mw_ia15, mw_ia16, mF_0, mF_1, mF_2, mF_3, mF_4, mF_5, mF_6, mF_7, mF_8, mF_9, mF_10, mF_11, mF_12, mF_13, mF_14, mF_15, mF_16, mF_len, mF_s1, mF_s3, mF_s4, mF_s12, mF_s13, mF_s14, mw_uob, mw_u0, mw_u2, mw_u5, mw_u6, mw_u7, mw_u8, mw_u9, mw_u10, mw_u11, mw_u15, mw_u16, Nat.reduceLT, rup_s, rup_rup]
    rw [shd_step (by omega) hj, show j + 1 - 1 = j by omega, show nI (j + 1) + -nI 1 = nI j from pk_m1 j]
    exact ih (by omega)
theorem f_reads_tail {f0 n0 nd ps ns nb fm : Nat} {e : Int32} {hist : aHi} {bl : Bool} (hb : c 12 = nI b) (hf : b + 710 ≤ 22416) (hb1 : 186 ≤ b) (hA : auOk A) (hm : MA c r A) (hW : PWd P A) (h6 : g 6 = nI nd) (hnd : nd < A.1) (hp : PM g ps) (hh : MH g hist) (h12 : g 12 = oob bl) (hF : HF P fh) (h19 : g 19 = nI ns) (h20 : g 20 = nI nb) (h14 : c 14 = nI (f0 ||| fm)) (hn0 : n0 ≤ 4294967296 + fh.length) (h13 : c 13 = nI (4294967296 + fh.length - n0)) (hne : ∀ k, (hiA hist k).2 ≠ -9)
    (hK : ∀ c' P' g', MR f0 n0 c' P' g' (nd, ps, hist, bl, fD (g 0) (aDb A nd ps) e (fS A (g 0) (A.2.2.1 nd) hist e fh 6) 6, ns + pc6 (A.2.2.1 nd) 6, nb + pc6 (aDb A nd ps) 6, fm ||| A.2.2.1 nd) → CFr c c' → PFr P P' → GFr g g' → K (mw w q c' (rup r 0 (pgf P' b 710 g'))) none) : zwp n_M_reads 4 [(0, .ref q), (3, .int e)] [] 0 0 (mw w q c (rup r 0 (pgf P b 710 g))) K := by
  have h49 := hA.2.1
  have hs := hA.2.2.2.1 nd hnd
  refine b_M_reads_4 ?_
  simp only [and_assoc, exists_and_left, exists_eq_left, exists_eq_left', Option.some.injEq, Value.int.injEq, Value.ref.injEq, Value.long.injEq, true_and, and_true, exists_eq, exists_true_left, mw_ob, mw_ia0, mw_ia2, mw_ia5, mw_ia6, mw_ia7, mw_ia8, mw_ia9, mw_ia10, mw_ia11, mw_ia15, mw_ia16, mF_0, mF_1, mF_2, mF_3, mF_4, mF_5, mF_6, mF_7, mF_8, mF_9, mF_10, mF_11, mF_12, mF_13, mF_14, mF_15, mF_16, mF_len, mF_s1, mF_s3, mF_s4, mF_s12, mF_s13, mF_s14, mw_uob, mw_u0, mw_u2, mw_u5, mw_u6, mw_u7, mw_u8, mw_u9, mw_u10, mw_u11, mw_u15, mw_u16, Nat.reduceLT, rup_s, rup_rup]
  refine f_of hb (i := 6) rfl (by decide) hf ?_
  simp only [and_assoc, exists_and_left, exists_eq_left, exists_eq_left', Option.some.injEq, Value.int.injEq, Value.ref.injEq, Value.long.injEq, true_and, and_true, exists_eq, exists_true_left, mw_ob, mw_ia0, mw_ia2, mw_ia5, mw_ia6, mw_ia7, mw_ia8, mw_ia9, mw_ia10, mw_ia11, mw_ia15, mw_ia16, mF_0, mF_1, mF_2, mF_3, mF_4, mF_5, mF_6, mF_7, mF_8, mF_9, mF_10, mF_11, mF_12, mF_13, mF_14, mF_15, mF_16, mF_len, mF_s1, mF_s3, mF_s4, mF_s12, mF_s13, mF_s14, mw_uob, mw_u0, mw_u2, mw_u5, mw_u6, mw_u7, mw_u8, mw_u9, mw_u10, mw_u11, mw_u15, mw_u16, Nat.reduceLT, rup_s, rup_rup]
  have e9 : rup r 0 (pgf P b 710 g) 9 = r 9 := rup_n (by decide)
  rw [e9, h6, nI_clamp (by omega), hm.2.1 nd hnd]
  refine ⟨vp_in_nI (by omega) (by decide), ?_⟩
  refine f_any_loop hb hf hA hm hp (b_M_reads_8 ?_) A.1 0 (by omega)
  have hgo := f_sure_loop (w := w) (q := q) (r := r) (K := K) (fh := fh) (P := P) (g := g) (c := c) (e := e) (x5 := nI (anyS A ps)) (hist := hist) hb hf hb1 hA hW hs (fun v hv ht => hA.2.2.2.2.2.2.1 nd v hnd hv ht) (fun k hk => (hh.2 k hk).2) hne (fun P1 hF1 hP1 => b_M_reads_11 (by
    have hd := f_doubt_loop (w := w) (q := q) (r := r) (K := K) (c := cF c (pc6 (A.2.2.1 nd) 6) (A.2.2.1 nd)) (g := gF g 19 (pc6 (A.2.2.1 nd) 6)) (P := P1) (b := b) (fh := fS A (g 0) (A.2.2.1 nd) hist e fh 6) (e := e) (d := aDb A nd ps) hb hf hb1 hs (anyK_lt hA (Nat.le_refl _)) rfl (fun P2 hF2 hP2 => by
      rw [cF_cF]
      refine hK _ P2 _ ⟨?_, ?_, ?_, ?_, hF2, ?_, ?_, ?_, ?_, ?_⟩ ?_ (hP1.tr hP2) ?_
      · exact h6
      · exact ⟨hp.1, hp.2.1, hp.2.2⟩
      · exact MH_congr hh rfl (fun i h1 h2 => (if_neg (by omega)).trans (if_neg (by omega)))
      · exact h12
      · show g 19 + nI (pc6 (A.2.2.1 nd) 6) = _
        rw [h19, nI_add]
      · show g 20 + nI (pc6 (aDb A nd ps) 6) = _
        rw [h20, nI_add]
      · show c 14 ||| nI (A.2.2.1 nd) = _
        rw [h14, nI_or, Nat.or_assoc]
      · show n0 ≤ 4294967296 + (fD _ _ _ _ _).length
        rw [fD_len, fS_len]; omega
      · show c 13 + nI _ = nI (4294967296 + (fD _ _ _ _ _).length - n0)
        rw [fD_len, fS_len, h13, nI_add]
        congr 1
        omega
      · exact fun i i1 i2 => (if_neg i2).trans (if_neg i1)
      · exact fun i a1 a2 a3 a4 a5 a6 a7 a8 => (if_neg a7).trans (if_neg a6)) 6 0 rfl P1 hF1 PFr.rf
    rw [show pc6 (aDb A nd ps) 0 = 0 from rfl, gF0, cF0] at hd
    exact hd)) 6 0 rfl P hF PFr.rf
  rw [show pc6 (A.2.2.1 nd) 0 = 0 from rfl, show lowK (A.2.2.1 nd) 0 = 0 from rfl, gF0, cF0] at hgo
  exact hgo
theorem f_reads {f0 n0 cn : Nat} {x st e : Int32} {S : aS} (hb : c 12 = nI b) (hf : b + 710 ≤ 22416) (hb1 : 186 ≤ b) (hA : auOk A) (hm : MA c r A) (hW : PWd P A) (hx : x = nI cn) (hcn : cn < 1000) (hst : st ≠ -9) (hS : sOk A S) (hR : MR f0 n0 c P g S)
    (hK : ∀ c' P' g', MR f0 n0 c' P' g' (aRead A (g 0) S cn st e) → CFr c c' → PFr P P' → GFr g g' → K (mw w q c' (rup r 0 (pgf P' b 710 g'))) none) : zcall n_M_reads [.ref q, .int x, .int st, .int e] (mw w q c (rup r 0 (pgf P b 710 g))) K := by
  subst hx
  obtain ⟨nd, ps, hist, bl, fh, ns, nb, fm⟩ := S
  obtain ⟨o1, o2, o3, o4, -⟩ := hS
  obtain ⟨r1, r2, r3, r4, r5, r6, r7, r8, r9, r10⟩ := hR
  dsimp only at o1 o2 o3 o4 r1 r2 r3 r4 r5 r6 r7 r8 r9 r10
  refine e_M_reads (b_M_reads_0 ?_)
  simp only [and_assoc, exists_and_left, exists_eq_left, exists_eq_left', Option.some.injEq, Value.int.injEq, Value.ref.injEq, Value.long.injEq, true_and, and_true, exists_eq, exists_true_left, mw_ob, mw_ia0, mw_ia2, mw_ia5, mw_ia6, mw_ia7, mw_ia8, mw_ia9, mw_ia10, mw_ia11, mw_ia15, mw_ia16, mF_0, mF_1, mF_2, mF_3, mF_4, mF_5, mF_6, mF_7, mF_8, mF_9, mF_10, mF_11, mF_12, mF_13, mF_14, mF_15, mF_16, mF_len, mF_s1, mF_s3, mF_s4, mF_s12, mF_s13, mF_s14, mw_uob, mw_u0, mw_u2, mw_u5, mw_u6, mw_u7, mw_u8, mw_u9, mw_u10, mw_u11, mw_u15, mw_u16, Nat.reduceLT, rup_s, rup_rup]
  refine f_adds hb (i := 18) rfl (by decide) hf ?_
  simp only [and_assoc, exists_and_left, exists_eq_left, exists_eq_left', Option.some.injEq, Value.int.injEq, Value.ref.injEq, Value.long.injEq, true_and, and_true, exists_eq, exists_true_left, mw_ob, mw_ia0, mw_ia2, mw_ia5, mw_ia6, mw_ia7, mw_ia8, mw_ia9, mw_ia10, mw_ia11, mw_ia15, mw_ia16, mF_0, mF_1, mF_2, mF_3, mF_4, mF_5, mF_6, mF_7, mF_8, mF_9, mF_10, mF_11, mF_12, mF_13, mF_14, mF_15, mF_16, mF_len, mF_s1, mF_s3, mF_s4, mF_s12, mF_s13, mF_s14, mw_uob, mw_u0, mw_u2, mw_u5, mw_u6, mw_u7, mw_u8, mw_u9, mw_u10, mw_u11, mw_u15, mw_u16, Nat.reduceLT, rup_s, rup_rup]
  have e0 : pgf P b 710 (upd g 18 (g 18 + 1)) = pgf P b 710 (shd (upd g 18 (g 18 + 1)) 7) := by
    congr 1
    funext i
    exact (if_neg (by omega)).symm
  rw [e0]
  refine f_sh_loop hb hf (b_M_reads_2 ?_) 7 (Nat.le_refl _)
  simp only [and_assoc, exists_and_left, exists_eq_left, exists_eq_left', Option.some.injEq, Value.int.injEq, Value.ref.injEq, Value.long.injEq, true_and, and_true, exists_eq, exists_true_left, mw_ob, mw_ia0, mw_ia2, mw_ia5, mw_ia6, mw_ia7, mw_ia8, mw_ia9, mw_ia10, mw_ia11, mw_ia15, mw_ia16, mF_0, mF_1, mF_2, mF_3, mF_4, mF_5, mF_6, mF_7, mF_8, mF_9, mF_10, mF_11, mF_12, mF_13, mF_14, mF_15, mF_16, mF_len, mF_s1, mF_s3, mF_s4, mF_s12, mF_s13, mF_s14, mw_uob, mw_u0, mw_u2, mw_u5, mw_u6, mw_u7, mw_u8, mw_u9, mw_u10, mw_u11, mw_u15, mw_u16, Nat.reduceLT, rup_s, rup_rup]
  refine f_put hb (i := 22) rfl (by decide) hf ?_
  simp only [and_assoc, exists_and_left, exists_eq_left, exists_eq_left', Option.some.injEq, Value.int.injEq, Value.ref.injEq, Value.long.injEq, true_and, and_true, exists_eq, exists_true_left, mw_ob, mw_ia0, mw_ia2, mw_ia5, mw_ia6, mw_ia7, mw_ia8, mw_ia9, mw_ia10, mw_ia11, mw_ia15, mw_ia16, mF_0, mF_1, mF_2, mF_3, mF_4, mF_5, mF_6, mF_7, mF_8, mF_9, mF_10, mF_11, mF_12, mF_13, mF_14, mF_15, mF_16, mF_len, mF_s1, mF_s3, mF_s4, mF_s12, mF_s13, mF_s14, mw_uob, mw_u0, mw_u2, mw_u5, mw_u6, mw_u7, mw_u8, mw_u9, mw_u10, mw_u11, mw_u15, mw_u16, Nat.reduceLT, rup_s, rup_rup]
  refine f_put hb (i := 30) rfl (by decide) hf ?_
  simp only [and_assoc, exists_and_left, exists_eq_left, exists_eq_left', Option.some.injEq, Value.int.injEq, Value.ref.injEq, Value.long.injEq, true_and, and_true, exists_eq, exists_true_left, mw_ob, mw_ia0, mw_ia2, mw_ia5, mw_ia6, mw_ia7, mw_ia8, mw_ia9, mw_ia10, mw_ia11, mw_ia15, mw_ia16, mF_0, mF_1, mF_2, mF_3, mF_4, mF_5, mF_6, mF_7, mF_8, mF_9, mF_10, mF_11, mF_12, mF_13, mF_14, mF_15, mF_16, mF_len, mF_s1, mF_s3, mF_s4, mF_s12, mF_s13, mF_s14, mw_uob, mw_u0, mw_u2, mw_u5, mw_u6, mw_u7, mw_u8, mw_u9, mw_u10, mw_u11, mw_u15, mw_u16, Nat.reduceLT, rup_s, rup_rup]
  have hMH := MH_push (x := nI cn) (st := st) r3
  obtain ⟨g1, hg1⟩ : ∃ g1, g1 = upd (upd (shd (upd g 18 (g 18 + 1)) 0) 22 (nI cn)) 30 st := ⟨_, rfl⟩
  rw [← hg1] at hMH ⊢
  have lo : ∀ i, i < 22 → i ≠ 18 → g1 i = g i := fun i h1 h2 => by
    rw [hg1]
    exact (if_neg (by omega)).trans ((if_neg (by omega)).trans ((if_neg (by omega)).trans (if_neg h2)))
  have hi : ∀ i, 38 ≤ i → g1 i = g i := fun i h1 => by
    rw [hg1]
    exact (if_neg (by omega)).trans ((if_neg (by omega)).trans ((if_neg (by omega)).trans (if_neg (by omega))))
  have frm : ∀ g2, (∀ i, i ≠ 6 → i ≠ 7 → i ≠ 8 → g2 i = g1 i) → GFr g g2 := fun g2 h i a1 a2 a3 a4 a5 a6 a7 a8 => (h i a1 a2 a3).trans (by
    rcases a8 with a8 | a8
    · exact lo i a8 a5
    · exact hi i a8)
  have hp1 : PM g1 ps := ⟨(lo 7 (by decide) (by decide)).trans r2.1, (lo 8 (by decide) (by decide)).trans r2.2.1, r2.2.2⟩
  refine s_M_in (fun z1 z2 => ?_) (fun z => ?_)
  · have z1 := (nI_leI (a := 97) (by decide) (by omega)).mp z1
    have z2 := (nI_leI (b := 122) (by omega) (by decide)).mp z2
    have hl : lett cn = true := by simp [lett, z1, z2]
    simp only [and_assoc, exists_and_left, exists_eq_left, exists_eq_left', Option.some.injEq, Value.int.injEq, Value.ref.injEq, Value.long.injEq, true_and, and_true, exists_eq, exists_true_left, mw_ob, mw_ia0, mw_ia2, mw_ia5, mw_ia6, mw_ia7, mw_ia8, mw_ia9, mw_ia10, mw_ia11, mw_ia15, mw_ia16, mF_0, mF_1, mF_2, mF_3, mF_4, mF_5, mF_6, mF_7, mF_8, mF_9, mF_10, mF_11, mF_12, mF_13, mF_14, mF_15, mF_16, mF_len, mF_s1, mF_s3, mF_s4, mF_s12, mF_s13, mF_s14, mw_uob, mw_u0, mw_u2, mw_u5, mw_u6, mw_u7, mw_u8, mw_u9, mw_u10, mw_u11, mw_u15, mw_u16, Nat.reduceLT, rup_s, rup_rup]
    refine if0 ?_
    rw [lit_97, pk_sub z1]
    refine f_steps (nd := nd) (ps := ps) hb hf hA hm hp1 rfl (by omega) ((lo 6 (by decide) (by decide)).trans r1) o1 ?_
    simp only [and_assoc, exists_and_left, exists_eq_left, exists_eq_left', Option.some.injEq, Value.int.injEq, Value.ref.injEq, Value.long.injEq, true_and, and_true, exists_eq, exists_true_left, mw_ob, mw_ia0, mw_ia2, mw_ia5, mw_ia6, mw_ia7, mw_ia8, mw_ia9, mw_ia10, mw_ia11, mw_ia15, mw_ia16, mF_0, mF_1, mF_2, mF_3, mF_4, mF_5, mF_6, mF_7, mF_8, mF_9, mF_10, mF_11, mF_12, mF_13, mF_14, mF_15, mF_16, mF_len, mF_s1, mF_s3, mF_s4, mF_s12, mF_s13, mF_s14, mw_uob, mw_u0, mw_u2, mw_u5, mw_u6, mw_u7, mw_u8, mw_u9, mw_u10, mw_u11, mw_u15, mw_u16, Nat.reduceLT, rup_s, rup_rup]
    have n1 : aNd A nd cn = A.2.1 nd (cn - 97) := by unfold aNd; rw [if_pos hl]
    have n2 : aPs A ps cn = stepSet A ps (cn - 97) := by unfold aPs; rw [if_pos hl]
    rw [← n1, ← n2]
    obtain ⟨g2, hg2⟩ : ∃ g2, g2 = upd (upd (upd g1 7 (nI (aPs A ps cn % 2 ^ 25))) 8 (nI (aPs A ps cn / 2 ^ 25))) 6 (nI (aNd A nd cn)) := ⟨_, rfl⟩
    rw [← hg2]
    have g2o : ∀ i, i ≠ 6 → i ≠ 7 → i ≠ 8 → g2 i = g1 i := fun i a1 a2 a3 => by rw [hg2]; exact (if_neg a1).trans ((if_neg a3).trans (if_neg a2))
    have hpm : PM g2 (aPs A ps cn) := by rw [hg2]; exact ⟨rfl, rfl, aPs_lt hA⟩
    have g2k : g2 0 = g 0 := (g2o 0 (by decide) (by decide) (by decide)).trans (lo 0 (by decide) (by decide))
    refine f_reads_tail (f0 := f0) (n0 := n0) (nd := aNd A nd cn) (ps := aPs A ps cn) (ns := ns) (nb := nb) (fm := fm) (hist := (nI cn, st) :: hist) (bl := bl) hb hf hb1 hA hm hW (by rw [hg2]; rfl) (aNd_lt hA o1) hpm (MH_congr hMH (g2o 18 (by decide) (by decide) (by decide)) (fun i h1 h2 => g2o i (by omega) (by omega) (by omega))) ((g2o 12 (by decide) (by decide) (by decide)).trans ((lo 12 (by decide) (by decide)).trans r4)) r5 ((g2o 19 (by decide) (by decide) (by decide)).trans ((lo 19 (by decide) (by decide)).trans r6)) ((g2o 20 (by decide) (by decide) (by decide)).trans ((lo 20 (by decide) (by decide)).trans r7)) r8 r9 r10 (hiA_ne o3 hst) (fun c' P' g' m1 m2 m3 m4 => hK c' P' g' ?_ m2 m3 ((frm g2 g2o).tr m4))
    rw [g2k] at m1
    exact m1
  · have hl : lett cn = false := by
      cases h : lett cn with
      | false => rfl
      | true =>
        simp only [lett, Bool.and_eq_true, decide_eq_true_eq] at h
        exact absurd ⟨(nI_leI (a := 97) (by decide) (by omega)).mpr h.1, (nI_leI (b := 122) (by omega) (by decide)).mpr h.2⟩ z
    simp only [and_assoc, exists_and_left, exists_eq_left, exists_eq_left', Option.some.injEq, Value.int.injEq, Value.ref.injEq, Value.long.injEq, true_and, and_true, exists_eq, exists_true_left, mw_ob, mw_ia0, mw_ia2, mw_ia5, mw_ia6, mw_ia7, mw_ia8, mw_ia9, mw_ia10, mw_ia11, mw_ia15, mw_ia16, mF_0, mF_1, mF_2, mF_3, mF_4, mF_5, mF_6, mF_7, mF_8, mF_9, mF_10, mF_11, mF_12, mF_13, mF_14, mF_15, mF_16, mF_len, mF_s1, mF_s3, mF_s4, mF_s12, mF_s13, mF_s14, mw_uob, mw_u0, mw_u2, mw_u5, mw_u6, mw_u7, mw_u8, mw_u9, mw_u10, mw_u11, mw_u15, mw_u16, Nat.reduceLT, rup_s, rup_rup]
    refine if1 (b_M_reads_3 ?_)
    simp only [and_assoc, exists_and_left, exists_eq_left, exists_eq_left', Option.some.injEq, Value.int.injEq, Value.ref.injEq, Value.long.injEq, true_and, and_true, exists_eq, exists_true_left, mw_ob, mw_ia0, mw_ia2, mw_ia5, mw_ia6, mw_ia7, mw_ia8, mw_ia9, mw_ia10, mw_ia11, mw_ia15, mw_ia16, mF_0, mF_1, mF_2, mF_3, mF_4, mF_5, mF_6, mF_7, mF_8, mF_9, mF_10, mF_11, mF_12, mF_13, mF_14, mF_15, mF_16, mF_len, mF_s1, mF_s3, mF_s4, mF_s12, mF_s13, mF_s14, mw_uob, mw_u0, mw_u2, mw_u5, mw_u6, mw_u7, mw_u8, mw_u9, mw_u10, mw_u11, mw_u15, mw_u16, Nat.reduceLT, rup_s, rup_rup]
    refine f_put hb (i := 6) rfl (by decide) hf ?_
    simp only [and_assoc, exists_and_left, exists_eq_left, exists_eq_left', Option.some.injEq, Value.int.injEq, Value.ref.injEq, Value.long.injEq, true_and, and_true, exists_eq, exists_true_left, mw_ob, mw_ia0, mw_ia2, mw_ia5, mw_ia6, mw_ia7, mw_ia8, mw_ia9, mw_ia10, mw_ia11, mw_ia15, mw_ia16, mF_0, mF_1, mF_2, mF_3, mF_4, mF_5, mF_6, mF_7, mF_8, mF_9, mF_10, mF_11, mF_12, mF_13, mF_14, mF_15, mF_16, mF_len, mF_s1, mF_s3, mF_s4, mF_s12, mF_s13, mF_s14, mw_uob, mw_u0, mw_u2, mw_u5, mw_u6, mw_u7, mw_u8, mw_u9, mw_u10, mw_u11, mw_u15, mw_u16, Nat.reduceLT, rup_s, rup_rup]
    refine f_laysPossible hb hf ?_
    simp only [and_assoc, exists_and_left, exists_eq_left, exists_eq_left', Option.some.injEq, Value.int.injEq, Value.ref.injEq, Value.long.injEq, true_and, and_true, exists_eq, exists_true_left, mw_ob, mw_ia0, mw_ia2, mw_ia5, mw_ia6, mw_ia7, mw_ia8, mw_ia9, mw_ia10, mw_ia11, mw_ia15, mw_ia16, mF_0, mF_1, mF_2, mF_3, mF_4, mF_5, mF_6, mF_7, mF_8, mF_9, mF_10, mF_11, mF_12, mF_13, mF_14, mF_15, mF_16, mF_len, mF_s1, mF_s3, mF_s4, mF_s12, mF_s13, mF_s14, mw_uob, mw_u0, mw_u2, mw_u5, mw_u6, mw_u7, mw_u8, mw_u9, mw_u10, mw_u11, mw_u15, mw_u16, Nat.reduceLT, rup_s, rup_rup]
    have n1 : aNd A nd cn = 0 := by unfold aNd; rw [if_neg (by rw [hl]; decide)]
    have n2 : aPs A ps cn = 1 := by unfold aPs; rw [if_neg (by rw [hl]; decide)]
    obtain ⟨g2, hg2⟩ : ∃ g2, g2 = upd (upd (upd g1 6 0) 7 1) 8 0 := ⟨_, rfl⟩
    rw [← hg2]
    have g2o : ∀ i, i ≠ 6 → i ≠ 7 → i ≠ 8 → g2 i = g1 i := fun i a1 a2 a3 => by rw [hg2]; exact (if_neg a3).trans ((if_neg a2).trans (if_neg a1))
    have hpm : PM g2 (aPs A ps cn) := by rw [hg2, n2]; exact ⟨show (1 : Int32) = nI (1 % 2 ^ 25) by decide, show (0 : Int32) = nI (1 / 2 ^ 25) by decide, by decide⟩
    have g2k : g2 0 = g 0 := (g2o 0 (by decide) (by decide) (by decide)).trans (lo 0 (by decide) (by decide))
    refine f_reads_tail (f0 := f0) (n0 := n0) (nd := aNd A nd cn) (ps := aPs A ps cn) (ns := ns) (nb := nb) (fm := fm) (hist := (nI cn, st) :: hist) (bl := bl) hb hf hb1 hA hm hW (by rw [hg2, n1]; rfl) (aNd_lt hA o1) hpm (MH_congr hMH (g2o 18 (by decide) (by decide) (by decide)) (fun i h1 h2 => g2o i (by omega) (by omega) (by omega))) ((g2o 12 (by decide) (by decide) (by decide)).trans ((lo 12 (by decide) (by decide)).trans r4)) r5 ((g2o 19 (by decide) (by decide) (by decide)).trans ((lo 19 (by decide) (by decide)).trans r6)) ((g2o 20 (by decide) (by decide) (by decide)).trans ((lo 20 (by decide) (by decide)).trans r7)) r8 r9 r10 (hiA_ne o3 hst) (fun c' P' g' m1 m2 m3 m4 => hK c' P' g' ?_ m2 m3 ((frm g2 g2o).tr m4))
    rw [g2k] at m1
    exact m1
end MReads2
