/-! THE MODEL: replays(..) -/
def aRp (A : aAU) (ky : aKy) (fh : List aFd) (lg : List aP) : Nat → aF
  | 0 => aBeg fh
  | k + 1 => aHandle A ky (aRp A ky fh lg k) (aPc lg k)
def rpOk (A : aAU) (ky : aKy) (fh : List aFd) (lg : List aP) : Prop := ∀ k, k < lg.length → (aRp A ky fh lg k).2.2.1.length < 6
theorem aRp_ok {A : aAU} {ky : aKy} {fh : List aFd} {lg : List aP} (hA : auOk A) (hl : ∀ p ∈ lg, aOk p) (h : rpOk A ky fh lg) : ∀ k, k ≤ lg.length → fOk A (aRp A ky fh lg k)
  | 0, _ => aBeg_ok hA
  | k + 1, hk => aHandle_ok hA (aRp_ok hA hl h k (by omega)) (h k (by omega)) (hl _ (aPc_mem (by omega)))
theorem nI_all (x : Int32) : ∃ v : Nat, v < 4294967296 ∧ x = nI v := ⟨x.toBitVec.toNat, x.toBitVec.isLt, Int32.toBitVec_inj.mp (by
  show x.toBitVec = BitVec.ofNat 32 x.toBitVec.toNat
  simp)⟩
def kyP (ky : aKy) (pol : Nat) : aKy := (ky.1, pol, ky.2.2)
section MRepl
variable {w : jx_W} {q : Nat} {c : Nat → Int32} {r : Nat → Nat → Int32} {K : jx_Q} {P : Nat → Int32} {A : aAU} {s : aSt} {past : List aSt} {bs : List Int32}
theorem f_repl_loop {n0 bi : Nat} {ky : aKy} {fh : List aFd} {lg : List aP} {P1 c1 : Nat → Int32} (hA : auOk A) (hky : kyOk ky) (hl : ∀ p ∈ lg, aOk p) (hl10 : lg.length ≤ 10) (hs : rpOk A ky fh lg) (hbi : 186 ≤ bi ∧ bi + 710 ≤ 3026) (h21 : P1 (bi + 21) = nI lg.length) (hpc : ∀ k, k < lg.length → PC (fun j => P1 (bi + j)) (290 + 42 * k) (aPc lg k)) (hb : c1 12 = nI 3026) (hm : MA c1 r A) (hW : PWd P1 A)
    (hK : ∀ c' P' g', MFw 0 n0 c' P' g' ky (aRp A ky fh lg lg.length) → CFr c1 c' → PFr P1 P' → zwp n_M_replays 2 [(0, .ref q)] [] 0 0 (mw w q c' (rup r 0 (pgf P' 3026 710 g'))) K) : ∀ (m k : Nat), k + m = lg.length → ∀ c' P' g', MFw 0 n0 c' P' g' ky (aRp A ky fh lg k) → CFr c1 c' → PFr P1 P' → zwp n_M_replays 1 [(0, .ref q), (3, .int (nI bi)), (4, .int (nI k))] [] 0 0 (mw w q c' (rup r 0 (pgf P' 3026 710 g'))) K := by
  intro m
  induction m with
  | zero =>
    intro k hk c' P' g' h1 h2 h3
    obtain rfl : k = lg.length := by omega
    have e21 : pgf P' 3026 710 g' (bi + 21) = nI lg.length := by rw [pgf_out (by omega), h3 _ (by omega), h21]
    refine b_M_replays_1 ?_
    simp only [and_assoc, exists_and_left, exists_eq_left, exists_eq_left', Option.some.injEq, Value.int.injEq, Value.ref.injEq, Value.long.injEq, true_and, and_true, exists_eq, exists_true_left, mw_ob, mw_ia0, mw_ia2, mw_ia5, mw_ia6, mw_ia7, mw_ia8, mw_ia9, mw_ia10, mw_ia11, mw_ia15, mw_ia16, mF_0, mF_1, mF_2, mF_3, mF_4, mF_5, mF_6, mF_7, mF_8, mF_9, mF_10, mF_11, mF_12, mF_13, mF_14, mF_15, mF_16, mF_len, mF_s1, mF_s3, mF_s4, mF_s12, mF_s13, mF_s14, mw_uob, mw_u0, mw_u2, mw_u5, mw_u6, mw_u7, mw_u8, mw_u9, mw_u10, mw_u11, mw_u15, mw_u16, Nat.reduceLT, rup_s, rup_rup]
    rw [lit_21, nI_add, nI_clamp (by omega), e21]
    exact ⟨vp_in_nI (by omega) (by decide), fun _ => hK c' P' g' h1 h2 h3, fun z => absurd ((nI_leI (by omega) (by omega)).mpr (Nat.le_refl _)) z⟩
  | succ m ih =>
    intro k hk c' P' g' h1 h2 h3
    have e21 : pgf P' 3026 710 g' (bi + 21) = nI lg.length := by rw [pgf_out (by omega), h3 _ (by omega), h21]
    obtain ⟨p1, p2, p3⟩ := hpc k (by omega)
    have hp := hl _ (aPc_mem (l := lg) (i := k) (by omega))
    obtain ⟨q1, q2, q3, -⟩ := id hp
    have e1 : pgf P' 3026 710 g' (bi + 290 + 42 * k) = nI (aPc lg k).1 := by
      rw [pgf_out (by omega), h3 _ (by omega), ← p1, show bi + 290 + 42 * k = bi + (290 + 42 * k) by omega]
    have e2 : pgf P' 3026 710 g' (bi + 290 + 42 * k + 1) = nI (aPc lg k).2.length := by
      rw [pgf_out (by omega), h3 _ (by omega), ← p2, show bi + 290 + 42 * k + 1 = bi + (290 + 42 * k + 1) by omega]
    refine b_M_replays_1 ?_
    simp only [and_assoc, exists_and_left, exists_eq_left, exists_eq_left', Option.some.injEq, Value.int.injEq, Value.ref.injEq, Value.long.injEq, true_and, and_true, exists_eq, exists_true_left, mw_ob, mw_ia0, mw_ia2, mw_ia5, mw_ia6, mw_ia7, mw_ia8, mw_ia9, mw_ia10, mw_ia11, mw_ia15, mw_ia16, mF_0, mF_1, mF_2, mF_3, mF_4, mF_5, mF_6, mF_7, mF_8, mF_9, mF_10, mF_11, mF_12, mF_13, mF_14, mF_15, mF_16, mF_len, mF_s1, mF_s3, mF_s4, mF_s12, mF_s13, mF_s14, mw_uob, mw_u0, mw_u2, mw_u5, mw_u6, mw_u7, mw_u8, mw_u9, mw_u10, mw_u11, mw_u15, mw_u16, Nat.reduceLT, rup_s, rup_rup]
    rw [lit_21, lit_290, lit_42, pk_mul, nI_add, nI_add, nI_add, nI_clamp (by omega), e21, nI_1, nI_clamp (by omega), nI_clamp (by omega), e1, e2, lit_2, nI_add]
    refine ⟨vp_in_nI (by omega) (by decide), fun z => absurd ((nI_leI (by omega) (by omega)).mp z) (by omega), fun _ => ⟨vp_in_nI (by omega) (by decide), vp_in_nI (by omega) (by decide), ?_⟩⟩
    refine f_handles (src := bi + 290 + 42 * k + 2) (p := aPc lg k) (h2.b hb) (by decide) (by decide) hA hky (hm.fr h2) (hW.fr h3) (aRp_ok hA hl hs k (by omega)) (hs k (by omega)) hp rfl rfl rfl (by omega) (by omega) (fun i hi => ?_) h1 (fun c2 P2 g2 t1 t2 t3 t4 => ?_)
    · rw [h3 _ (by omega), ← p3 i hi, show bi + 290 + 42 * k + 2 + i = bi + (290 + 42 * k + 2 + i) by omega]
    · simp only [and_assoc, exists_and_left, exists_eq_left, exists_eq_left', Option.some.injEq, Value.int.injEq, Value.ref.injEq, Value.long.injEq, true_and, and_true, exists_eq, exists_true_left, mw_ob, mw_ia0, mw_ia2, mw_ia5, mw_ia6, mw_ia7, mw_ia8, mw_ia9, mw_ia10, mw_ia11, mw_ia15, mw_ia16, mF_0, mF_1, mF_2, mF_3, mF_4, mF_5, mF_6, mF_7, mF_8, mF_9, mF_10, mF_11, mF_12, mF_13, mF_14, mF_15, mF_16, mF_len, mF_s1, mF_s3, mF_s4, mF_s12, mF_s13, mF_s14, mw_uob, mw_u0, mw_u2, mw_u5, mw_u6, mw_u7, mw_u8, mw_u9, mw_u10, mw_u11, mw_u15, mw_u16, Nat.reduceLT, rup_s, rup_rup]
      rw [nI_1]
      exact ih (k + 1) (by omega) c2 P2 g2 t1 (h2.tr t2) (h3.tr t3)
theorem f_replays {x y : Int32} {i pol : Nat} (hI : MI c r P A s past bs) (hO : stOk A s) (hA : auOk A) (hi : i < s.2.2.2.1.length) (hx : x = nI i) (hy : y = nI pol) (hpol : pol ≤ 3) (hs : rpOk A (kyP (fGet s.2.2.2.1 i).1 pol) s.2.2.1 (fGet s.2.2.2.1 i).2.2)
    (hK : ∀ c' P', MI c' r P' A s past bs → K (mw w q c' (rup r 0 P')) (some (.int (nI (afm (aRp A (kyP (fGet s.2.2.2.1 i).1 pol) s.2.2.1 (fGet s.2.2.2.1 i).2.2 (fGet s.2.2.2.1 i).2.2.length)))))) : zcall n_M_replays [.ref q, .int x, .int y] (mw w q c (rup r 0 P)) K := by
  subst hx hy
  obtain ⟨j1, j2, j3, j4, j5, f0, j6⟩ := hI
  have hP1 : PS (cpB P 0 5) s := PS_of0 (by rw [blk_cpo (by decide)]; exact PS_blk0 j1)
  obtain ⟨k1, k2, k5, ⟨sl, k6, k7⟩, k8⟩ := id hP1
  have hl : sl.length = s.2.2.2.1.length := k7.1
  have hs4 := slG_lt k6 (i := i) (by omega)
  obtain ⟨p1, p2⟩ := hO.2.1 _ (fGet_mem hi)
  obtain ⟨f1, f2⟩ := k7.2 i hi
  obtain ⟨a1, a2, a3, a4, a5, a6, a7, a8, a9, a10, a11, a12, a13, a14, a15, a16, a17, a18⟩ := f1
  have a15 : cpB P 0 5 (186 + 710 * slG sl i + 0) = _ := a15
  have a17 : cpB P 0 5 (186 + 710 * slG sl i + 2) = _ := a17
  have a18 : cpB P 0 5 (186 + 710 * slG sl i + 3) = _ := a18
  refine e_M_replays (b_M_replays_0 ?_)
  simp only [and_assoc, exists_and_left, exists_eq_left, exists_eq_left', Option.some.injEq, Value.int.injEq, Value.ref.injEq, Value.long.injEq, true_and, and_true, exists_eq, exists_true_left, mw_ob, mw_ia0, mw_ia2, mw_ia5, mw_ia6, mw_ia7, mw_ia8, mw_ia9, mw_ia10, mw_ia11, mw_ia15, mw_ia16, mF_0, mF_1, mF_2, mF_3, mF_4, mF_5, mF_6, mF_7, mF_8, mF_9, mF_10, mF_11, mF_12, mF_13, mF_14, mF_15, mF_16, mF_len, mF_s1, mF_s3, mF_s4, mF_s12, mF_s13, mF_s14, mw_uob, mw_u0, mw_u2, mw_u5, mw_u6, mw_u7, mw_u8, mw_u9, mw_u10, mw_u11, mw_u15, mw_u16, Nat.reduceLT, rup_s, rup_rup]
  refine f_copies (i := 0) (j := 5) rfl rfl (by decide) (by decide) (by decide) ?_
  simp only [and_assoc, exists_and_left, exists_eq_left, exists_eq_left', Option.some.injEq, Value.int.injEq, Value.ref.injEq, Value.long.injEq, true_and, and_true, exists_eq, exists_true_left, mw_ob, mw_ia0, mw_ia2, mw_ia5, mw_ia6, mw_ia7, mw_ia8, mw_ia9, mw_ia10, mw_ia11, mw_ia15, mw_ia16, mF_0, mF_1, mF_2, mF_3, mF_4, mF_5, mF_6, mF_7, mF_8, mF_9, mF_10, mF_11, mF_12, mF_13, mF_14, mF_15, mF_16, mF_len, mF_s1, mF_s3, mF_s4, mF_s12, mF_s13, mF_s14, mw_uob, mw_u0, mw_u2, mw_u5, mw_u6, mw_u7, mw_u8, mw_u9, mw_u10, mw_u11, mw_u15, mw_u16, Nat.reduceLT, rup_s, rup_rup]
  refine f_slot k6 (i := i) rfl (by omega) ?_
  simp only [and_assoc, exists_and_left, exists_eq_left, exists_eq_left', Option.some.injEq, Value.int.injEq, Value.ref.injEq, Value.long.injEq, true_and, and_true, exists_eq, exists_true_left, mw_ob, mw_ia0, mw_ia2, mw_ia5, mw_ia6, mw_ia7, mw_ia8, mw_ia9, mw_ia10, mw_ia11, mw_ia15, mw_ia16, mF_0, mF_1, mF_2, mF_3, mF_4, mF_5, mF_6, mF_7, mF_8, mF_9, mF_10, mF_11, mF_12, mF_13, mF_14, mF_15, mF_16, mF_len, mF_s1, mF_s3, mF_s4, mF_s12, mF_s13, mF_s14, mw_uob, mw_u0, mw_u2, mw_u5, mw_u6, mw_u7, mw_u8, mw_u9, mw_u10, mw_u11, mw_u15, mw_u16, Nat.reduceLT, rup_s, rup_rup]
  rw [lit_0, lit_2, lit_3, nI_add, nI_add, nI_add, nI_clamp (by omega), nI_clamp (by omega), nI_clamp (by omega), a15, a17, a18]
  refine ⟨vp_in_nI (by omega) (by decide), vp_in_nI (by omega) (by decide), vp_in_nI (by omega) (by decide), ?_⟩
  refine f_starts (ky := kyP (fGet s.2.2.2.1 i).1 pol) (P := cpB P 0 5) (b := 3026) rfl (by decide) rfl rfl rfl rfl rup_s ?_
  simp only [and_assoc, exists_and_left, exists_eq_left, exists_eq_left', Option.some.injEq, Value.int.injEq, Value.ref.injEq, Value.long.injEq, true_and, and_true, exists_eq, exists_true_left, mw_ob, mw_ia0, mw_ia2, mw_ia5, mw_ia6, mw_ia7, mw_ia8, mw_ia9, mw_ia10, mw_ia11, mw_ia15, mw_ia16, mF_0, mF_1, mF_2, mF_3, mF_4, mF_5, mF_6, mF_7, mF_8, mF_9, mF_10, mF_11, mF_12, mF_13, mF_14, mF_15, mF_16, mF_len, mF_s1, mF_s3, mF_s4, mF_s12, mF_s13, mF_s14, mw_uob, mw_u0, mw_u2, mw_u5, mw_u6, mw_u7, mw_u8, mw_u9, mw_u10, mw_u11, mw_u15, mw_u16, Nat.reduceLT, rup_s, rup_rup]
  obtain ⟨v, hv, ev⟩ := nI_all (c 13)
  have hF0 : MFw 0 (4294967296 + s.2.2.1.length - v) (upd (upd c 12 3026) 14 0) (cpB P 0 5) (gBeg (kyP (fGet s.2.2.2.1 i).1 pol)) (kyP (fGet s.2.2.2.1 i).1 pol) (aBeg s.2.2.1) := by
    refine MFw_of gBeg_ok k5 (by show (0 : Int32) = nI (0 ||| 0); decide) (Nat.sub_le _ _) ?_
    show c 13 = nI (4294967296 + s.2.2.1.length - (4294967296 + s.2.2.1.length - v))
    rw [show 4294967296 + s.2.2.1.length - (4294967296 + s.2.2.1.length - v) = v by omega]
    exact ev
  refine f_repl_loop (n0 := 4294967296 + s.2.2.1.length - v) (ky := kyP (fGet s.2.2.2.1 i).1 pol) (fh := s.2.2.1) (lg := (fGet s.2.2.2.1 i).2.2) (P1 := cpB P 0 5) (c1 := upd (upd c 12 3026) 14 0) hA ⟨hpol, p1.2⟩ f2.2.2.1 f2.2.1 hs ⟨by omega, by omega⟩ f2.1 f2.2.2.2 rfl ⟨j5.1, j5.2⟩ (fun v hv => (k1 v hv).1.trans (by rw [hO.2.2 v hv])) (fun c' P' g' t1 t2 t3 => b_M_replays_2 ?_) (fGet s.2.2.2.1 i).2.2.length 0 (Nat.zero_add _) _ _ _ hF0 CFr.rf PFr.rf
  simp only [and_assoc, exists_and_left, exists_eq_left, exists_eq_left', Option.some.injEq, Value.int.injEq, Value.ref.injEq, Value.long.injEq, true_and, and_true, exists_eq, exists_true_left, mw_ob, mw_ia0, mw_ia2, mw_ia5, mw_ia6, mw_ia7, mw_ia8, mw_ia9, mw_ia10, mw_ia11, mw_ia15, mw_ia16, mF_0, mF_1, mF_2, mF_3, mF_4, mF_5, mF_6, mF_7, mF_8, mF_9, mF_10, mF_11, mF_12, mF_13, mF_14, mF_15, mF_16, mF_len, mF_s1, mF_s3, mF_s4, mF_s12, mF_s13, mF_s14, mw_uob, mw_u0, mw_u2, mw_u5, mw_u6, mw_u7, mw_u8, mw_u9, mw_u10, mw_u11, mw_u15, mw_u16, Nat.reduceLT, rup_s, rup_rup]
  refine f_copies (i := 5) (j := 0) rfl rfl (by decide) (by decide) (by decide) ?_
  simp only [and_assoc, exists_and_left, exists_eq_left, exists_eq_left', Option.some.injEq, Value.int.injEq, Value.ref.injEq, Value.long.injEq, true_and, and_true, exists_eq, exists_true_left, mw_ob, mw_ia0, mw_ia2, mw_ia5, mw_ia6, mw_ia7, mw_ia8, mw_ia9, mw_ia10, mw_ia11, mw_ia15, mw_ia16, mF_0, mF_1, mF_2, mF_3, mF_4, mF_5, mF_6, mF_7, mF_8, mF_9, mF_10, mF_11, mF_12, mF_13, mF_14, mF_15, mF_16, mF_len, mF_s1, mF_s3, mF_s4, mF_s12, mF_s13, mF_s14, mw_uob, mw_u0, mw_u2, mw_u5, mw_u6, mw_u7, mw_u8, mw_u9, mw_u10, mw_u11, mw_u15, mw_u16, Nat.reduceLT, rup_s, rup_rup]
  have eo : ∀ k, 3736 ≤ k → pgf P' 3026 710 g' k = cpB P 0 5 k := fun k hk => (pgf_out (by omega)).trans (t3 k (by omega))
  have ec : ∀ k, k ≠ 12 → k ≠ 13 → k ≠ 14 → c' k = c k := fun k b1 b2 b3 => (t2 k b2 b3).trans ((if_neg b3).trans (if_neg b1))
  have e14 := t1.1.2.2.2.2.2.2.2.1
  rw [Nat.zero_or] at e14
  rw [e14]
  refine hK c' _ ⟨PS_of0 ?_, PST_cp5 (PST_fr (PST_cp5 j2 (Or.inr rfl)) eo) (Or.inl rfl), (ec 1 (by decide) (by decide) (by decide)).trans j3, MT_fr j4 (ec 3 (by decide) (by decide) (by decide)), MA_fr j5 (ec 4 (by decide) (by decide) (by decide)), _, e14⟩
  rw [blk_cp, blk_congr (P := cpB P 0 5) (k := 5) (fun i a1 a2 => eo i (by omega)), blk_cp]
  exact PS_blk0 j1
end MRepl
