/-! THE CLASS's REHEARSAL: replay, evasions -/
section CRep
variable {W : jx_W} {t : Nat} {s : aSt} {past : List aSt} {bs : List Int32} {n : Nat} {K : jx_Q}
theorem TI_rh (hI : TI W t s past bs n) : ∃ b od Y tx pf ac ar Xr fc fr fh, THd W t (nI bs.length) (nI past.length) b tx pf ∧ SAt W b (t + 2) Y ∧ STr b od Y s ∧ At W (t + 2) 9 (AuC (t + 2) ac ar) ∧ AUx ac ar s.1 ∧ (t + 11 ≤ b ∧ (b + 59 ≤ t + 129 ∨ t + 147 ≤ b)) ∧ FAt W (t + 129) 5 (t + 2) (t + 130) Xr ∧ At W (t + 130) 5 (FdC (t + 130) fc fr) ∧ FDr fc fr fh ∧ fh.length ≤ n ∧ (∀ W' X' fc' fr' fh' n', Fr W W' (t + 129) 17 → FAt W' (t + 129) 5 (t + 2) (t + 130) X' → At W' (t + 130) 5 (FdC (t + 130) fc' fr') → FDr fc' fr' fh' → fh'.length ≤ n' → TI W' t s past bs n' ∧ Fr W W' t 383) := by
  obtain ⟨nw, pa, pf, tx, ac, ar, Y, Xr, fc, fr, hP, m1, m2, ⟨m3, m3b, m3c⟩, ⟨od, m4⟩, ⟨m5, m5b⟩, m6, fh, m7, m8⟩ := hI
  have hi := sa_in t (k := nw) (by omega)
  refine ⟨sa t nw, od, Y nw, tx, pf, ac, ar, Xr, fc, fr, fh, hP.1, hP.2.2.1 nw (by omega), m4, hP.2.1, m2, ⟨hi.1, hi.2.2⟩, hP.2.2.2.1, hP.2.2.2.2, m7, m8, fun W' X' fc' fr' fh' n' a1 a2 a3 a4 a5 => ⟨⟨nw, pa, pf, tx, ac, ar, Y, X', fc', fr', ⟨THd_fr hP.1 a1 (by omega) (by omega), hP.2.1.fr a1 (by omega), fun k hk => ?_, a2, a3⟩, m1, m2, ⟨m3, m3b, m3c⟩, ⟨od, m4⟩, ⟨m5, m5b⟩, m6, fh', a4, a5⟩, a1.wide (by omega) (by omega)⟩⟩
  have hj := sa_in t hk
  exact (hP.2.2.1 k hk).fr a1 (by omega)
theorem fIv_rp {A : aAU} {ky : aKy} {fh : List aFd} {lg : List aP} {B : Nat} (hA : auOk A) (hB : fh.length + 12480 ≤ B) (hl : ∀ p ∈ lg, aOk p) (hr : rpOk A ky fh lg) : ∀ k, k ≤ lg.length → fIv A ky B (aRp A ky fh lg k).1 (aRp A ky fh lg k).2.1
  | 0, _ => by
    refine ⟨?_, by show 0 + 0 ≤ 0; decide, by show fh.length + 12 * (1040 - 0) ≤ B; omega, by show 0 ≤ 2; decide, fun z => absurd z (show ¬ 0 < 0 by decide), fun z => absurd z (show ¬ 0 = 2 by decide)⟩
    show 1 < 2 ^ A.1
    have : 2 ^ 1 ≤ 2 ^ A.1 := Nat.pow_le_pow_right (by decide) hA.1
    omega
  | k + 1, h => fIv_handle hA (aRp_ok hA hl hr k (by omega)) (hr k (by omega)) (hl _ (aPc_mem (by omega))) (fIv_rp hA hB hl hr k (by omega))
theorem c_wordsBy {x : Int32} {b i pol : Nat} {od : Nat → Nat} {B : Nat} (hI : TI W t s past bs n) (hb : ∃ Y tx pf, THd W t (nI bs.length) (nI past.length) b tx pf ∧ SAt W b (t + 2) Y ∧ STr b od Y s) (hs : stI s B) (hn : n + 12480 < 2 ^ 25) (hi : i < s.2.2.2.1.length) (hx : x = nI pol) (hp : pol ≤ 3) (hK : ∀ W', TI W' t s past bs (n + 12480) → Fr W W' t 383 → (∀ fs, jx_ob W t 7 fs ↔ jx_ob W' t 7 fs) → K W' (some (.int (nI (aReplayN (auOf s.1) s.2.2.1 (fGet s.2.2.2.1 i) pol))))) : zcall n_T_wordsBy [.ref t, .ref (b + 11 + 12 * od i), .int x] W K := by
  subst hx
  have hA := au_ok hs.1
  have hf := hs.2.2.1 _ (fGet_mem hi)
  obtain ⟨Y, tx, pf, h1, hS, hT⟩ := hb
  obtain ⟨b', od', Y', tx', pf', ac, ar, Xr, fc, fr, fh, h1', -, -, hAu, hU, hbb, hX, hFd, hF, hfn, hC⟩ := TI_rh hI
  have eb : b' = b := by
    have e1 := (THd_ob h1' _).mp ((THd_ob h1 _).mpr rfl)
    have e2 := congrArg (fun l : List Value => l[3]?) e1
    have e2 : some (Value.ref b) = some (Value.ref b') := e2
    cases e2; rfl
  subst eb
  obtain ⟨t1, t2, t3, ⟨t4, t4b⟩, t5, ⟨o1, o2, o3⟩, t7⟩ := hT
  have hod := o1 i (by omega)
  obtain ⟨f0, g⟩ := t7 i hi
  obtain ⟨x0, x1, x2, x3, xp, xl, xr, x7, x8, x9, x10, x11⟩ := g
  obtain ⟨ky, eky⟩ : ∃ ky, ky = kyP (fGet s.2.2.2.1 i).1 pol := ⟨_, rfl⟩
  obtain ⟨lg, elg⟩ : ∃ lg, lg = (fGet s.2.2.2.1 i).2.2 := ⟨_, rfl⟩
  have hlg : ∀ p ∈ lg, aOk p := by rw [elg]; exact hf.2.2.2.1.1
  have hl10 : lg.length ≤ 10 := by rw [elg]; exact hf.2.2.2.1.2
  have hky : kyOk ky := by rw [eky]; exact ⟨hp, hf.1.2.1, hf.1.2.2⟩
  have hrp : rpOk (auOf s.1) ky fh lg := fun k hk => by
    have := (sk_rp (A := auOf s.1) (A' := auOf s.1) (ky := ky) (ky' := (fGet s.2.2.2.1 i).1) (fh := fh) (fh' := []) (lg := lg) (by rw [eky]; rfl) k).2
    rw [this, elg]
    exact hf.2.2.2.2.1 k (by rw [← elg]; exact hk)
  rw [← elg] at xl
  have hlo : At W (b' + 11 + 12 * od i + 0 + 5) 4 (SgC (b' + 11 + 12 * od i + 0 + 5) 10 (Y.2.2.2.2.2 (od i)).2.2.1.1 (Y.2.2.2.2.2 (od i)).2.2.1.2) := FlL (gp := 0) (hS.2.2.2 _ hod)
  obtain ⟨s1, s2, s3, s4⟩ := xl
  have loop : ∀ (m k : Nat), k + m = lg.length → ∀ W1 X1 fc1 fr1 lk, Fr W W1 (t + 129) 17 → FAt W1 (t + 129) 5 (t + 2) (t + 130) X1 → At W1 (t + 130) 5 (FdC (t + 130) fc1 fr1) → FWr 0 X1 ky (aRp (auOf s.1) ky fh lg k) lk → FDr fc1 fr1 (aRp (auOf s.1) ky fh lg k).1.1.2.2.2.2.1 → zwp n_T_wordsBy 1 [(0, .ref t), (3, .ref (b' + 11 + 12 * od i + 0 + 5)), (4, .int (nI k))] [] 0 0 W1 K := by
    intro m
    induction m with
    | zero =>
      intro k hk W1 X1 fc1 fr1 lk q1 q2 q3 q4 q5
      have hl1 := hlo.fr q1 (by omega)
      have ho : ∀ fs, jx_ob W1 (b' + 11 + 12 * od i + 0 + 5) 4 fs ↔ fs = SgF (b' + 11 + 12 * od i + 0 + 5) (Y.2.2.2.2.2 (od i)).2.2.1.1 := fun fs => ob_iff (hl1 0 (by decide))
      have h1k := THd_fr h1 q1 (by omega) (by omega)
      have hR := FlR q2
      have hro : ∀ fs, jx_ob W1 (t + 129 + 5 + 9) 3 fs ↔ fs = RdF (t + 129 + 5 + 9) (t + 2) (t + 130) X1.2.2.2.1 X1.2.2.2.2.1 := fun fs => ob_iff (hR 0 (by decide))
      have hfo : ∀ fs, jx_ob W1 (t + 129) 2 fs ↔ fs = FlF (t + 129 + 5) X1.1 := fun fs => ob_iff q2.1
      obtain rfl : k = lg.length := by omega
      refine b_T_wordsBy_1 ?_
      simp only [ho, SgF_0, and_assoc, exists_and_left, exists_eq_left, exists_eq_left', Option.some.injEq, Value.int.injEq, Value.ref.injEq, Value.long.injEq, true_and, and_true, exists_eq, exists_true_left]
      rw [s1]
      refine ⟨fun _ => b_T_wordsBy_2 ?_, fun z => absurd (Int32.le_refl _) z⟩
      simp only [THd_ob h1k, TF_5, hfo, FlF_6, hro, RdF_14, and_assoc, exists_and_left, exists_eq_left, exists_eq_left', Option.some.injEq, Value.int.injEq, Value.ref.injEq, Value.long.injEq, true_and, and_true, exists_eq, exists_true_left]
      have hiv := fIv_rp (B := fh.length + 12480) hA (Nat.le_refl _) hlg hrp lg.length (Nat.le_refl _)
      have hn2 := hC W1 X1 fc1 fr1 _ (n + 12480) q1 q2 q3 q5 (by have := hiv.2.2.1; omega)
      have e14 : X1.2.2.2.1 14 = nI (0 ||| afm (aRp (auOf s.1) ky fh lg lg.length)) := q4.2.2.2.2.2.2.1.2.2.2.2.2.2.2.2.2.2.2
      rw [Nat.zero_or, rp_afm, ← rp_afm (fh := s.2.2.1), eky, elg] at e14
      rw [e14]
      exact hK W1 hn2.1 hn2.2 (fun fs => by rw [THd_ob h1, THd_ob h1k])
    | succ m ih =>
      intro k hk W1 X1 fc1 fr1 lk q1 q2 q3 q4 q5
      have hl1 := hlo.fr q1 (by omega)
      have ho : ∀ fs, jx_ob W1 (b' + 11 + 12 * od i + 0 + 5) 4 fs ↔ fs = SgF (b' + 11 + 12 * od i + 0 + 5) (Y.2.2.2.2.2 (od i)).2.2.1.1 := fun fs => ob_iff (hl1 0 (by decide))
      have hi1 : ∀ m f, jx_ia W1 (b' + 11 + 12 * od i + 0 + 5 + 1) m f ↔ m = 10 ∧ f = (Y.2.2.2.2.2 (od i)).2.2.1.2 1 := fun m f => ia_iff (hl1 1 (by decide))
      have hi2 : ∀ m f, jx_ia W1 (b' + 11 + 12 * od i + 0 + 5 + 2) m f ↔ m = 10 ∧ f = (Y.2.2.2.2.2 (od i)).2.2.1.2 2 := fun m f => ia_iff (hl1 2 (by decide))
      have h1k := THd_fr h1 q1 (by omega) (by omega)
      obtain ⟨p1, p2, p3⟩ := s4 k (by omega)
      have hok := hlg _ (aPc_mem (l := lg) (i := k) (by omega))
      have h40 := hok.2.2.1
      refine b_T_wordsBy_1 ?_
      simp only [ho, SgF_0, SgF_1, SgF_2, SgF_3, THd_ob h1k, TF_5, hi1, hi2, and_assoc, exists_and_left, exists_eq_left, exists_eq_left', Option.some.injEq, Value.int.injEq, Value.ref.injEq, Value.long.injEq, true_and, and_true, exists_eq, exists_true_left]
      rw [s1, nI_clamp (by omega), p1, p2, lit_40, pk_mul]
      refine ⟨fun z => absurd ((nI_leI (by omega) (by omega)).mp z) (by omega), fun _ => ⟨fun z => absurd ((nI_leI (a := 10) (by decide) (by omega)).mp z) (by omega), fun _ => ⟨vp_in_nI (by omega) (by decide), vp_in_nI (by omega) (by decide), ⟨_, q2.1⟩, ?_⟩⟩⟩
      refine c_accept (p := aPc lg k) (m := 400) (fr0 := k * 40) (B := fh.length + 12480) (A := auOf s.1) (ac := ac) (ar := ar) (f := (Y.2.2.2.2.2 (od i)).2.2.1.2 3) ⟨hAu.fr q1 (by omega), AUx_AUr hU, hA, Or.inr (Or.inr (by omega)), Or.inr (by omega), Or.inr (by omega)⟩ q2 q3 hky (by omega) q4 q5 (aRp_ok hA hlg hrp k (by omega)) (fIv_rp hA (Nat.le_refl _) hlg hrp k (by omega)) (hrp k (by omega)) (hl1 3 (by decide)) (by omega) (by omega) (by omega) (by decide) hok (fun j hj => by rw [Nat.mul_comm k 40]; exact p3 j hj) rfl rfl rfl (fun X' fc' fr' k1 k2 => ⟨rfl, ?_⟩)
      rw [nI_1]
      exact ih (k + 1) (by omega) _ X' fc' fr' _ (q1.tr (((Fr.rf.bw (by omega) (by omega)).bw (by omega) (by omega)).bw (by omega) (by omega))) Flw_at (At_out (At_out At_bw (by omega)) (by omega)) k1 k2
  refine e_T_wordsBy (b_T_wordsBy_0 ?_)
  have hro : ∀ fs, jx_ob W (b' + 11 + 12 * od i + 0 + 9) 3 fs ↔ fs = RdF (b' + 11 + 12 * od i + 0 + 9) (t + 2) (b' + 1) (Y.2.2.2.2.2 (od i)).2.2.2.1 (Y.2.2.2.2.2 (od i)).2.2.2.2.1 := fun fs => SAt_ro hS hod fs
  simp only [THd_ob h1, TF_5, SAt_fl hS hod, FlF_0, FlF_2, FlF_6, hro, RdF_3, and_assoc, exists_and_left, exists_eq_left, exists_eq_left', Option.some.injEq, Value.int.injEq, Value.ref.injEq, Value.long.injEq, true_and, and_true, exists_eq, exists_true_left]
  rw [x0, x2, xr.2.1]
  refine ⟨⟨_, hX.1⟩, c_fbegin (ky := ky) (fh := fh) hX (by rw [eky]; rfl) (by rw [eky]; rfl) (by rw [eky]; rfl) (by rw [eky]; rfl) (fun X' k1 => ⟨rfl, ?_⟩)⟩
  have fr1 : Fr W (Flw W (t + 129) 5 (t + 2) (t + 130) X') (t + 129) 17 := (Fr.rf.bw (by omega) (by omega)).bw (by omega) (by omega)
  have hS1 := hS.fr fr1 (by omega)
  simp only [SAt_fl hS1 hod, FlF_5, and_assoc, exists_and_left, exists_eq_left, exists_eq_left', Option.some.injEq, Value.int.injEq, Value.ref.injEq, Value.long.injEq, true_and, and_true, exists_eq, exists_true_left]
  exact loop lg.length 0 (Nat.zero_add _) _ X' fc fr [] fr1 Flw_at (At_out (At_out hFd (by omega)) (by omega)) k1 hF
theorem rep_lt {A : aAU} {fh : List aFd} {f : aFlow} {pol : Nat} (hA : auOk A) (hl : ∀ p ∈ f.2.2, aOk p) (hr : rpOk A (kyP f.1 pol) fh f.2.2) : aReplayN A fh f pol < 64 := (aRp_ok hA hl hr f.2.2.length (Nat.le_refl _)).1.2.2.2.1
theorem c_replay {key x : Int32} {B : Nat} (hI : TI W t s past bs n) (hs : stI s B) (hn : n + 12480 < 2 ^ 25) (hK : ∀ W', TI W' t s past bs (n + 12480) → Fr W W' t 383 → K W' (some (.int (aAsk s 0 3 key x (fun f k => nI (aReplayN (auOf s.1) s.2.2.1 f k)))))) : zcall n_T_replay [.ref t, .int key, .int x] W K := by
  obtain ⟨b, od, Y, tx, pf, ac, ar, h1, hS, hT, h2, h3⟩ := TI_now hI
  have so : ∃ fs, jx_ob W b 5 fs := ⟨_, hS.1.1⟩
  have hI2 : TI W t s past bs (n + 12480) := by
    obtain ⟨nw, pa, pf, tx, ac, ar, Y, Xr, fc, fr, hP, m1, m2, m3, m4, m5, m6, fh, m7, m8⟩ := hI
    exact ⟨nw, pa, pf, tx, ac, ar, Y, Xr, fc, fr, hP, m1, m2, m3, m4, m5, m6, fh, m7, by omega⟩
  have hK0 := hK W hI2 Fr.rf
  refine e_T_replay (b_T_replay_0 (s_T_isKey (fun a => ⟨_, rfl, fun z => absurd z (by decide), fun _ => ⟨fun z => b_T_replay_1 ?_, fun z => ⟨fun z2 => b_T_replay_2 ?_, fun z2 => b_T_replay_1 ?_⟩⟩⟩) (fun a => ⟨_, rfl, fun _ => b_T_replay_1 ?_, fun z => absurd rfl z⟩)))
  · rw [ask_x (fun t => absurd z (Int32.not_lt.mpr t.1))] at hK0; exact hK0
  · have hx : (0 : Int32) ≤ x ∧ x ≤ nI 3 := ⟨Int32.not_lt.mp z, rng_lt (hi := 3) (by decide) z2⟩
    obtain ⟨k, hk, ek⟩ := nat_n (hi := 4) (by decide) z z2
    simp only [THd_ob h1, TF_3, and_assoc, exists_and_left, exists_eq_left, exists_eq_left', Option.some.injEq, Value.int.injEq, Value.ref.injEq, Value.long.injEq, true_and, and_true, exists_eq, exists_true_left]
    refine ⟨so, c_placeOf hS hT ⟨_, rfl, fun y => b_T_replay_3 ?_, fun y => b_T_replay_4 ?_⟩⟩
    · have hT' := hT
      obtain ⟨t1, t2, t3, ⟨t4, t4b⟩, t5, ⟨o1, o2, o3⟩, t7⟩ := hT
      cases e : aPlace s.2.2.2.1 key with
      | none => rw [e] at y; exact absurd rfl y
      | some i =>
        have hi := (aPlace_lt e).1
        simp only [THd_ob h1, TF_3, HAt_ob hS.1, StF_3, HAt_10 hS.1, and_assoc, exists_and_left, exists_eq_left, exists_eq_left', Option.some.injEq, Value.int.injEq, Value.ref.injEq, Value.long.injEq, true_and, and_true, exists_eq, exists_true_left]
        refine ⟨vin4 (by omega), b + 11 + 12 * od i, by show Y.2.2.1 (nI i).toNatClampNeg = _; rw [nI_clamp (by omega)]; exact o3 i (by omega), ?_⟩
        refine c_wordsBy (pol := k) hI ⟨Y, tx, pf, h1, hS, hT'⟩ hs hn hi ek (by omega) (fun W' a1 a2 a3 => ⟨_, rfl, b_T_replay_4 ?_⟩)
        have := hK W' a1 a2
        rw [ask_some a hx e (by omega) ek (by omega)] at this
        exact this
    · cases e : aPlace s.2.2.2.1 key with
      | none => rw [ask_none a hx e] at hK0; exact hK0
      | some i =>
        have := (aPlace_lt e).1
        have := hT.2.2.2.1.2
        rw [e] at y; exact absurd y (nI_ne1 (by omega))
  · rw [ask_x (fun t => z2 (rng_ge (hi := 3) (by decide) t.2))] at hK0; exact hK0
  · rw [ask_key a] at hK0; exact hK0
theorem and63 : ∀ r, r < 64 → (63 : Int32) &&& nI r = nI r ∧ (-1 : Int32) &&& nI r = nI r := by decide +kernel
theorem c_evasions {key : Int32} {B : Nat} (hI : TI W t s past bs n) (hs : stI s B) (hn : n + 49920 < 2 ^ 25) (hK : ∀ W', TI W' t s past bs (n + 49920) → Fr W W' t 383 → K W' (some (.int (aEvas (auOf s.1) s key)))) : zcall n_T_evasions [.ref t, .int key] W K := by
  obtain ⟨b, od, Y, tx, pf, ac, ar, h1, hS, hT, h2, h3⟩ := TI_now hI
  have so : ∃ fs, jx_ob W b 5 fs := ⟨_, hS.1.1⟩
  have h4 := hT.2.2.2.1.2
  have hI2 : TI W t s past bs (n + 49920) := by
    obtain ⟨nw, pa, pf, tx, ac, ar, Y, Xr, fc, fr, hP, m1, m2, m3, m4, m5, m6, fh, m7, m8⟩ := hI
    exact ⟨nw, pa, pf, tx, ac, ar, Y, Xr, fc, fr, hP, m1, m2, m3, m4, m5, m6, fh, m7, by omega⟩
  have hK0 := hK W hI2 Fr.rf
  unfold aEvas at hK hK0
  refine e_T_evasions (b_T_evasions_0 (s_T_isKey (fun a => ⟨_, rfl, fun _ => b_T_evasions_1 ?_, fun z => absurd z (by decide)⟩) (fun a => ⟨_, rfl, fun z => absurd rfl z, fun _ => ?_⟩)))
  · simp only [THd_ob h1, TF_3, and_assoc, exists_and_left, exists_eq_left, exists_eq_left', Option.some.injEq, Value.int.injEq, Value.ref.injEq, Value.long.injEq, true_and, and_true, exists_eq, exists_true_left]
    refine ⟨so, c_placeOf hS hT ⟨_, rfl, fun y => b_T_evasions_2 ?_, fun y => ?_⟩⟩
    · cases e : aPlace s.2.2.2.1 key with
      | none => rw [e] at y; exact absurd rfl y
      | some i =>
        have hi := (aPlace_lt e).1
        rw [asked_some a e, if_pos (show (0 : Int32) ≤ nI i from (nI_leI (a := 0) (by decide) (by omega)).mpr (Nat.zero_le _)), nI_clamp (by omega)] at hK
        have hlt : ∀ k, k ≤ 3 → aReplayN (auOf s.1) s.2.2.1 (fGet s.2.2.2.1 i) k < 64 := fun k hk => rep_lt (au_ok hs.1) (hs.2.2.1 _ (fGet_mem hi)).2.2.2.1.1 (hs.rp _ (fGet_mem hi) k hk)
        have loop : ∀ (m k : Nat), k + m = 4 → ∀ W1, TI W1 t s past bs (n + 12480 * k) → Fr W W1 t 383 → zwp n_T_evasions 3 [(0, .ref t), (2, .int (nI i)), (3, .int (aEvO (auOf s.1) s.2.2.1 (fGet s.2.2.2.1 i) k)), (4, .int (if k = 0 then 63 else aEvA (auOf s.1) s.2.2.1 (fGet s.2.2.2.1 i) k)), (5, .int (nI k))] [] 0 0 W1 K := by
          intro m
          induction m with
          | zero =>
            intro k hk W1 q1 q2
            obtain rfl : k = 4 := by omega
            exact b_T_evasions_3 ⟨fun _ => b_T_evasions_4 (hK W1 q1 q2), fun z => absurd (by decide) z⟩
          | succ m ih =>
            intro k hk W1 q1 q2
            obtain ⟨b', od', Y', tx', pf', ac', ar', h1', hS', hT', -⟩ := TI_now q1
            have o := hT'.2.2.2.2.2.1
            refine b_T_evasions_3 ⟨fun z => absurd ((nI_leI (a := 4) (by decide) (by omega)).mp z) (by omega), fun _ => ?_⟩
            simp only [THd_ob h1', TF_3, HAt_ob hS'.1, StF_3, HAt_10 hS'.1, and_assoc, exists_and_left, exists_eq_left, exists_eq_left', Option.some.injEq, Value.int.injEq, Value.ref.injEq, Value.long.injEq, true_and, and_true, exists_eq, exists_true_left]
            refine ⟨vin4 (by omega), b' + 11 + 12 * od' i, by rw [nI_clamp (by omega)]; exact o.2.2 i (by omega), ?_⟩
            refine c_wordsBy (pol := k) q1 ⟨Y', tx', pf', h1', hS', hT'⟩ hs (by omega) hi rfl (by omega) (fun W2 a1 a2 a3 => ⟨_, rfl, ?_⟩)
            rw [nI_1]
            have e4 : (if k = 0 then (63 : Int32) else aEvA (auOf s.1) s.2.2.1 (fGet s.2.2.2.1 i) k) &&& nI (aReplayN (auOf s.1) s.2.2.1 (fGet s.2.2.2.1 i) k) = if k + 1 = 0 then 63 else aEvA (auOf s.1) s.2.2.1 (fGet s.2.2.2.1 i) (k + 1) := by
              rw [if_neg (Nat.succ_ne_zero k)]
              show _ = aEvA (auOf s.1) s.2.2.1 (fGet s.2.2.2.1 i) k &&& nI (aReplayN (auOf s.1) s.2.2.1 (fGet s.2.2.2.1 i) k)
              by_cases e0 : k = 0
              · rw [if_pos e0, (and63 _ (hlt k (by omega))).1]
                rw [e0]
                exact ((and63 _ (hlt 0 (by omega))).2).symm
              · rw [if_neg e0]
            rw [e4]
            exact ih (k + 1) (by omega) W2 (by rw [show n + 12480 * (k + 1) = n + 12480 * k + 12480 by omega]; exact a1) (q2.tr a2)
        exact loop 4 0 rfl W hI Fr.rf
    · cases e : aPlace s.2.2.2.1 key with
      | none => rw [asked_none a e, if_neg (by decide)] at hK0; exact hK0
      | some i =>
        have := (aPlace_lt e).1
        rw [e] at y; exact absurd y (nI_ne1 (by omega))
  · rw [asked_key a, if_neg (by decide)] at hK0; exact hK0
end CRep
