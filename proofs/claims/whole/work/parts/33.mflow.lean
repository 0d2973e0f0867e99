/-! THE MODEL's FLOW: 710 ints of the page from b on (g); its pieces -/
def PC (g : Nat → Int32) (b : Nat) (p : aP) : Prop := g b = nI p.1 ∧ g (b + 1) = nI p.2.length ∧ ∀ j, j < p.2.length → g (b + 2 + j) = p.2.getD j 0
def MP (g : Nat → Int32) (l : List aP) : Prop := g 5 = nI l.length ∧ l.length ≤ 6 ∧ (∀ p ∈ l, aOk p) ∧ ∀ i, i < l.length → PC g (38 + 42 * i) (aPc l i)
section MFlow
variable {w : jx_W} {q : Nat} {c : Nat → Int32} {r : Nat → Nat → Int32} {K : jx_Q} {P g : Nat → Int32} {b : Nat} {l : List aP}
theorem f_of {x : Int32} {i : Nat} (hb : c 12 = nI b) (hx : x = nI i) (hi : i < 710) (hf : b + 710 ≤ 22416) (hK : K (mw w q c (rup r 0 (pgf P b 710 g))) (some (.int (g i)))) : zcall n_M_of [.ref q, .int x] (mw w q c (rup r 0 (pgf P b 710 g))) K := by
  refine s_M_of hb hx (by omega) ?_
  rw [rup_s, pgf_in hi]
  exact hK
theorem f_put {x v : Int32} {i : Nat} (hb : c 12 = nI b) (hx : x = nI i) (hi : i < 710) (hf : b + 710 ≤ 22416) (hK : K (mw w q c (rup r 0 (pgf P b 710 (upd g i v)))) none) : zcall n_M_put [.ref q, .int x, .int v] (mw w q c (rup r 0 (pgf P b 710 g))) K := by
  refine s_M_put hb hx (by omega) ?_
  rw [rup_s, rup_rup, pgf_upd rfl hi]
  exact hK
theorem f_adds {x v : Int32} {i : Nat} (hb : c 12 = nI b) (hx : x = nI i) (hi : i < 710) (hf : b + 710 ≤ 22416) (hK : K (mw w q c (rup r 0 (pgf P b 710 (upd g i (g i + v))))) none) : zcall n_M_adds [.ref q, .int x, .int v] (mw w q c (rup r 0 (pgf P b 710 g))) K := by
  refine s_M_adds hb hx (by omega) ?_
  rw [rup_s, rup_rup, pgf_in hi, pgf_upd rfl hi]
  exact hK
theorem s_M_pieceAt {x : Int32} {i : Nat} (hb : c 12 = nI b) (hx : x = nI i) (hK : K (mw w q c r) (some (.int (nI (b + 38 + 42 * i))))) : zcall n_M_pieceAt [.ref q, .int x] (mw w q c r) K := by
  refine e_M_pieceAt (b_M_pieceAt_0 ?_)
  simp only [and_assoc, exists_and_left, exists_eq_left, exists_eq_left', Option.some.injEq, Value.int.injEq, Value.ref.injEq, Value.long.injEq, true_and, and_true, exists_eq, exists_true_left, mw_ob, mw_ia0, mw_ia2, mw_ia5, mw_ia6, mw_ia7, mw_ia8, mw_ia9, mw_ia10, mw_ia11, mw_ia15, mw_ia16, mF_0, mF_1, mF_2, mF_3, mF_4, mF_5, mF_6, mF_7, mF_8, mF_9, mF_10, mF_11, mF_12, mF_13, mF_14, mF_15, mF_16, mF_len, mF_s1, mF_s3, mF_s4, mF_s12, mF_s13, mF_s14, mw_uob, mw_u0, mw_u2, mw_u5, mw_u6, mw_u7, mw_u8, mw_u9, mw_u10, mw_u11, mw_u15, mw_u16, Nat.reduceLT, rup_s, rup_rup]
  rw [hb, hx, lit_38, lit_42, pk_mul, nI_add, nI_add]
  exact hK
theorem f_covers {x y : Int32} {k o a : Nat} (hb : c 12 = nI b) (hf : b + 710 ≤ 22416) (hp : MP g l) (hk : k < l.length) (hx : x = nI k) (hy : y = nI o) (ho : o < 2 ^ 30) (ha : g 4 = nI a) (ha2 : a < 2 ^ 30) (h1 : a ≤ o → aCov (aPc l k) o = true → K (mw w q c (rup r 0 (pgf P b 710 g))) (some (.int 1))) (h0 : ¬ (a ≤ o ∧ aCov (aPc l k) o = true) → K (mw w q c (rup r 0 (pgf P b 710 g))) (some (.int 0))) : zcall n_M_covers [.ref q, .int x, .int y] (mw w q c (rup r 0 (pgf P b 710 g))) K := by
  obtain ⟨hp1, hp2, hp3, hp4⟩ := hp
  obtain ⟨g1, g2, -⟩ := hp4 k hk
  obtain ⟨o1, o2, o3, -⟩ := hp3 _ (aPc_mem hk)
  subst hx hy
  have e1 : pgf P b 710 g (b + 38 + 42 * k) = nI (aPc l k).1 := (pgf_at (by omega) (by omega)).trans g1
  have e2 : pgf P b 710 g (b + 38 + 42 * k + 1) = nI (aPc l k).2.length := (pgf_at (k := 38 + 42 * k + 1) (by omega) (by omega)).trans g2
  have z0 : ∀ w' K', (K' w' (some (.int 0)) → zwp n_M_covers 1 [] [] 0 0 w' K') := fun w' K' h => b_M_covers_1 (b_M_covers_2 ⟨b01, h⟩)
  have zin : vp_in (nI (b + 38 + 42 * k)) 22416 := vp_in_nI (by omega) (by decide)
  have zin1 : vp_in (nI (b + 38 + 42 * k + 1)) 22416 := vp_in_nI (by omega) (by decide)
  refine e_M_covers (b_M_covers_0 ?_)
  simp only [and_assoc, exists_and_left, exists_eq_left, exists_eq_left', Option.some.injEq, Value.int.injEq, Value.ref.injEq, Value.long.injEq, true_and, and_true, exists_eq, exists_true_left, mw_ob, mw_ia0, mw_ia2, mw_ia5, mw_ia6, mw_ia7, mw_ia8, mw_ia9, mw_ia10, mw_ia11, mw_ia15, mw_ia16, mF_0, mF_1, mF_2, mF_3, mF_4, mF_5, mF_6, mF_7, mF_8, mF_9, mF_10, mF_11, mF_12, mF_13, mF_14, mF_15, mF_16, mF_len, mF_s1, mF_s3, mF_s4, mF_s12, mF_s13, mF_s14, mw_uob, mw_u0, mw_u2, mw_u5, mw_u6, mw_u7, mw_u8, mw_u9, mw_u10, mw_u11, mw_u15, mw_u16, Nat.reduceLT, rup_s, rup_rup]
  refine s_M_pieceAt hb rfl ?_
  simp only [and_assoc, exists_and_left, exists_eq_left, exists_eq_left', Option.some.injEq, Value.int.injEq, Value.ref.injEq, Value.long.injEq, true_and, and_true, exists_eq, exists_true_left, mw_ob, mw_ia0, mw_ia2, mw_ia5, mw_ia6, mw_ia7, mw_ia8, mw_ia9, mw_ia10, mw_ia11, mw_ia15, mw_ia16, mF_0, mF_1, mF_2, mF_3, mF_4, mF_5, mF_6, mF_7, mF_8, mF_9, mF_10, mF_11, mF_12, mF_13, mF_14, mF_15, mF_16, mF_len, mF_s1, mF_s3, mF_s4, mF_s12, mF_s13, mF_s14, mw_uob, mw_u0, mw_u2, mw_u5, mw_u6, mw_u7, mw_u8, mw_u9, mw_u10, mw_u11, mw_u15, mw_u16, Nat.reduceLT, rup_s, rup_rup]
  refine ⟨zin, ?_⟩
  refine f_of hb (i := 4) rfl (by decide) hf ?_
  simp only [and_assoc, exists_and_left, exists_eq_left, exists_eq_left', Option.some.injEq, Value.int.injEq, Value.ref.injEq, Value.long.injEq, true_and, and_true, exists_eq, exists_true_left, mw_ob, mw_ia0, mw_ia2, mw_ia5, mw_ia6, mw_ia7, mw_ia8, mw_ia9, mw_ia10, mw_ia11, mw_ia15, mw_ia16, mF_0, mF_1, mF_2, mF_3, mF_4, mF_5, mF_6, mF_7, mF_8, mF_9, mF_10, mF_11, mF_12, mF_13, mF_14, mF_15, mF_16, mF_len, mF_s1, mF_s3, mF_s4, mF_s12, mF_s13, mF_s14, mw_uob, mw_u0, mw_u2, mw_u5, mw_u6, mw_u7, mw_u8, mw_u9, mw_u10, mw_u11, mw_u15, mw_u16, Nat.reduceLT, rup_s, rup_rup]
  rw [nI_clamp (by omega), e1, ha]
  refine ⟨fun h => z0 _ _ (h0 (fun z => absurd ((nI_ltI (by omega) (by omega)).mp h) (by omega))), fun h => ⟨fun h2 => z0 _ _ (h0 (fun z => absurd ((nI_ltI (by omega) (by omega)).mp h2) (by have := aCov_iff.mp z.2; omega))), fun h2 => ?_⟩⟩
  refine s_M_pieceAt hb rfl ?_
  simp only [and_assoc, exists_and_left, exists_eq_left, exists_eq_left', Option.some.injEq, Value.int.injEq, Value.ref.injEq, Value.long.injEq, true_and, and_true, exists_eq, exists_true_left, mw_ob, mw_ia0, mw_ia2, mw_ia5, mw_ia6, mw_ia7, mw_ia8, mw_ia9, mw_ia10, mw_ia11, mw_ia15, mw_ia16, mF_0, mF_1, mF_2, mF_3, mF_4, mF_5, mF_6, mF_7, mF_8, mF_9, mF_10, mF_11, mF_12, mF_13, mF_14, mF_15, mF_16, mF_len, mF_s1, mF_s3, mF_s4, mF_s12, mF_s13, mF_s14, mw_uob, mw_u0, mw_u2, mw_u5, mw_u6, mw_u7, mw_u8, mw_u9, mw_u10, mw_u11, mw_u15, mw_u16, Nat.reduceLT, rup_s, rup_rup]
  rw [nI_1, nI_clamp (by omega), e2, nI_add]
  refine ⟨zin1, fun h3 => z0 _ _ (h0 (fun z => absurd ((nI_leI (by omega) (by omega)).mp h3) (by have := aCov_iff.mp z.2; omega))), fun h3 => b_M_covers_2 ⟨b11, h1 ?_ (aCov_iff.mpr ⟨?_, ?_⟩)⟩⟩
  · exact Nat.not_lt.mp (fun z => h ((nI_ltI (by omega) (by omega)).mpr z))
  · exact Nat.not_lt.mp (fun z => h2 ((nI_ltI (by omega) (by omega)).mpr z))
  · exact Nat.not_le.mp (fun z => h3 ((nI_leI (by omega) (by omega)).mpr z))
end MFlow
