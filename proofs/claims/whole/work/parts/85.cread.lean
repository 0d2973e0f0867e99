/-! THE CLASS: the reader: a character comes -/
def RGr (rr : Nat → Nat → Int32) (h : aHi) : Prop := ∀ k, k < 8 → k < h.length → rr 9 ((h.length - 1 - k) % 8) = (hiA h k).1 ∧ rr 10 ((h.length - 1 - k) % 8) = (hiA h k).2
def RDr (f0 : Nat) (X : cRd) (key : Int32) (fl : Nat) (H : aH) : Prop := X.1 2 = key ∧ X.1 3 = nI fl ∧ X.1 4 = nI H.2.1 ∧ (H.2.1 = 2 → X.1 5 = nI H.2.2) ∧ X.1 6 = oob H.1.2.2.2.1 ∧ X.1 7 = nI H.1.1 ∧ X.2.1 = lN H.1.2.1 ∧ X.1 11 = nI H.1.2.2.1.length ∧ RGr X.2.2 H.1.2.2.1 ∧ X.1 12 = nI H.1.2.2.2.2.2.1 ∧ X.1 13 = nI H.1.2.2.2.2.2.2.1 ∧ X.1 14 = nI (f0 ||| H.1.2.2.2.2.2.2.2)
theorem Rdw_eq {W : jx_W} {a au fd : Nat} {c : Nat → Int32} {p : Int64} {r : Nat → Nat → Int32} (h : At W a 3 (RdC a au fd c p r)) : Rdw W a au fd c p r = W := bw_self h
theorem AuAt_ob {V : jx_W} {au : Nat} {ac : Nat → Int32} {ar : Nat → Nat → Int32} (h : At V au 9 (AuC au ac ar)) (fs : List Value) : jx_ob V au 0 fs ↔ fs = AuF au ac := ob_iff (h 0 (by decide))
theorem AuAt_5 {V : jx_W} {au : Nat} {ac : Nat → Int32} {ar : Nat → Nat → Int32} (h : At V au 9 (AuC au ac ar)) (n : Nat) (f : Nat → Int32) : jx_ia V (au + 5) n f ↔ n = 49 ∧ f = ar 5 := ia_iff (h 5 (by decide))
theorem AuAt_6 {V : jx_W} {au : Nat} {ac : Nat → Int32} {ar : Nat → Nat → Int32} (h : At V au 9 (AuC au ac ar)) (n : Nat) (f : Nat → Int32) : jx_ia V (au + 6) n f ↔ n = 6 ∧ f = ar 6 := ia_iff (h 6 (by decide))
theorem FdAt_ob {V : jx_W} {fd : Nat} {c : Nat → Int32} {r : Nat → Nat → Int32} (h : At V fd 5 (FdC fd c r)) (fs : List Value) : jx_ob V fd 1 fs ↔ fs = FdF fd c := ob_iff (h 0 (by decide))
theorem RF_swap {W : jx_W} {a au fd : Nat} {c : Nat → Int32} {p : Int64} {r : Nat → Nat → Int32} {fc fc' : Nat → Int32} {fr fr' : Nat → Nat → Int32} (hd : a + 3 ≤ fd ∨ fd + 5 ≤ a) : Fdw (Rdw (Fdw W fd fc fr) a au fd c p r) fd fc' fr' = Rdw (Fdw W fd fc' fr') a au fd c p r := by
  unfold Fdw Rdw
  rw [bw_comm (b := a) (n := 3) (b' := fd) (n' := 5) hd, bw_same]
/-- what a reader stands on -/
def RCx (W : jx_W) (a au fd : Nat) (ac : Nat → Int32) (ar : Nat → Nat → Int32) (A : aAU) : Prop := At W au 9 (AuC au ac ar) ∧ AUr ac ar A ∧ auOk A ∧ (a + 3 ≤ fd ∨ fd + 5 ≤ a) ∧ (a + 3 ≤ au ∨ au + 9 ≤ a) ∧ (fd + 5 ≤ au ∨ au + 9 ≤ fd)
theorem RCx.at {W : jx_W} {a au fd : Nat} {ac : Nat → Int32} {ar : Nat → Nat → Int32} {A : aAU} (h : RCx W a au fd ac ar A) {fc : Nat → Int32} {fr : Nat → Nat → Int32} {c : Nat → Int32} {p : Int64} {r : Nat → Nat → Int32} : At (Rdw (Fdw W fd fc fr) a au fd c p r) au 9 (AuC au ac ar) := At_out (At_out h.1 (by have := h.2.2.2.2.2; omega)) (by have := h.2.2.2.2.1; omega)
theorem RCx.fd {W : jx_W} {a au fd : Nat} {ac : Nat → Int32} {ar : Nat → Nat → Int32} {A : aAU} (h : RCx W a au fd ac ar A) {fc : Nat → Int32} {fr : Nat → Nat → Int32} {c : Nat → Int32} {p : Int64} {r : Nat → Nat → Int32} : At (Rdw (Fdw W fd fc fr) a au fd c p r) fd 5 (FdC fd fc fr) := At_out At_bw (by have := h.2.2.2.1; omega)
theorem RGr_push {rr : Nat → Nat → Int32} {h : aHi} {x st : Int32} (hr : RGr rr h) : RGr (rup (rup rr 9 (upd (rr 9) (h.length % 8) x)) 10 (upd (rr 10) (h.length % 8) st)) ((x, st) :: h) := fun k hk hl => by
  rw [List.length_cons] at hl ⊢
  rw [Nat.add_sub_cancel]
  match k, hk, hl with
  | 0, _, _ => exact ⟨if_pos rfl, if_pos rfl⟩
  | k + 1, hk, hl =>
    have := hr k (by omega) (by omega)
    rw [show h.length - (k + 1) = h.length - 1 - k by omega]
    exact ⟨(if_neg (by omega)).trans this.1, (if_neg (by omega)).trans this.2⟩
theorem s_isLetter {x : Int32} {n : Nat} {w : jx_W} {K : jx_Q} (hx : x = nI n) (hn : n < 1000) (h1 : lett n = true → K w (some (.int 1))) (h0 : lett n = false → K w (some (.int 0))) : zcall n_T_isLetter [.int x] w K := by
  subst hx
  have e : lett n = true ↔ 97 ≤ n ∧ n ≤ 122 := by simp [lett]
  have f : ¬ (97 ≤ n ∧ n ≤ 122) → lett n = false := fun h => by
    cases hl : lett n with
    | false => rfl
    | true => exact absurd (e.mp hl) h
  refine e_T_isLetter (b_T_isLetter_0 ⟨fun z => b_T_isLetter_1 (b_T_isLetter_2 ⟨b01, h0 (f ?_)⟩), fun z => ⟨fun y => b_T_isLetter_1 (b_T_isLetter_2 ⟨b01, h0 (f ?_)⟩), fun y => b_T_isLetter_2 ⟨b11, h1 (e.mpr ⟨?_, ?_⟩)⟩⟩⟩)
  · have := (nI_ltI (b := 97) (by omega) (by decide)).mp z; omega
  · have := (nI_ltI (a := 122) (by decide) (by omega)).mp y; omega
  · exact Nat.not_lt.mp (fun t => z ((nI_ltI (b := 97) (by omega) (by decide)).mpr t))
  · exact Nat.not_lt.mp (fun t => y ((nI_ltI (a := 122) (by decide) (by omega)).mpr t))
theorem s_hexadecimal {x : Int32} {n : Nat} {w : jx_W} {K : jx_Q} (hx : x = nI n) (hn : n < 1000) (hK : K w (some (.int (oC (hexv n))))) : zcall n_R_hexadecimal [.int x] w K := by
  subst hx
  unfold hexv at hK
  have l1 : ∀ k : Nat, k < 1000 → (nI n < nI k ↔ n < k) := fun k hk => nI_ltI (by omega) (by omega)
  have l2 : ∀ k : Nat, k < 1000 → (nI k < nI n ↔ k < n) := fun k hk => nI_ltI (by omega) (by omega)
  have c1 : ¬ (48 ≤ n ∧ n ≤ 57) → zwp n_R_hexadecimal 1 [(0, .int (nI n))] [] 0 0 w K := fun h1 => by
    rw [if_neg h1] at hK
    have c2 : ¬ (65 ≤ n ∧ n ≤ 70) → zwp n_R_hexadecimal 2 [(0, .int (nI n))] [] 0 0 w K := fun h2 => by
      rw [if_neg h2] at hK
      refine b_R_hexadecimal_2 ⟨fun z => b_R_hexadecimal_3 (b_R_hexadecimal_4 ?_), fun z => ⟨fun y => b_R_hexadecimal_3 (b_R_hexadecimal_4 ?_), fun y => b_R_hexadecimal_4 ?_⟩⟩
      · have := (l1 97 (by decide)).mp z
        rw [if_neg (by omega)] at hK; exact hK
      · have := (l2 102 (by decide)).mp y
        rw [if_neg (by omega)] at hK; exact hK
      · have z : ¬ n < 97 := fun t => z ((l1 97 (by decide)).mpr t)
        have y : ¬ 102 < n := fun t => y ((l2 102 (by decide)).mpr t)
        rw [if_pos (by omega)] at hK
        rw [lit_97, pk_sub (by omega), lit_10, nI_add, show n - 97 + 10 = n - 87 by omega]
        exact hK
    refine b_R_hexadecimal_1 ⟨fun z => c2 ?_, fun z => ⟨fun y => c2 ?_, fun y => ?_⟩⟩
    · have := (l1 65 (by decide)).mp z; omega
    · have := (l2 70 (by decide)).mp y; omega
    · have z : ¬ n < 65 := fun t => z ((l1 65 (by decide)).mpr t)
      have y : ¬ 70 < n := fun t => y ((l2 70 (by decide)).mpr t)
      rw [if_pos (by omega)] at hK
      rw [lit_65, pk_sub (by omega), lit_10, nI_add, show n - 65 + 10 = n - 55 by omega]
      exact hK
  refine e_R_hexadecimal (b_R_hexadecimal_0 ⟨fun z => c1 ?_, fun z => ⟨fun y => c1 ?_, fun y => ?_⟩⟩)
  · have := (l1 48 (by decide)).mp z; omega
  · have := (l2 57 (by decide)).mp y; omega
  · have z : ¬ n < 48 := fun t => z ((l1 48 (by decide)).mpr t)
    have y : ¬ 57 < n := fun t => y ((l2 57 (by decide)).mpr t)
    rw [if_pos (by omega)] at hK
    rw [lit_48, pk_sub (by omega)]
    exact hK
section CRead
variable {W : jx_W} {a au fd : Nat} {ac : Nat → Int32} {ar : Nat → Nat → Int32} {K : jx_Q} {A : aAU} {f0 fl held dig : Nat} {key : Int32} {S : aS} {X : cRd} {fc : Nat → Int32} {fr : Nat → Nat → Int32}
theorem nI_and7 {m : Nat} (hm : m < 2 ^ 31) : nI m &&& 7 = nI (m % 8) := pk_andN (k := 3) (by omega) (by decide)
theorem c_firstIndexOf {V : jx_W} {c : Nat → Int32} {p : Int64} {r : Nat → Nat → Int32} {x : Int32} {wl : Nat} {h : aHi} (hV : At V a 3 (RdC a au fd c p r)) (hc : c 11 = nI h.length) (hr : RGr r h) (hl : h.length < 2 ^ 30) (hx : x = nI wl) (h1 : 1 ≤ wl) (h8 : wl ≤ 8) (hle : wl ≤ h.length) (hK : K V (some (.int (hiA h (wl - 1)).2))) : zcall n_R_firstIndexOf [.ref a, .int x] V K := by
  subst hx
  rw [← Rdw_eq hV] at hK ⊢
  refine e_R_firstIndexOf (b_R_firstIndexOf_0 ?_)
  simp only [and_assoc, exists_and_left, exists_eq_left, exists_eq_left', Option.some.injEq, Value.int.injEq, Value.ref.injEq, Value.long.injEq, true_and, and_true, exists_eq, exists_true_left, FdF_0, FdF_s0, FdF_1, FdF_s1, FdF_2, FdF_s2, FdF_3, FdF_s3, FdF_4, FdF_5, FdF_6, FdF_7, FdF_len, Fdw_ob, Fdw_uob, Fdw_4, Fdw_g4, Fdw_v4, Fdw_u4, Fdw_5, Fdw_g5, Fdw_v5, Fdw_u5, Fdw_6, Fdw_g6, Fdw_v6, Fdw_u6, Fdw_7, Fdw_g7, Fdw_v7, Fdw_u7, WdF_0, WdF_1, WdF_len, Wdw_ob, Wdw_0, Wdw_g0, Wdw_v0, Wdw_u0, Wdw_1, Wdw_g1, Wdw_v1, Wdw_u1, AuF_0, AuF_s0, AuF_1, AuF_2, AuF_3, AuF_4, AuF_5, AuF_6, AuF_7, AuF_8, AuF_len, Auw_ob, Auw_uob, Auw_1, Auw_g1, Auw_v1, Auw_u1, Auw_2, Auw_g2, Auw_v2, Auw_u2, Auw_3, Auw_g3, Auw_v3, Auw_u3, Auw_4, Auw_g4, Auw_v4, Auw_u4, Auw_5, Auw_g5, Auw_v5, Auw_u5, Auw_6, Auw_g6, Auw_v6, Auw_u6, Auw_7, Auw_g7, Auw_v7, Auw_u7, Auw_8, Auw_g8, Auw_v8, Auw_u8, SgF_0, SgF_s0, SgF_1, SgF_2, SgF_3, SgF_len, Sgw_ob, Sgw_uob, Sgw_1, Sgw_g1, Sgw_v1, Sgw_u1, Sgw_2, Sgw_g2, Sgw_v2, Sgw_u2, Sgw_3, Sgw_g3, Sgw_v3, Sgw_u3, RdF_0, RdF_1, RdF_2, RdF_s2, RdF_3, RdF_s3, RdF_4, RdF_s4, RdF_5, RdF_s5, RdF_6, RdF_s6, RdF_7, RdF_s7, RdF_8, RdF_s8, RdF_9, RdF_10, RdF_11, RdF_s11, RdF_12, RdF_s12, RdF_13, RdF_s13, RdF_14, RdF_s14, RdF_len, Rdw_ob, Rdw_uob, Rdw_9, Rdw_g9, Rdw_v9, Rdw_u9, Rdw_10, Rdw_g10, Rdw_v10, Rdw_u10, FlF_0, FlF_s0, FlF_1, FlF_s1, FlF_2, FlF_s2, FlF_3, FlF_s3, FlF_4, FlF_5, FlF_6, FlF_7, FlF_s7, FlF_8, FlF_s8, FlF_9, FlF_s9, FlF_10, FlF_s10, FlF_11, FlF_s11, FlF_len, Flw_ob, Flw_uob, Flw_pob, Flw_upob, Flw_p1, Flw_p2, Flw_p3, Flw_lob, Flw_ulob, Flw_l1, Flw_l2, Flw_l3, Flw_rob, Nat.reduceLT, rup_s, rup_rup]
  rw [hc, pk_sub hle, nI_and7 (by omega)]
  have hm : (h.length - wl) % 8 < 8 := Nat.mod_lt _ (by decide)
  have := (hr (wl - 1) (by omega) (by omega)).2
  rw [show h.length - 1 - (wl - 1) = h.length - wl by omega] at this
  rw [nI_clamp (by omega), this]
  exact ⟨vp_in_nI hm (by decide), hK⟩
theorem c_isDropped {V : jx_W} {c : Nat → Int32} {p : Int64} {r : Nat → Nat → Int32} {x : Int32} {n : Nat} {bl : Bool} (hV : At V a 3 (RdC a au fd c p r)) (h3 : c 3 = nI fl) (hfl : fl < 16) (h6 : c 6 = oob bl) (hx : x = nI n) (hn : n < 1000) (h1 : chDrop fl bl n = true → K V (some (.int 1))) (h0 : chDrop fl bl n = false → K V (some (.int 0))) : zcall n_R_isDropped [.ref a, .int x] V K := by
  subst hx
  rw [← Rdw_eq hV] at h1 h0 ⊢
  have e45 : nI n = 45 ↔ n = 45 := nI_eq (b := 45) (by omega) (by decide)
  have e46 : nI n = 46 ↔ n = 46 := nI_eq (b := 46) (by omega) (by decide)
  have e32 : nI n = 32 ↔ n = 32 := nI_eq (b := 32) (by omega) (by decide)
  have b2 : (fl.testBit 3 && (decide (n = 45) || decide (n = 46))) = false → zwp n_R_isDropped 2 [(0, .ref a), (1, .int (nI n))] [] 0 0 (Rdw V a au fd c p r) K := fun hm => by
    unfold chDrop at h1 h0
    rw [hm, Bool.false_or] at h1 h0
    refine b_R_isDropped_2 ?_
    simp only [and_assoc, exists_and_left, exists_eq_left, exists_eq_left', Option.some.injEq, Value.int.injEq, Value.ref.injEq, Value.long.injEq, true_and, and_true, exists_eq, exists_true_left, FdF_0, FdF_s0, FdF_1, FdF_s1, FdF_2, FdF_s2, FdF_3, FdF_s3, FdF_4, FdF_5, FdF_6, FdF_7, FdF_len, Fdw_ob, Fdw_uob, Fdw_4, Fdw_g4, Fdw_v4, Fdw_u4, Fdw_5, Fdw_g5, Fdw_v5, Fdw_u5, Fdw_6, Fdw_g6, Fdw_v6, Fdw_u6, Fdw_7, Fdw_g7, Fdw_v7, Fdw_u7, WdF_0, WdF_1, WdF_len, Wdw_ob, Wdw_0, Wdw_g0, Wdw_v0, Wdw_u0, Wdw_1, Wdw_g1, Wdw_v1, Wdw_u1, AuF_0, AuF_s0, AuF_1, AuF_2, AuF_3, AuF_4, AuF_5, AuF_6, AuF_7, AuF_8, AuF_len, Auw_ob, Auw_uob, Auw_1, Auw_g1, Auw_v1, Auw_u1, Auw_2, Auw_g2, Auw_v2, Auw_u2, Auw_3, Auw_g3, Auw_v3, Auw_u3, Auw_4, Auw_g4, Auw_v4, Auw_u4, Auw_5, Auw_g5, Auw_v5, Auw_u5, Auw_6, Auw_g6, Auw_v6, Auw_u6, Auw_7, Auw_g7, Auw_v7, Auw_u7, Auw_8, Auw_g8, Auw_v8, Auw_u8, SgF_0, SgF_s0, SgF_1, SgF_2, SgF_3, SgF_len, Sgw_ob, Sgw_uob, Sgw_1, Sgw_g1, Sgw_v1, Sgw_u1, Sgw_2, Sgw_g2, Sgw_v2, Sgw_u2, Sgw_3, Sgw_g3, Sgw_v3, Sgw_u3, RdF_0, RdF_1, RdF_2, RdF_s2, RdF_3, RdF_s3, RdF_4, RdF_s4, RdF_5, RdF_s5, RdF_6, RdF_s6, RdF_7, RdF_s7, RdF_8, RdF_s8, RdF_9, RdF_10, RdF_11, RdF_s11, RdF_12, RdF_s12, RdF_13, RdF_s13, RdF_14, RdF_s14, RdF_len, Rdw_ob, Rdw_uob, Rdw_9, Rdw_g9, Rdw_v9, Rdw_u9, Rdw_10, Rdw_g10, Rdw_v10, Rdw_u10, FlF_0, FlF_s0, FlF_1, FlF_s1, FlF_2, FlF_s2, FlF_3, FlF_s3, FlF_4, FlF_5, FlF_6, FlF_7, FlF_s7, FlF_8, FlF_s8, FlF_9, FlF_s9, FlF_10, FlF_s10, FlF_11, FlF_s11, FlF_len, Flw_ob, Flw_uob, Flw_pob, Flw_upob, Flw_p1, Flw_p2, Flw_p3, Flw_lob, Flw_ulob, Flw_l1, Flw_l2, Flw_l3, Flw_rob, Nat.reduceLT, rup_s, rup_rup]
    rw [h3, h6]
    refine ⟨fun z => b_R_isDropped_3 (b_R_isDropped_4 ⟨b01, h0 ?_⟩), fun z => ⟨fun y => b_R_isDropped_3 (b_R_isDropped_4 ⟨b01, h0 ?_⟩), fun y => ⟨fun u => b_R_isDropped_3 (b_R_isDropped_4 ⟨b01, h0 ?_⟩), fun u => b_R_isDropped_4 ⟨b11, h1 ?_⟩⟩⟩⟩
    · rw [(flag4 fl hfl).mp z, Bool.false_and, Bool.false_and]
    · rw [decide_eq_false (fun t => y (e32.mpr t)), Bool.and_false, Bool.false_and]
    · cases bl with
      | false => rw [Bool.and_false]
      | true => exact absurd u (by decide)
    · have z : fl.testBit 2 = true := by
        cases h : fl.testBit 2 with
        | true => rfl
        | false => exact absurd ((flag4 fl hfl).mpr h) z
      cases bl with
      | false => exact absurd rfl u
      | true => rw [z, decide_eq_true (e32.mp y)]; rfl
  have b1 : (fl.testBit 3 && (decide (n = 45) || decide (n = 46))) = true → zwp n_R_isDropped 1 [] [] 0 0 (Rdw V a au fd c p r) K := fun hm => b_R_isDropped_1 ⟨b11, h1 (by unfold chDrop; rw [hm]; rfl)⟩
  refine e_R_isDropped (b_R_isDropped_0 ?_)
  simp only [and_assoc, exists_and_left, exists_eq_left, exists_eq_left', Option.some.injEq, Value.int.injEq, Value.ref.injEq, Value.long.injEq, true_and, and_true, exists_eq, exists_true_left, FdF_0, FdF_s0, FdF_1, FdF_s1, FdF_2, FdF_s2, FdF_3, FdF_s3, FdF_4, FdF_5, FdF_6, FdF_7, FdF_len, Fdw_ob, Fdw_uob, Fdw_4, Fdw_g4, Fdw_v4, Fdw_u4, Fdw_5, Fdw_g5, Fdw_v5, Fdw_u5, Fdw_6, Fdw_g6, Fdw_v6, Fdw_u6, Fdw_7, Fdw_g7, Fdw_v7, Fdw_u7, WdF_0, WdF_1, WdF_len, Wdw_ob, Wdw_0, Wdw_g0, Wdw_v0, Wdw_u0, Wdw_1, Wdw_g1, Wdw_v1, Wdw_u1, AuF_0, AuF_s0, AuF_1, AuF_2, AuF_3, AuF_4, AuF_5, AuF_6, AuF_7, AuF_8, AuF_len, Auw_ob, Auw_uob, Auw_1, Auw_g1, Auw_v1, Auw_u1, Auw_2, Auw_g2, Auw_v2, Auw_u2, Auw_3, Auw_g3, Auw_v3, Auw_u3, Auw_4, Auw_g4, Auw_v4, Auw_u4, Auw_5, Auw_g5, Auw_v5, Auw_u5, Auw_6, Auw_g6, Auw_v6, Auw_u6, Auw_7, Auw_g7, Auw_v7, Auw_u7, Auw_8, Auw_g8, Auw_v8, Auw_u8, SgF_0, SgF_s0, SgF_1, SgF_2, SgF_3, SgF_len, Sgw_ob, Sgw_uob, Sgw_1, Sgw_g1, Sgw_v1, Sgw_u1, Sgw_2, Sgw_g2, Sgw_v2, Sgw_u2, Sgw_3, Sgw_g3, Sgw_v3, Sgw_u3, RdF_0, RdF_1, RdF_2, RdF_s2, RdF_3, RdF_s3, RdF_4, RdF_s4, RdF_5, RdF_s5, RdF_6, RdF_s6, RdF_7, RdF_s7, RdF_8, RdF_s8, RdF_9, RdF_10, RdF_11, RdF_s11, RdF_12, RdF_s12, RdF_13, RdF_s13, RdF_14, RdF_s14, RdF_len, Rdw_ob, Rdw_uob, Rdw_9, Rdw_g9, Rdw_v9, Rdw_u9, Rdw_10, Rdw_g10, Rdw_v10, Rdw_u10, FlF_0, FlF_s0, FlF_1, FlF_s1, FlF_2, FlF_s2, FlF_3, FlF_s3, FlF_4, FlF_5, FlF_6, FlF_7, FlF_s7, FlF_8, FlF_s8, FlF_9, FlF_s9, FlF_10, FlF_s10, FlF_11, FlF_s11, FlF_len, Flw_ob, Flw_uob, Flw_pob, Flw_upob, Flw_p1, Flw_p2, Flw_p3, Flw_lob, Flw_ulob, Flw_l1, Flw_l2, Flw_l3, Flw_rob, Nat.reduceLT, rup_s, rup_rup]
  rw [h3]
  refine ⟨fun z => b2 ?_, fun z => ?_⟩
  · rw [(flag8 fl hfl).mp z, Bool.false_and]
  · have z : fl.testBit 3 = true := by
      cases h : fl.testBit 3 with
      | true => rfl
      | false => exact absurd ((flag8 fl hfl).mpr h) z
    refine ⟨fun y => b1 ?_, fun y => ⟨fun u => b2 ?_, fun u => b1 ?_⟩⟩
    · rw [z, decide_eq_true (e45.mp y)]; rfl
    · rw [decide_eq_false (fun t => y (e45.mpr t)), decide_eq_false (fun t => u (e46.mpr t))]; simp
    · rw [z, decide_eq_true (e46.mp u)]; simp
theorem c_sure_loop {c : Nat → Int32} {p : Int64} {r : Nat → Nat → Int32} {sure : Nat} {e x6 : Int32} {hist : aHi} {fh : List aFd} (hC : RCx W a au fd ac ar A) (hs : sure < 64) (hwl : ∀ v, v < 6 → sure.testBit v = true → 1 ≤ A.2.2.2 v ∧ A.2.2.2 v ≤ hist.length) (h2 : c 2 = key) (h11 : c 11 = nI hist.length) (hr : RGr r hist) (hl : hist.length < 2 ^ 30) (hfh : fh.length < 2 ^ 28) (hK : ∀ fc' fr', FDr fc' fr' (fS A key sure hist e fh 6) → zwp n_R_come 9 [(0, .ref a), (3, .int e), (5, .int (nI sure)), (6, .int x6)] [] 0 0 (Rdw (Fdw W fd fc' fr') a au fd c p r) K) : ∀ (m v : Nat), v + m = 6 → ∀ fc fr, FDr fc fr (fS A key sure hist e fh v) → zwp n_R_come 7 [(0, .ref a), (3, .int e), (5, .int (nI sure)), (6, .int x6), (7, .int (nI v))] [] 0 0 (Rdw (Fdw W fd fc fr) a au fd c p r) K := by
  intro m
  induction m with
  | zero =>
    intro v hv fc fr h
    obtain rfl : v = 6 := by omega
    exact b_R_come_7 ⟨fun _ => hK fc fr h, fun z => absurd (by decide) z⟩
  | succ m ih =>
    intro v hv fc fr h
    have hAu := hC.at (fc := fc) (fr := fr) (c := c) (p := p) (r := r)
    have hFd := hC.fd (fc := fc) (fr := fr) (c := c) (p := p) (r := r)
    have hw8 := hC.2.2.1.2.2.2.2.2.1 v (by omega)
    have hbit : (nI sure >>> (nI v &&& 31)) &&& 1 = 0 ↔ sure.testBit v = false := by
      rw [nI_bit (by omega) (by omega), Nat.testBit_eq_decide_div_mod_eq]
      have h2 : sure / 2 ^ v % 2 < 2 := Nat.mod_lt _ (by decide)
      have e0 : (nI (sure / 2 ^ v % 2) = 0) ↔ sure / 2 ^ v % 2 = 0 := nI_eq (b := 0) (by omega) (by decide)
      rw [e0]
      constructor
      · intro h; rw [h]; rfl
      · intro h
        have := of_decide_eq_false h
        omega
    refine b_R_come_7 ⟨fun z => absurd ((nI_leI (a := 6) (by decide) (by omega)).mp z) (by omega), fun _ => ⟨fun z => b_R_come_8 ?_, fun z => ?_⟩⟩
    · have z := hbit.mp z
      rw [nI_1]
      refine ih (v + 1) (by omega) fc fr ?_
      show FDr fc fr (if _ then _ else _)
      rw [if_neg (by rw [z]; decide)]
      exact h
    · have z : sure.testBit v = true := by
        cases ht : sure.testBit v with
        | true => rfl
        | false => exact absurd (hbit.mpr ht) z
      have hw1 := hwl v (by omega) z
      simp only [and_assoc, exists_and_left, exists_eq_left, exists_eq_left', Option.some.injEq, Value.int.injEq, Value.ref.injEq, Value.long.injEq, true_and, and_true, exists_eq, exists_true_left, FdF_0, FdF_s0, FdF_1, FdF_s1, FdF_2, FdF_s2, FdF_3, FdF_s3, FdF_4, FdF_5, FdF_6, FdF_7, FdF_len, Fdw_ob, Fdw_uob, Fdw_4, Fdw_g4, Fdw_v4, Fdw_u4, Fdw_5, Fdw_g5, Fdw_v5, Fdw_u5, Fdw_6, Fdw_g6, Fdw_v6, Fdw_u6, Fdw_7, Fdw_g7, Fdw_v7, Fdw_u7, WdF_0, WdF_1, WdF_len, Wdw_ob, Wdw_0, Wdw_g0, Wdw_v0, Wdw_u0, Wdw_1, Wdw_g1, Wdw_v1, Wdw_u1, AuF_0, AuF_s0, AuF_1, AuF_2, AuF_3, AuF_4, AuF_5, AuF_6, AuF_7, AuF_8, AuF_len, Auw_ob, Auw_uob, Auw_1, Auw_g1, Auw_v1, Auw_u1, Auw_2, Auw_g2, Auw_v2, Auw_u2, Auw_3, Auw_g3, Auw_v3, Auw_u3, Auw_4, Auw_g4, Auw_v4, Auw_u4, Auw_5, Auw_g5, Auw_v5, Auw_u5, Auw_6, Auw_g6, Auw_v6, Auw_u6, Auw_7, Auw_g7, Auw_v7, Auw_u7, Auw_8, Auw_g8, Auw_v8, Auw_u8, SgF_0, SgF_s0, SgF_1, SgF_2, SgF_3, SgF_len, Sgw_ob, Sgw_uob, Sgw_1, Sgw_g1, Sgw_v1, Sgw_u1, Sgw_2, Sgw_g2, Sgw_v2, Sgw_u2, Sgw_3, Sgw_g3, Sgw_v3, Sgw_u3, RdF_0, RdF_1, RdF_2, RdF_s2, RdF_3, RdF_s3, RdF_4, RdF_s4, RdF_5, RdF_s5, RdF_6, RdF_s6, RdF_7, RdF_s7, RdF_8, RdF_s8, RdF_9, RdF_10, RdF_11, RdF_s11, RdF_12, RdF_s12, RdF_13, RdF_s13, RdF_14, RdF_s14, RdF_len, Rdw_ob, Rdw_uob, Rdw_9, Rdw_g9, Rdw_v9, Rdw_u9, Rdw_10, Rdw_g10, Rdw_v10, Rdw_u10, FlF_0, FlF_s0, FlF_1, FlF_s1, FlF_2, FlF_s2, FlF_3, FlF_s3, FlF_4, FlF_5, FlF_6, FlF_7, FlF_s7, FlF_8, FlF_s8, FlF_9, FlF_s9, FlF_10, FlF_s10, FlF_11, FlF_s11, FlF_len, Flw_ob, Flw_uob, Flw_pob, Flw_upob, Flw_p1, Flw_p2, Flw_p3, Flw_lob, Flw_ulob, Flw_l1, Flw_l2, Flw_l3, Flw_rob, Nat.reduceLT, rup_s, rup_rup, AuAt_ob hAu, AuAt_6 hAu, AuF_6]
      rw [h2, nI_clamp (by omega), hC.2.1.2.2.2 v (by omega)]
      refine ⟨vp_in_nI (by omega) (by decide), c_firstIndexOf (h := hist) At_bw h11 hr hl rfl hw1.1 hw8 hw1.2 ⟨_, rfl, ⟨_, hFd 0 (by decide)⟩, ?_⟩⟩
      have hlen : (fS A key sure hist e fh v).length < 2 ^ 30 := by
        rw [fS_len]
        have := pc6_le (m := sure) (v := v)
        omega
      refine c_fadd hFd h hlen (fun fc' fr' h' => ⟨rfl, b_R_come_8 ?_⟩)
      rw [RF_swap hC.2.2.2.1, nI_1]
      refine ih (v + 1) (by omega) fc' fr' ?_
      show FDr fc' fr' (if _ then _ else _)
      rw [if_pos z]
      exact h'
theorem c_doubt_loop {c : Nat → Int32} {p : Int64} {r : Nat → Nat → Int32} {d : Nat} {e x5 : Int32} {fh : List aFd} (hC : RCx W a au fd ac ar A) (hs : d < 64) (h2 : c 2 = key) (hfh : fh.length < 2 ^ 28) (hK : ∀ fc' fr', FDr fc' fr' (fD key d e fh 6) → zwp n_R_come 12 [(0, .ref a), (5, .int x5), (6, .int (nI d))] [] 0 0 (Rdw (Fdw W fd fc' fr') a au fd c p r) K) : ∀ (m v : Nat), v + m = 6 → ∀ fc fr, FDr fc fr (fD key d e fh v) → zwp n_R_come 10 [(0, .ref a), (3, .int e), (5, .int x5), (6, .int (nI d)), (7, .int (nI v))] [] 0 0 (Rdw (Fdw W fd fc fr) a au fd c p r) K := by
  intro m
  induction m with
  | zero =>
    intro v hv fc fr h
    obtain rfl : v = 6 := by omega
    exact b_R_come_10 ⟨fun _ => hK fc fr h, fun z => absurd (by decide) z⟩
  | succ m ih =>
    intro v hv fc fr h
    have hFd := hC.fd (fc := fc) (fr := fr) (c := c) (p := p) (r := r)
    have hbit : (nI d >>> (nI v &&& 31)) &&& 1 = 0 ↔ d.testBit v = false := by
      rw [nI_bit (by omega) (by omega), Nat.testBit_eq_decide_div_mod_eq]
      have h2 : d / 2 ^ v % 2 < 2 := Nat.mod_lt _ (by decide)
      have e0 : (nI (d / 2 ^ v % 2) = 0) ↔ d / 2 ^ v % 2 = 0 := nI_eq (b := 0) (by omega) (by decide)
      rw [e0]
      constructor
      · intro h; rw [h]; rfl
      · intro h
        have := of_decide_eq_false h
        omega
    refine b_R_come_10 ⟨fun z => absurd ((nI_leI (a := 6) (by decide) (by omega)).mp z) (by omega), fun _ => ⟨fun z => b_R_come_11 ?_, fun z => ?_⟩⟩
    · have z := hbit.mp z
      rw [nI_1]
      refine ih (v + 1) (by omega) fc fr ?_
      show FDr fc fr (if _ then _ else _)
      rw [if_neg (by rw [z]; decide)]
      exact h
    · have z : d.testBit v = true := by
        cases ht : d.testBit v with
        | true => rfl
        | false => exact absurd (hbit.mpr ht) z
      simp only [and_assoc, exists_and_left, exists_eq_left, exists_eq_left', Option.some.injEq, Value.int.injEq, Value.ref.injEq, Value.long.injEq, true_and, and_true, exists_eq, exists_true_left, FdF_0, FdF_s0, FdF_1, FdF_s1, FdF_2, FdF_s2, FdF_3, FdF_s3, FdF_4, FdF_5, FdF_6, FdF_7, FdF_len, Fdw_ob, Fdw_uob, Fdw_4, Fdw_g4, Fdw_v4, Fdw_u4, Fdw_5, Fdw_g5, Fdw_v5, Fdw_u5, Fdw_6, Fdw_g6, Fdw_v6, Fdw_u6, Fdw_7, Fdw_g7, Fdw_v7, Fdw_u7, WdF_0, WdF_1, WdF_len, Wdw_ob, Wdw_0, Wdw_g0, Wdw_v0, Wdw_u0, Wdw_1, Wdw_g1, Wdw_v1, Wdw_u1, AuF_0, AuF_s0, AuF_1, AuF_2, AuF_3, AuF_4, AuF_5, AuF_6, AuF_7, AuF_8, AuF_len, Auw_ob, Auw_uob, Auw_1, Auw_g1, Auw_v1, Auw_u1, Auw_2, Auw_g2, Auw_v2, Auw_u2, Auw_3, Auw_g3, Auw_v3, Auw_u3, Auw_4, Auw_g4, Auw_v4, Auw_u4, Auw_5, Auw_g5, Auw_v5, Auw_u5, Auw_6, Auw_g6, Auw_v6, Auw_u6, Auw_7, Auw_g7, Auw_v7, Auw_u7, Auw_8, Auw_g8, Auw_v8, Auw_u8, SgF_0, SgF_s0, SgF_1, SgF_2, SgF_3, SgF_len, Sgw_ob, Sgw_uob, Sgw_1, Sgw_g1, Sgw_v1, Sgw_u1, Sgw_2, Sgw_g2, Sgw_v2, Sgw_u2, Sgw_3, Sgw_g3, Sgw_v3, Sgw_u3, RdF_0, RdF_1, RdF_2, RdF_s2, RdF_3, RdF_s3, RdF_4, RdF_s4, RdF_5, RdF_s5, RdF_6, RdF_s6, RdF_7, RdF_s7, RdF_8, RdF_s8, RdF_9, RdF_10, RdF_11, RdF_s11, RdF_12, RdF_s12, RdF_13, RdF_s13, RdF_14, RdF_s14, RdF_len, Rdw_ob, Rdw_uob, Rdw_9, Rdw_g9, Rdw_v9, Rdw_u9, Rdw_10, Rdw_g10, Rdw_v10, Rdw_u10, FlF_0, FlF_s0, FlF_1, FlF_s1, FlF_2, FlF_s2, FlF_3, FlF_s3, FlF_4, FlF_5, FlF_6, FlF_7, FlF_s7, FlF_8, FlF_s8, FlF_9, FlF_s9, FlF_10, FlF_s10, FlF_11, FlF_s11, FlF_len, Flw_ob, Flw_uob, Flw_pob, Flw_upob, Flw_p1, Flw_p2, Flw_p3, Flw_lob, Flw_ulob, Flw_l1, Flw_l2, Flw_l3, Flw_rob, Nat.reduceLT, rup_s, rup_rup]
      rw [h2]
      refine ⟨⟨_, hFd 0 (by decide)⟩, ?_⟩
      have hlen : (fD key d e fh v).length < 2 ^ 30 := by
        rw [fD_len]
        have := pc6_le (m := d) (v := v)
        omega
      refine c_fadd hFd h hlen (fun fc' fr' h' => ⟨rfl, b_R_come_11 ?_⟩)
      rw [RF_swap hC.2.2.2.1, nI_1]
      refine ih (v + 1) (by omega) fc' fr' ?_
      show FDr fc' fr' (if _ then _ else _)
      rw [if_pos z]
      exact h'
theorem any1 {A : aAU} (hA : auOk A) : anyS A 1 = 0 := by
  have h : ∀ n, n ≤ A.1 → anyK A 1 n = 0 := by
    intro n
    induction n with
    | zero => intro _; rfl
    | succ n ih =>
      intro hn
      show anyK A 1 n ||| _ = 0
      rw [ih (by omega), Nat.zero_or]
      by_cases e : n = 0
      · subst e; exact hA.2.2.2.2.1
      · have : Nat.testBit 1 n = false := Nat.testBit_lt_two_pow (Nat.one_lt_two_pow e)
        rw [this]; rfl
  exact h A.1 (Nat.le_refl _)
theorem pc6_0 : ∀ v, pc6 0 v = 0
  | 0 => rfl
  | v + 1 => by rw [pc6_succ, pc6_0 v, Nat.zero_testBit]; rfl
theorem fS_0 {A : aAU} {key : Int32} {h : aHi} {e : Int32} {fh : List aFd} : ∀ v, fS A key 0 h e fh v = fh
  | 0 => rfl
  | v + 1 => by
    show (if Nat.testBit 0 v then _ else _) = _
    rw [Nat.zero_testBit, if_neg (by decide), fS_0 v]
theorem fD_0 {key : Int32} {e : Int32} {fh : List aFd} : ∀ v, fD key 0 e fh v = fh
  | 0 => rfl
  | v + 1 => by
    show (if Nat.testBit 0 v then _ else _) = _
    rw [Nat.zero_testBit, if_neg (by decide), fD_0 v]
theorem c_come {x st e : Int32} {cn : Nat} (hC : RCx W a au fd ac ar A) (hR : At W a 3 (RdC a au fd X.1 X.2.1 X.2.2)) (hF : At W fd 5 (FdC fd fc fr)) (hX : RDr f0 X key fl (S, held, dig)) (hFr : FDr fc fr S.2.2.2.2.1) (hS : sOk A S) (hfl : fl < 16) (hl : S.2.2.1.length < 2 ^ 29) (hfh : S.2.2.2.2.1.length < 2 ^ 27) (hx : x = nI cn) (hcn : cn < 128) (hst : st ≠ -9) (hK : ∀ X' fc' fr', RDr f0 X' key fl (aChar A fl key S cn st e, held, dig) → X'.1 5 = X.1 5 → FDr fc' fr' (aChar A fl key S cn st e).2.2.2.2.1 → K (Rdw (Fdw W fd fc' fr') a au fd X'.1 X'.2.1 X'.2.2) none) : zcall n_R_come [.ref a, .int x, .int st, .int e] W K := by
  subst hx
  obtain ⟨nd, ps, hist, bl, fh, ns, nb, fm⟩ := S
  obtain ⟨rc, rp, rr⟩ := X
  obtain ⟨x2, x3, x4, x5, x6, x7, x8, x11, xr, x12, x13, x14⟩ := id hX
  obtain ⟨o1, o2, o3, o4, o5⟩ := id hS
  dsimp only at x2 x3 x4 x5 x6 x7 x8 x11 xr x12 x13 x14 o1 o2 o3 o4 o5 hl hfh hFr hR
  have hA := hC.2.2.1
  have h49 := hA.2.1
  have eW : W = Rdw (Fdw W fd fc fr) a au fd rc rp rr := by rw [Fdw_eq hF, Rdw_eq hR]
  unfold aChar at hK
  have go : ∀ cm, cm = chLow fl cn → cm < 300 → zwp n_R_come 2 [(0, .ref a), (2, .int st), (3, .int e)] [.int (nI cm)] 0 0 (Rdw (Fdw W fd fc fr) a au fd rc rp rr) K := fun cm hcm hlt => by
    rw [← hcm] at hK
    refine b_R_come_2 ⟨⟨_, At_bw 0 (by decide)⟩, c_isDropped (fl := fl) (n := cm) (bl := bl) At_bw x3 hfl x6 rfl (by omega) (fun hd => ⟨_, rfl, fun z => absurd z (by decide), fun _ => ?_⟩) (fun hd => ⟨_, rfl, fun _ => ?_, fun z => absurd rfl z⟩)⟩
    · have hd : chDrop fl (nd, ps, hist, bl, fh, ns, nb, fm).2.2.2.1 cm = true := hd
      rw [if_pos hd] at hK
      exact hK (rc, rp, rr) fc fr hX rfl hFr
    · have hd : chDrop fl (nd, ps, hist, bl, fh, ns, nb, fm).2.2.2.1 cm = false := hd
      rw [if_neg (by rw [hd]; decide)] at hK
      have b5 : ∀ y : Int32, y = oob (decide (cm = 32)) → zwp n_R_come 5 [(0, .ref a), (2, .int st), (3, .int e), (4, .int (nI cm))] [.int y, .ref a] 0 0 (Rdw (Fdw W fd fc fr) a au fd rc rp rr) K := fun y hy => by
        have hy01 : y = 0 ∨ y = 1 := by rw [hy]; cases decide (cm = 32) <;> simp [oob]
        have hm : hist.length % 8 < 8 := Nat.mod_lt _ (by decide)
        refine b_R_come_5 ?_
        simp only [and_assoc, exists_and_left, exists_eq_left, exists_eq_left', Option.some.injEq, Value.int.injEq, Value.ref.injEq, Value.long.injEq, true_and, and_true, exists_eq, exists_true_left, FdF_0, FdF_s0, FdF_1, FdF_s1, FdF_2, FdF_s2, FdF_3, FdF_s3, FdF_4, FdF_5, FdF_6, FdF_7, FdF_len, Fdw_ob, Fdw_uob, Fdw_4, Fdw_g4, Fdw_v4, Fdw_u4, Fdw_5, Fdw_g5, Fdw_v5, Fdw_u5, Fdw_6, Fdw_g6, Fdw_v6, Fdw_u6, Fdw_7, Fdw_g7, Fdw_v7, Fdw_u7, WdF_0, WdF_1, WdF_len, Wdw_ob, Wdw_0, Wdw_g0, Wdw_v0, Wdw_u0, Wdw_1, Wdw_g1, Wdw_v1, Wdw_u1, AuF_0, AuF_s0, AuF_1, AuF_2, AuF_3, AuF_4, AuF_5, AuF_6, AuF_7, AuF_8, AuF_len, Auw_ob, Auw_uob, Auw_1, Auw_g1, Auw_v1, Auw_u1, Auw_2, Auw_g2, Auw_v2, Auw_u2, Auw_3, Auw_g3, Auw_v3, Auw_u3, Auw_4, Auw_g4, Auw_v4, Auw_u4, Auw_5, Auw_g5, Auw_v5, Auw_u5, Auw_6, Auw_g6, Auw_v6, Auw_u6, Auw_7, Auw_g7, Auw_v7, Auw_u7, Auw_8, Auw_g8, Auw_v8, Auw_u8, SgF_0, SgF_s0, SgF_1, SgF_2, SgF_3, SgF_len, Sgw_ob, Sgw_uob, Sgw_1, Sgw_g1, Sgw_v1, Sgw_u1, Sgw_2, Sgw_g2, Sgw_v2, Sgw_u2, Sgw_3, Sgw_g3, Sgw_v3, Sgw_u3, RdF_0, RdF_1, RdF_2, RdF_s2, RdF_3, RdF_s3, RdF_4, RdF_s4, RdF_5, RdF_s5, RdF_6, RdF_s6, RdF_7, RdF_s7, RdF_8, RdF_s8, RdF_9, RdF_10, RdF_11, RdF_s11, RdF_12, RdF_s12, RdF_13, RdF_s13, RdF_14, RdF_s14, RdF_len, Rdw_ob, Rdw_uob, Rdw_9, Rdw_g9, Rdw_v9, Rdw_u9, Rdw_10, Rdw_g10, Rdw_v10, Rdw_u10, FlF_0, FlF_s0, FlF_1, FlF_s1, FlF_2, FlF_s2, FlF_3, FlF_s3, FlF_4, FlF_5, FlF_6, FlF_7, FlF_s7, FlF_8, FlF_s8, FlF_9, FlF_s9, FlF_10, FlF_s10, FlF_11, FlF_s11, FlF_len, Flw_ob, Flw_uob, Flw_pob, Flw_upob, Flw_p1, Flw_p2, Flw_p3, Flw_lob, Flw_ulob, Flw_l1, Flw_l2, Flw_l3, Flw_rob, Nat.reduceLT, rup_s, rup_rup]
        simp only [show upd rc 6 y 11 = rc 11 from rfl]
        rw [x11, nI_and7 (by omega), nI_clamp (by omega), nI_1, rup_n (show (10 : Nat) ≠ 9 by decide)]
        refine ⟨hy01, vp_in_nI hm (by decide), vp_in_nI hm (by decide), ?_⟩
        have hrg := RGr_push (x := nI cm) (st := st) xr
        obtain ⟨r1, hr1⟩ : ∃ r1, r1 = rup (rup rr 9 (upd (rr 9) (hist.length % 8) (nI cm))) 10 (upd (rr 10) (hist.length % 8) st) := ⟨_, rfl⟩
        rw [← hr1] at hrg ⊢
        obtain ⟨c1, hc1⟩ : ∃ c1, c1 = upd (upd rc 6 y) 11 (nI (hist.length + 1)) := ⟨_, rfl⟩
        rw [← hc1]
        have c1o : ∀ i, i ≠ 6 → i ≠ 11 → c1 i = rc i := fun i i1 i2 => by rw [hc1]; exact (if_neg i2).trans (if_neg i1)
        have c16 : c1 6 = oob (decide (cm = 32)) := by rw [hc1]; exact hy
        have c111 : c1 11 = nI (hist.length + 1) := by rw [hc1]; rfl
        refine s_isLetter rfl (by omega) (fun hL => ⟨_, rfl, fun _ => b_R_come_6 ?_, fun z => absurd z (by decide)⟩) (fun hL => ⟨_, rfl, fun z => absurd rfl z, fun _ => ?_⟩)
        · have hL2 : 97 ≤ cm ∧ cm ≤ 122 := by simpa [lett] using hL
          have n1 : aNd A nd cm = A.2.1 nd (cm - 97) := by unfold aNd; rw [if_pos hL]
          have n2 : aPs A ps cm = stepSet A ps (cm - 97) := by unfold aPs; rw [if_pos hL]
          have hnd := hA.2.2.1 nd (cm - 97) o1 (by omega)
          have hps : stepSet A ps (cm - 97) < 2 ^ 49 := stK_lt hA (by omega) (Nat.le_refl _)
          have at0 := hC.at (fc := fc) (fr := fr) (c := c1) (p := rp) (r := r1)
          simp only [and_assoc, exists_and_left, exists_eq_left, exists_eq_left', Option.some.injEq, Value.int.injEq, Value.ref.injEq, Value.long.injEq, true_and, and_true, exists_eq, exists_true_left, FdF_0, FdF_s0, FdF_1, FdF_s1, FdF_2, FdF_s2, FdF_3, FdF_s3, FdF_4, FdF_5, FdF_6, FdF_7, FdF_len, Fdw_ob, Fdw_uob, Fdw_4, Fdw_g4, Fdw_v4, Fdw_u4, Fdw_5, Fdw_g5, Fdw_v5, Fdw_u5, Fdw_6, Fdw_g6, Fdw_v6, Fdw_u6, Fdw_7, Fdw_g7, Fdw_v7, Fdw_u7, WdF_0, WdF_1, WdF_len, Wdw_ob, Wdw_0, Wdw_g0, Wdw_v0, Wdw_u0, Wdw_1, Wdw_g1, Wdw_v1, Wdw_u1, AuF_0, AuF_s0, AuF_1, AuF_2, AuF_3, AuF_4, AuF_5, AuF_6, AuF_7, AuF_8, AuF_len, Auw_ob, Auw_uob, Auw_1, Auw_g1, Auw_v1, Auw_u1, Auw_2, Auw_g2, Auw_v2, Auw_u2, Auw_3, Auw_g3, Auw_v3, Auw_u3, Auw_4, Auw_g4, Auw_v4, Auw_u4, Auw_5, Auw_g5, Auw_v5, Auw_u5, Auw_6, Auw_g6, Auw_v6, Auw_u6, Auw_7, Auw_g7, Auw_v7, Auw_u7, Auw_8, Auw_g8, Auw_v8, Auw_u8, SgF_0, SgF_s0, SgF_1, SgF_2, SgF_3, SgF_len, Sgw_ob, Sgw_uob, Sgw_1, Sgw_g1, Sgw_v1, Sgw_u1, Sgw_2, Sgw_g2, Sgw_v2, Sgw_u2, Sgw_3, Sgw_g3, Sgw_v3, Sgw_u3, RdF_0, RdF_1, RdF_2, RdF_s2, RdF_3, RdF_s3, RdF_4, RdF_s4, RdF_5, RdF_s5, RdF_6, RdF_s6, RdF_7, RdF_s7, RdF_8, RdF_s8, RdF_9, RdF_10, RdF_11, RdF_s11, RdF_12, RdF_s12, RdF_13, RdF_s13, RdF_14, RdF_s14, RdF_len, Rdw_ob, Rdw_uob, Rdw_9, Rdw_g9, Rdw_v9, Rdw_u9, Rdw_10, Rdw_g10, Rdw_v10, Rdw_u10, FlF_0, FlF_s0, FlF_1, FlF_s1, FlF_2, FlF_s2, FlF_3, FlF_s3, FlF_4, FlF_5, FlF_6, FlF_7, FlF_s7, FlF_8, FlF_s8, FlF_9, FlF_s9, FlF_10, FlF_s10, FlF_11, FlF_s11, FlF_len, Flw_ob, Flw_uob, Flw_pob, Flw_upob, Flw_p1, Flw_p2, Flw_p3, Flw_lob, Flw_ulob, Flw_l1, Flw_l2, Flw_l3, Flw_rob, Nat.reduceLT, rup_s, rup_rup, AuAt_ob at0]
          rw [c1o 7 (by decide) (by decide), x7, lit_97, pk_sub hL2.1]
          refine c_nextOf at0 hC.2.1 hA rfl rfl o1 (by omega) ⟨_, rfl, ?_⟩
          have at1 := hC.at (fc := fc) (fr := fr) (c := upd c1 7 (nI (A.2.1 nd (cm - 97)))) (p := rp) (r := r1)
          simp only [and_assoc, exists_and_left, exists_eq_left, exists_eq_left', Option.some.injEq, Value.int.injEq, Value.ref.injEq, Value.long.injEq, true_and, and_true, exists_eq, exists_true_left, FdF_0, FdF_s0, FdF_1, FdF_s1, FdF_2, FdF_s2, FdF_3, FdF_s3, FdF_4, FdF_5, FdF_6, FdF_7, FdF_len, Fdw_ob, Fdw_uob, Fdw_4, Fdw_g4, Fdw_v4, Fdw_u4, Fdw_5, Fdw_g5, Fdw_v5, Fdw_u5, Fdw_6, Fdw_g6, Fdw_v6, Fdw_u6, Fdw_7, Fdw_g7, Fdw_v7, Fdw_u7, WdF_0, WdF_1, WdF_len, Wdw_ob, Wdw_0, Wdw_g0, Wdw_v0, Wdw_u0, Wdw_1, Wdw_g1, Wdw_v1, Wdw_u1, AuF_0, AuF_s0, AuF_1, AuF_2, AuF_3, AuF_4, AuF_5, AuF_6, AuF_7, AuF_8, AuF_len, Auw_ob, Auw_uob, Auw_1, Auw_g1, Auw_v1, Auw_u1, Auw_2, Auw_g2, Auw_v2, Auw_u2, Auw_3, Auw_g3, Auw_v3, Auw_u3, Auw_4, Auw_g4, Auw_v4, Auw_u4, Auw_5, Auw_g5, Auw_v5, Auw_u5, Auw_6, Auw_g6, Auw_v6, Auw_u6, Auw_7, Auw_g7, Auw_v7, Auw_u7, Auw_8, Auw_g8, Auw_v8, Auw_u8, SgF_0, SgF_s0, SgF_1, SgF_2, SgF_3, SgF_len, Sgw_ob, Sgw_uob, Sgw_1, Sgw_g1, Sgw_v1, Sgw_u1, Sgw_2, Sgw_g2, Sgw_v2, Sgw_u2, Sgw_3, Sgw_g3, Sgw_v3, Sgw_u3, RdF_0, RdF_1, RdF_2, RdF_s2, RdF_3, RdF_s3, RdF_4, RdF_s4, RdF_5, RdF_s5, RdF_6, RdF_s6, RdF_7, RdF_s7, RdF_8, RdF_s8, RdF_9, RdF_10, RdF_11, RdF_s11, RdF_12, RdF_s12, RdF_13, RdF_s13, RdF_14, RdF_s14, RdF_len, Rdw_ob, Rdw_uob, Rdw_9, Rdw_g9, Rdw_v9, Rdw_u9, Rdw_10, Rdw_g10, Rdw_v10, Rdw_u10, FlF_0, FlF_s0, FlF_1, FlF_s1, FlF_2, FlF_s2, FlF_3, FlF_s3, FlF_4, FlF_5, FlF_6, FlF_7, FlF_s7, FlF_8, FlF_s8, FlF_9, FlF_s9, FlF_10, FlF_s10, FlF_11, FlF_s11, FlF_len, Flw_ob, Flw_uob, Flw_pob, Flw_upob, Flw_p1, Flw_p2, Flw_p3, Flw_lob, Flw_ulob, Flw_l1, Flw_l2, Flw_l3, Flw_rob, Nat.reduceLT, rup_s, rup_rup, AuAt_ob at1]
          rw [x8]
          refine c_nextSet (ps := ps) (by rw [← x8]; exact at1) hC.2.1 hA o2 rfl rfl (by omega) ⟨_, rfl, ?_⟩
          have at2 := hC.at (fc := fc) (fr := fr) (c := upd c1 7 (nI (A.2.1 nd (cm - 97)))) (p := lN (stepSet A ps (cm - 97))) (r := r1)
          simp only [and_assoc, exists_and_left, exists_eq_left, exists_eq_left', Option.some.injEq, Value.int.injEq, Value.ref.injEq, Value.long.injEq, true_and, and_true, exists_eq, exists_true_left, FdF_0, FdF_s0, FdF_1, FdF_s1, FdF_2, FdF_s2, FdF_3, FdF_s3, FdF_4, FdF_5, FdF_6, FdF_7, FdF_len, Fdw_ob, Fdw_uob, Fdw_4, Fdw_g4, Fdw_v4, Fdw_u4, Fdw_5, Fdw_g5, Fdw_v5, Fdw_u5, Fdw_6, Fdw_g6, Fdw_v6, Fdw_u6, Fdw_7, Fdw_g7, Fdw_v7, Fdw_u7, WdF_0, WdF_1, WdF_len, Wdw_ob, Wdw_0, Wdw_g0, Wdw_v0, Wdw_u0, Wdw_1, Wdw_g1, Wdw_v1, Wdw_u1, AuF_0, AuF_s0, AuF_1, AuF_2, AuF_3, AuF_4, AuF_5, AuF_6, AuF_7, AuF_8, AuF_len, Auw_ob, Auw_uob, Auw_1, Auw_g1, Auw_v1, Auw_u1, Auw_2, Auw_g2, Auw_v2, Auw_u2, Auw_3, Auw_g3, Auw_v3, Auw_u3, Auw_4, Auw_g4, Auw_v4, Auw_u4, Auw_5, Auw_g5, Auw_v5, Auw_u5, Auw_6, Auw_g6, Auw_v6, Auw_u6, Auw_7, Auw_g7, Auw_v7, Auw_u7, Auw_8, Auw_g8, Auw_v8, Auw_u8, SgF_0, SgF_s0, SgF_1, SgF_2, SgF_3, SgF_len, Sgw_ob, Sgw_uob, Sgw_1, Sgw_g1, Sgw_v1, Sgw_u1, Sgw_2, Sgw_g2, Sgw_v2, Sgw_u2, Sgw_3, Sgw_g3, Sgw_v3, Sgw_u3, RdF_0, RdF_1, RdF_2, RdF_s2, RdF_3, RdF_s3, RdF_4, RdF_s4, RdF_5, RdF_s5, RdF_6, RdF_s6, RdF_7, RdF_s7, RdF_8, RdF_s8, RdF_9, RdF_10, RdF_11, RdF_s11, RdF_12, RdF_s12, RdF_13, RdF_s13, RdF_14, RdF_s14, RdF_len, Rdw_ob, Rdw_uob, Rdw_9, Rdw_g9, Rdw_v9, Rdw_u9, Rdw_10, Rdw_g10, Rdw_v10, Rdw_u10, FlF_0, FlF_s0, FlF_1, FlF_s1, FlF_2, FlF_s2, FlF_3, FlF_s3, FlF_4, FlF_5, FlF_6, FlF_7, FlF_s7, FlF_8, FlF_s8, FlF_9, FlF_s9, FlF_10, FlF_s10, FlF_11, FlF_s11, FlF_len, Flw_ob, Flw_uob, Flw_pob, Flw_upob, Flw_p1, Flw_p2, Flw_p3, Flw_lob, Flw_ulob, Flw_l1, Flw_l2, Flw_l3, Flw_rob, Nat.reduceLT, rup_s, rup_rup, AuAt_ob at2, show upd c1 7 (nI (A.2.1 nd (cm - 97))) 7 = nI (A.2.1 nd (cm - 97)) from rfl]
          refine c_wordsOf at2 hC.2.1 hA rfl hnd ⟨_, rfl, ?_⟩
          simp only [and_assoc, exists_and_left, exists_eq_left, exists_eq_left', Option.some.injEq, Value.int.injEq, Value.ref.injEq, Value.long.injEq, true_and, and_true, exists_eq, exists_true_left, FdF_0, FdF_s0, FdF_1, FdF_s1, FdF_2, FdF_s2, FdF_3, FdF_s3, FdF_4, FdF_5, FdF_6, FdF_7, FdF_len, Fdw_ob, Fdw_uob, Fdw_4, Fdw_g4, Fdw_v4, Fdw_u4, Fdw_5, Fdw_g5, Fdw_v5, Fdw_u5, Fdw_6, Fdw_g6, Fdw_v6, Fdw_u6, Fdw_7, Fdw_g7, Fdw_v7, Fdw_u7, WdF_0, WdF_1, WdF_len, Wdw_ob, Wdw_0, Wdw_g0, Wdw_v0, Wdw_u0, Wdw_1, Wdw_g1, Wdw_v1, Wdw_u1, AuF_0, AuF_s0, AuF_1, AuF_2, AuF_3, AuF_4, AuF_5, AuF_6, AuF_7, AuF_8, AuF_len, Auw_ob, Auw_uob, Auw_1, Auw_g1, Auw_v1, Auw_u1, Auw_2, Auw_g2, Auw_v2, Auw_u2, Auw_3, Auw_g3, Auw_v3, Auw_u3, Auw_4, Auw_g4, Auw_v4, Auw_u4, Auw_5, Auw_g5, Auw_v5, Auw_u5, Auw_6, Auw_g6, Auw_v6, Auw_u6, Auw_7, Auw_g7, Auw_v7, Auw_u7, Auw_8, Auw_g8, Auw_v8, Auw_u8, SgF_0, SgF_s0, SgF_1, SgF_2, SgF_3, SgF_len, Sgw_ob, Sgw_uob, Sgw_1, Sgw_g1, Sgw_v1, Sgw_u1, Sgw_2, Sgw_g2, Sgw_v2, Sgw_u2, Sgw_3, Sgw_g3, Sgw_v3, Sgw_u3, RdF_0, RdF_1, RdF_2, RdF_s2, RdF_3, RdF_s3, RdF_4, RdF_s4, RdF_5, RdF_s5, RdF_6, RdF_s6, RdF_7, RdF_s7, RdF_8, RdF_s8, RdF_9, RdF_10, RdF_11, RdF_s11, RdF_12, RdF_s12, RdF_13, RdF_s13, RdF_14, RdF_s14, RdF_len, Rdw_ob, Rdw_uob, Rdw_9, Rdw_g9, Rdw_v9, Rdw_u9, Rdw_10, Rdw_g10, Rdw_v10, Rdw_u10, FlF_0, FlF_s0, FlF_1, FlF_s1, FlF_2, FlF_s2, FlF_3, FlF_s3, FlF_4, FlF_5, FlF_6, FlF_7, FlF_s7, FlF_8, FlF_s8, FlF_9, FlF_s9, FlF_10, FlF_s10, FlF_11, FlF_s11, FlF_len, Flw_ob, Flw_uob, Flw_pob, Flw_upob, Flw_p1, Flw_p2, Flw_p3, Flw_lob, Flw_ulob, Flw_l1, Flw_l2, Flw_l3, Flw_rob, Nat.reduceLT, rup_s, rup_rup, AuAt_ob at2]
          refine c_wordsOfSet at2 hC.2.1 hA hps rfl ⟨_, rfl, ?_⟩
          have hs64 := hA.2.2.2.1 _ hnd
          have ha64 : anyS A (stepSet A ps (cm - 97)) < 64 := anyK_lt hA (Nat.le_refl _)
          rw [nI_dif _ ha64 _ hs64]
          obtain ⟨c2, hc2⟩ : ∃ c2, c2 = upd c1 7 (nI (A.2.1 nd (cm - 97))) := ⟨_, rfl⟩
          rw [← hc2]
          have c2o : ∀ i, i ≠ 7 → c2 i = c1 i := fun i i1 => by rw [hc2]; exact if_neg i1
          have c27 : c2 7 = nI (A.2.1 nd (cm - 97)) := by rw [hc2]; rfl
          have hd64 : anyS A (stepSet A ps (cm - 97)) &&& (63 ^^^ A.2.2.1 (A.2.1 nd (cm - 97))) < 64 := and_lt64 ha64 _
          refine c_sure_loop (key := key) (hist := (nI cm, st) :: hist) (fh := fh) hC hs64 (fun v hv ht => ⟨hA.2.2.2.2.2.2.1 _ v hnd hv ht, (o5.next o1 (show cm - 97 < 26 by omega)).word hnd hv ht⟩) ((c2o 2 (by decide)).trans ((c1o 2 (by decide) (by decide)).trans x2)) ((c2o 11 (by decide)).trans c111) hrg (by rw [List.length_cons]; omega) (by omega) (fun fc1 fr1 g1 => b_R_come_9 ?_) 6 0 rfl fc fr hFr
          have hl1 : (fS A key (A.2.2.1 (A.2.1 nd (cm - 97))) ((nI cm, st) :: hist) e fh 6).length < 2 ^ 28 := by
            rw [fS_len]
            have := pc6_le (m := A.2.2.1 (A.2.1 nd (cm - 97))) (v := 6)
            omega
          refine c_doubt_loop (key := key) (fh := fS A key (A.2.2.1 (A.2.1 nd (cm - 97))) ((nI cm, st) :: hist) e fh 6) hC hd64 ((c2o 2 (by decide)).trans ((c1o 2 (by decide) (by decide)).trans x2)) hl1 (fun fc2 fr2 g2 => b_R_come_12 ?_) 6 0 rfl fc1 fr1 g1
          simp only [and_assoc, exists_and_left, exists_eq_left, exists_eq_left', Option.some.injEq, Value.int.injEq, Value.ref.injEq, Value.long.injEq, true_and, and_true, exists_eq, exists_true_left, FdF_0, FdF_s0, FdF_1, FdF_s1, FdF_2, FdF_s2, FdF_3, FdF_s3, FdF_4, FdF_5, FdF_6, FdF_7, FdF_len, Fdw_ob, Fdw_uob, Fdw_4, Fdw_g4, Fdw_v4, Fdw_u4, Fdw_5, Fdw_g5, Fdw_v5, Fdw_u5, Fdw_6, Fdw_g6, Fdw_v6, Fdw_u6, Fdw_7, Fdw_g7, Fdw_v7, Fdw_u7, WdF_0, WdF_1, WdF_len, Wdw_ob, Wdw_0, Wdw_g0, Wdw_v0, Wdw_u0, Wdw_1, Wdw_g1, Wdw_v1, Wdw_u1, AuF_0, AuF_s0, AuF_1, AuF_2, AuF_3, AuF_4, AuF_5, AuF_6, AuF_7, AuF_8, AuF_len, Auw_ob, Auw_uob, Auw_1, Auw_g1, Auw_v1, Auw_u1, Auw_2, Auw_g2, Auw_v2, Auw_u2, Auw_3, Auw_g3, Auw_v3, Auw_u3, Auw_4, Auw_g4, Auw_v4, Auw_u4, Auw_5, Auw_g5, Auw_v5, Auw_u5, Auw_6, Auw_g6, Auw_v6, Auw_u6, Auw_7, Auw_g7, Auw_v7, Auw_u7, Auw_8, Auw_g8, Auw_v8, Auw_u8, SgF_0, SgF_s0, SgF_1, SgF_2, SgF_3, SgF_len, Sgw_ob, Sgw_uob, Sgw_1, Sgw_g1, Sgw_v1, Sgw_u1, Sgw_2, Sgw_g2, Sgw_v2, Sgw_u2, Sgw_3, Sgw_g3, Sgw_v3, Sgw_u3, RdF_0, RdF_1, RdF_2, RdF_s2, RdF_3, RdF_s3, RdF_4, RdF_s4, RdF_5, RdF_s5, RdF_6, RdF_s6, RdF_7, RdF_s7, RdF_8, RdF_s8, RdF_9, RdF_10, RdF_11, RdF_s11, RdF_12, RdF_s12, RdF_13, RdF_s13, RdF_14, RdF_s14, RdF_len, Rdw_ob, Rdw_uob, Rdw_9, Rdw_g9, Rdw_v9, Rdw_u9, Rdw_10, Rdw_g10, Rdw_v10, Rdw_u10, FlF_0, FlF_s0, FlF_1, FlF_s1, FlF_2, FlF_s2, FlF_3, FlF_s3, FlF_4, FlF_5, FlF_6, FlF_7, FlF_s7, FlF_8, FlF_s8, FlF_9, FlF_s9, FlF_10, FlF_s10, FlF_11, FlF_s11, FlF_len, Flw_ob, Flw_uob, Flw_pob, Flw_upob, Flw_p1, Flw_p2, Flw_p3, Flw_lob, Flw_ulob, Flw_l1, Flw_l2, Flw_l3, Flw_rob, Nat.reduceLT, rup_s, rup_rup]
          refine c_bitCount rfl hs64 ⟨_, rfl, ?_⟩
          simp only [and_assoc, exists_and_left, exists_eq_left, exists_eq_left', Option.some.injEq, Value.int.injEq, Value.ref.injEq, Value.long.injEq, true_and, and_true, exists_eq, exists_true_left, FdF_0, FdF_s0, FdF_1, FdF_s1, FdF_2, FdF_s2, FdF_3, FdF_s3, FdF_4, FdF_5, FdF_6, FdF_7, FdF_len, Fdw_ob, Fdw_uob, Fdw_4, Fdw_g4, Fdw_v4, Fdw_u4, Fdw_5, Fdw_g5, Fdw_v5, Fdw_u5, Fdw_6, Fdw_g6, Fdw_v6, Fdw_u6, Fdw_7, Fdw_g7, Fdw_v7, Fdw_u7, WdF_0, WdF_1, WdF_len, Wdw_ob, Wdw_0, Wdw_g0, Wdw_v0, Wdw_u0, Wdw_1, Wdw_g1, Wdw_v1, Wdw_u1, AuF_0, AuF_s0, AuF_1, AuF_2, AuF_3, AuF_4, AuF_5, AuF_6, AuF_7, AuF_8, AuF_len, Auw_ob, Auw_uob, Auw_1, Auw_g1, Auw_v1, Auw_u1, Auw_2, Auw_g2, Auw_v2, Auw_u2, Auw_3, Auw_g3, Auw_v3, Auw_u3, Auw_4, Auw_g4, Auw_v4, Auw_u4, Auw_5, Auw_g5, Auw_v5, Auw_u5, Auw_6, Auw_g6, Auw_v6, Auw_u6, Auw_7, Auw_g7, Auw_v7, Auw_u7, Auw_8, Auw_g8, Auw_v8, Auw_u8, SgF_0, SgF_s0, SgF_1, SgF_2, SgF_3, SgF_len, Sgw_ob, Sgw_uob, Sgw_1, Sgw_g1, Sgw_v1, Sgw_u1, Sgw_2, Sgw_g2, Sgw_v2, Sgw_u2, Sgw_3, Sgw_g3, Sgw_v3, Sgw_u3, RdF_0, RdF_1, RdF_2, RdF_s2, RdF_3, RdF_s3, RdF_4, RdF_s4, RdF_5, RdF_s5, RdF_6, RdF_s6, RdF_7, RdF_s7, RdF_8, RdF_s8, RdF_9, RdF_10, RdF_11, RdF_s11, RdF_12, RdF_s12, RdF_13, RdF_s13, RdF_14, RdF_s14, RdF_len, Rdw_ob, Rdw_uob, Rdw_9, Rdw_g9, Rdw_v9, Rdw_u9, Rdw_10, Rdw_g10, Rdw_v10, Rdw_u10, FlF_0, FlF_s0, FlF_1, FlF_s1, FlF_2, FlF_s2, FlF_3, FlF_s3, FlF_4, FlF_5, FlF_6, FlF_7, FlF_s7, FlF_8, FlF_s8, FlF_9, FlF_s9, FlF_10, FlF_s10, FlF_11, FlF_s11, FlF_len, Flw_ob, Flw_uob, Flw_pob, Flw_upob, Flw_p1, Flw_p2, Flw_p3, Flw_lob, Flw_ulob, Flw_l1, Flw_l2, Flw_l3, Flw_rob, Nat.reduceLT, rup_s, rup_rup]
          refine c_bitCount rfl hd64 ⟨_, rfl, ?_⟩
          simp only [and_assoc, exists_and_left, exists_eq_left, exists_eq_left', Option.some.injEq, Value.int.injEq, Value.ref.injEq, Value.long.injEq, true_and, and_true, exists_eq, exists_true_left, FdF_0, FdF_s0, FdF_1, FdF_s1, FdF_2, FdF_s2, FdF_3, FdF_s3, FdF_4, FdF_5, FdF_6, FdF_7, FdF_len, Fdw_ob, Fdw_uob, Fdw_4, Fdw_g4, Fdw_v4, Fdw_u4, Fdw_5, Fdw_g5, Fdw_v5, Fdw_u5, Fdw_6, Fdw_g6, Fdw_v6, Fdw_u6, Fdw_7, Fdw_g7, Fdw_v7, Fdw_u7, WdF_0, WdF_1, WdF_len, Wdw_ob, Wdw_0, Wdw_g0, Wdw_v0, Wdw_u0, Wdw_1, Wdw_g1, Wdw_v1, Wdw_u1, AuF_0, AuF_s0, AuF_1, AuF_2, AuF_3, AuF_4, AuF_5, AuF_6, AuF_7, AuF_8, AuF_len, Auw_ob, Auw_uob, Auw_1, Auw_g1, Auw_v1, Auw_u1, Auw_2, Auw_g2, Auw_v2, Auw_u2, Auw_3, Auw_g3, Auw_v3, Auw_u3, Auw_4, Auw_g4, Auw_v4, Auw_u4, Auw_5, Auw_g5, Auw_v5, Auw_u5, Auw_6, Auw_g6, Auw_v6, Auw_u6, Auw_7, Auw_g7, Auw_v7, Auw_u7, Auw_8, Auw_g8, Auw_v8, Auw_u8, SgF_0, SgF_s0, SgF_1, SgF_2, SgF_3, SgF_len, Sgw_ob, Sgw_uob, Sgw_1, Sgw_g1, Sgw_v1, Sgw_u1, Sgw_2, Sgw_g2, Sgw_v2, Sgw_u2, Sgw_3, Sgw_g3, Sgw_v3, Sgw_u3, RdF_0, RdF_1, RdF_2, RdF_s2, RdF_3, RdF_s3, RdF_4, RdF_s4, RdF_5, RdF_s5, RdF_6, RdF_s6, RdF_7, RdF_s7, RdF_8, RdF_s8, RdF_9, RdF_10, RdF_11, RdF_s11, RdF_12, RdF_s12, RdF_13, RdF_s13, RdF_14, RdF_s14, RdF_len, Rdw_ob, Rdw_uob, Rdw_9, Rdw_g9, Rdw_v9, Rdw_u9, Rdw_10, Rdw_g10, Rdw_v10, Rdw_u10, FlF_0, FlF_s0, FlF_1, FlF_s1, FlF_2, FlF_s2, FlF_3, FlF_s3, FlF_4, FlF_5, FlF_6, FlF_7, FlF_s7, FlF_8, FlF_s8, FlF_9, FlF_s9, FlF_10, FlF_s10, FlF_11, FlF_s11, FlF_len, Flw_ob, Flw_uob, Flw_pob, Flw_upob, Flw_p1, Flw_p2, Flw_p3, Flw_lob, Flw_ulob, Flw_l1, Flw_l2, Flw_l3, Flw_rob, Nat.reduceLT, rup_s, rup_rup]
          refine hK (_, _, _) fc2 fr2 ⟨?_, ?_, ?_, ?_, ?_, ?_, ?_, ?_, ?_, ?_, ?_, ?_⟩ ((c2o 5 (by decide)).trans (c1o 5 (by decide) (by decide))) ?_
          · exact (c2o 2 (by decide)).trans ((c1o 2 (by decide) (by decide)).trans x2)
          · exact (c2o 3 (by decide)).trans ((c1o 3 (by decide) (by decide)).trans x3)
          · exact (c2o 4 (by decide)).trans ((c1o 4 (by decide) (by decide)).trans x4)
          · exact fun h => (c2o 5 (by decide)).trans ((c1o 5 (by decide) (by decide)).trans (x5 h))
          · exact (c2o 6 (by decide)).trans c16
          · show c2 7 = nI (aNd A nd cm)
            rw [n1]; exact c27
          · show lN (stepSet A ps (cm - 97)) = lN (aPs A ps cm)
            rw [n2]
          · exact (c2o 11 (by decide)).trans c111
          · exact hrg
          · show c2 12 + nI _ = nI (ns + pc6 (A.2.2.1 (aNd A nd cm)) 6)
            rw [n1, c2o 12 (by decide), c1o 12 (by decide) (by decide), x12, nI_add]
          · show c2 13 + nI _ = nI (nb + pc6 (aDb A (aNd A nd cm) (aPs A ps cm)) 6)
            rw [n1, n2, c2o 13 (by decide), c1o 13 (by decide) (by decide), x13, nI_add]; rfl
          · show c2 14 ||| nI _ = nI (f0 ||| (fm ||| A.2.2.1 (aNd A nd cm)))
            rw [n1, c2o 14 (by decide), c1o 14 (by decide) (by decide), x14, nI_or, Nat.or_assoc]
          · show FDr fc2 fr2 (fD key (aDb A (aNd A nd cm) (aPs A ps cm)) e (fS A key (A.2.2.1 (aNd A nd cm)) ((nI cm, st) :: hist) e fh 6) 6)
            rw [n1, n2]
            exact g2
        · have n1 : aNd A nd cm = 0 := by unfold aNd; rw [if_neg (by rw [hL]; decide)]
          have n2 : aPs A ps cm = 1 := by unfold aPs; rw [if_neg (by rw [hL]; decide)]
          have n3 : aDb A 0 1 = 0 := by unfold aDb; rw [any1 hA, Nat.zero_and]
          refine ⟨⟨_, At_bw 0 (by decide)⟩, e_R_restart (b_R_restart_0 ?_)⟩
          simp only [and_assoc, exists_and_left, exists_eq_left, exists_eq_left', Option.some.injEq, Value.int.injEq, Value.ref.injEq, Value.long.injEq, true_and, and_true, exists_eq, exists_true_left, FdF_0, FdF_s0, FdF_1, FdF_s1, FdF_2, FdF_s2, FdF_3, FdF_s3, FdF_4, FdF_5, FdF_6, FdF_7, FdF_len, Fdw_ob, Fdw_uob, Fdw_4, Fdw_g4, Fdw_v4, Fdw_u4, Fdw_5, Fdw_g5, Fdw_v5, Fdw_u5, Fdw_6, Fdw_g6, Fdw_v6, Fdw_u6, Fdw_7, Fdw_g7, Fdw_v7, Fdw_u7, WdF_0, WdF_1, WdF_len, Wdw_ob, Wdw_0, Wdw_g0, Wdw_v0, Wdw_u0, Wdw_1, Wdw_g1, Wdw_v1, Wdw_u1, AuF_0, AuF_s0, AuF_1, AuF_2, AuF_3, AuF_4, AuF_5, AuF_6, AuF_7, AuF_8, AuF_len, Auw_ob, Auw_uob, Auw_1, Auw_g1, Auw_v1, Auw_u1, Auw_2, Auw_g2, Auw_v2, Auw_u2, Auw_3, Auw_g3, Auw_v3, Auw_u3, Auw_4, Auw_g4, Auw_v4, Auw_u4, Auw_5, Auw_g5, Auw_v5, Auw_u5, Auw_6, Auw_g6, Auw_v6, Auw_u6, Auw_7, Auw_g7, Auw_v7, Auw_u7, Auw_8, Auw_g8, Auw_v8, Auw_u8, SgF_0, SgF_s0, SgF_1, SgF_2, SgF_3, SgF_len, Sgw_ob, Sgw_uob, Sgw_1, Sgw_g1, Sgw_v1, Sgw_u1, Sgw_2, Sgw_g2, Sgw_v2, Sgw_u2, Sgw_3, Sgw_g3, Sgw_v3, Sgw_u3, RdF_0, RdF_1, RdF_2, RdF_s2, RdF_3, RdF_s3, RdF_4, RdF_s4, RdF_5, RdF_s5, RdF_6, RdF_s6, RdF_7, RdF_s7, RdF_8, RdF_s8, RdF_9, RdF_10, RdF_11, RdF_s11, RdF_12, RdF_s12, RdF_13, RdF_s13, RdF_14, RdF_s14, RdF_len, Rdw_ob, Rdw_uob, Rdw_9, Rdw_g9, Rdw_v9, Rdw_u9, Rdw_10, Rdw_g10, Rdw_v10, Rdw_u10, FlF_0, FlF_s0, FlF_1, FlF_s1, FlF_2, FlF_s2, FlF_3, FlF_s3, FlF_4, FlF_5, FlF_6, FlF_7, FlF_s7, FlF_8, FlF_s8, FlF_9, FlF_s9, FlF_10, FlF_s10, FlF_11, FlF_s11, FlF_len, Flw_ob, Flw_uob, Flw_pob, Flw_upob, Flw_p1, Flw_p2, Flw_p3, Flw_lob, Flw_ulob, Flw_l1, Flw_l2, Flw_l3, Flw_rob, Nat.reduceLT, rup_s, rup_rup]
          refine hK (_, _, _) fc fr ⟨?_, ?_, ?_, ?_, ?_, ?_, ?_, ?_, ?_, ?_, ?_, ?_⟩ (c1o 5 (by decide) (by decide)) ?_
          · exact (c1o 2 (by decide) (by decide)).trans x2
          · exact (c1o 3 (by decide) (by decide)).trans x3
          · exact (c1o 4 (by decide) (by decide)).trans x4
          · exact fun h => (c1o 5 (by decide) (by decide)).trans (x5 h)
          · exact c16
          · show (0 : Int32) = nI (aNd A nd cm)
            rw [n1]; rfl
          · show (1 : Int64) = lN (aPs A ps cm)
            rw [n2]; rfl
          · exact c111
          · exact hrg
          · show c1 12 = nI (ns + pc6 (A.2.2.1 (aNd A nd cm)) 6)
            rw [n1, hA.2.2.2.2.1, pc6_0, c1o 12 (by decide) (by decide), x12]; rfl
          · show c1 13 = nI (nb + pc6 (aDb A (aNd A nd cm) (aPs A ps cm)) 6)
            rw [n1, n2, n3, pc6_0, c1o 13 (by decide) (by decide), x13]; rfl
          · show c1 14 = nI (f0 ||| (fm ||| A.2.2.1 (aNd A nd cm)))
            rw [n1, hA.2.2.2.2.1, Nat.or_zero, c1o 14 (by decide) (by decide), x14]
          · show FDr fc fr (fD key (aDb A (aNd A nd cm) (aPs A ps cm)) e (fS A key (A.2.2.1 (aNd A nd cm)) ((nI cm, st) :: hist) e fh 6) 6)
            rw [n1, n2, n3, hA.2.2.2.2.1, fS_0, fD_0]
            exact hFr
      have e32 : nI cm = 32 ↔ cm = 32 := nI_eq (b := 32) (by omega) (by decide)
      exact b_R_come_3 ⟨fun z => b_R_come_4 (b5 _ (by rw [decide_eq_false (fun t => z (e32.mpr t))]; rfl)), fun z => b5 _ (by rw [decide_eq_true (e32.mp z)]; rfl)⟩
  rw [eW]
  refine e_R_come (b_R_come_0 ?_)
  simp only [and_assoc, exists_and_left, exists_eq_left, exists_eq_left', Option.some.injEq, Value.int.injEq, Value.ref.injEq, Value.long.injEq, true_and, and_true, exists_eq, exists_true_left, FdF_0, FdF_s0, FdF_1, FdF_s1, FdF_2, FdF_s2, FdF_3, FdF_s3, FdF_4, FdF_5, FdF_6, FdF_7, FdF_len, Fdw_ob, Fdw_uob, Fdw_4, Fdw_g4, Fdw_v4, Fdw_u4, Fdw_5, Fdw_g5, Fdw_v5, Fdw_u5, Fdw_6, Fdw_g6, Fdw_v6, Fdw_u6, Fdw_7, Fdw_g7, Fdw_v7, Fdw_u7, WdF_0, WdF_1, WdF_len, Wdw_ob, Wdw_0, Wdw_g0, Wdw_v0, Wdw_u0, Wdw_1, Wdw_g1, Wdw_v1, Wdw_u1, AuF_0, AuF_s0, AuF_1, AuF_2, AuF_3, AuF_4, AuF_5, AuF_6, AuF_7, AuF_8, AuF_len, Auw_ob, Auw_uob, Auw_1, Auw_g1, Auw_v1, Auw_u1, Auw_2, Auw_g2, Auw_v2, Auw_u2, Auw_3, Auw_g3, Auw_v3, Auw_u3, Auw_4, Auw_g4, Auw_v4, Auw_u4, Auw_5, Auw_g5, Auw_v5, Auw_u5, Auw_6, Auw_g6, Auw_v6, Auw_u6, Auw_7, Auw_g7, Auw_v7, Auw_u7, Auw_8, Auw_g8, Auw_v8, Auw_u8, SgF_0, SgF_s0, SgF_1, SgF_2, SgF_3, SgF_len, Sgw_ob, Sgw_uob, Sgw_1, Sgw_g1, Sgw_v1, Sgw_u1, Sgw_2, Sgw_g2, Sgw_v2, Sgw_u2, Sgw_3, Sgw_g3, Sgw_v3, Sgw_u3, RdF_0, RdF_1, RdF_2, RdF_s2, RdF_3, RdF_s3, RdF_4, RdF_s4, RdF_5, RdF_s5, RdF_6, RdF_s6, RdF_7, RdF_s7, RdF_8, RdF_s8, RdF_9, RdF_10, RdF_11, RdF_s11, RdF_12, RdF_s12, RdF_13, RdF_s13, RdF_14, RdF_s14, RdF_len, Rdw_ob, Rdw_uob, Rdw_9, Rdw_g9, Rdw_v9, Rdw_u9, Rdw_10, Rdw_g10, Rdw_v10, Rdw_u10, FlF_0, FlF_s0, FlF_1, FlF_s1, FlF_2, FlF_s2, FlF_3, FlF_s3, FlF_4, FlF_5, FlF_6, FlF_7, FlF_s7, FlF_8, FlF_s8, FlF_9, FlF_s9, FlF_10, FlF_s10, FlF_11, FlF_s11, FlF_len, Flw_ob, Flw_uob, Flw_pob, Flw_upob, Flw_p1, Flw_p2, Flw_p3, Flw_lob, Flw_ulob, Flw_l1, Flw_l2, Flw_l3, Flw_rob, Nat.reduceLT, rup_s, rup_rup]
  rw [x3]
  have l1 : nI cn < 65 ↔ cn < 65 := nI_ltI (b := 65) (by omega) (by decide)
  have l2 : 90 < nI cn ↔ 90 < cn := nI_ltI (a := 90) (by decide) (by omega)
  refine ⟨fun z => b_R_come_1 (go _ ?_ (by omega)), fun z => ⟨fun y => b_R_come_1 (go _ ?_ (by omega)), fun y => ⟨fun u => b_R_come_1 (go _ ?_ (by omega)), fun u => ?_⟩⟩⟩
  · unfold chLow
    rw [(flag1 fl hfl).mp z]; rfl
  · unfold chLow
    rw [decide_eq_false (show ¬ 65 ≤ cn by have := l1.mp y; omega), Bool.and_false, Bool.false_and]; rfl
  · unfold chLow
    rw [decide_eq_false (show ¬ cn ≤ 90 by have := l2.mp u; omega), Bool.and_false]; rfl
  · have z : fl.testBit 0 = true := by
      cases h : fl.testBit 0 with
      | true => rfl
      | false => exact absurd ((flag1 fl hfl).mpr h) z
    have y : 65 ≤ cn := Nat.not_lt.mp (fun t => y (l1.mpr t))
    have u : cn ≤ 90 := Nat.not_lt.mp (fun t => u (l2.mpr t))
    rw [lit_65, pk_sub y, lit_97, nI_add, show cn - 65 + 97 = cn + 32 by omega]
    refine go _ ?_ (by omega)
    unfold chLow
    rw [z, decide_eq_true y, decide_eq_true u]; rfl
end CRead
