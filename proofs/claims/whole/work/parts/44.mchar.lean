/-! THE MODEL: character(..), lets(), delivers(..) -/
def hexv (n : Nat) : Option Nat := if 48 ≤ n ∧ n ≤ 57 then some (n - 48) else if 65 ≤ n ∧ n ≤ 70 then some (n - 55) else if 97 ≤ n ∧ n ≤ 102 then some (n - 87) else none
theorem hexv_lt {n v : Nat} (h : hexv n = some v) : v < 16 := by
  unfold hexv at h
  split at h
  · cases h; omega
  · split at h
    · cases h; omega
    · split at h
      · cases h; omega
      · cases h
/-- the bytes that are held become characters; index: behind them -/
def aRel (A : aAU) (fl : Nat) (key : Int32) (S : aS) (held dig index : Nat) : aS := match held with
  | 0 => S
  | 1 => aChar A fl key S 37 (nI (index - 1)) (nI index)
  | _ => aChar A fl key (aChar A fl key S 37 (nI (index - 2)) (nI (index - 1))) dig (nI (index - 1)) (nI index)
abbrev aH : Type := aS × Nat × Nat
def aTake (A : aAU) (fl : Nat) (key : Int32) (H : aH) (bt index : Nat) : aH :=
  if fl.testBit 1 = false then (aChar A fl key H.1 bt (nI index) (nI (index + 1)), H.2)
  else match H.2.1, hexv bt with
    | 2, some v => (aChar A fl key H.1 ((16 * (hexv H.2.2).getD 0 + v) % 128) (nI (index - 2)) (nI (index + 1)), 0, H.2.2)
    | 1, some _ => (H.1, 2, bt)
    | _, _ => if bt = 37 then (aRel A fl key H.1 H.2.1 H.2.2 index, 1, H.2.2) else (aChar A fl key (aRel A fl key H.1 H.2.1 H.2.2 index) bt (nI index) (nI (index + 1)), 0, H.2.2)
theorem nI_nn {n : Nat} (h : n < 2 ^ 31) : nI n ≠ -9 := nI_ne9 h
theorem aRel_ok {A : aAU} {fl : Nat} {key : Int32} {S : aS} {held dig index : Nat} (hA : auOk A) (h : sOk A S) (hi : index < 2 ^ 30) : sOk A (aRel A fl key S held dig index) := by
  unfold aRel
  split
  · exact h
  · exact aChar_ok hA h (nI_nn (by omega))
  · exact aChar_ok hA (aChar_ok hA h (nI_nn (by omega))) (nI_nn (by omega))
theorem aTake_ok {A : aAU} {fl : Nat} {key : Int32} {H : aH} {bt index : Nat} (hA : auOk A) (h : sOk A H.1) (hi : index < 2 ^ 30) : sOk A (aTake A fl key H bt index).1 := by
  unfold aTake
  split
  · exact aChar_ok hA h (nI_nn (by omega))
  · split
    · exact aChar_ok hA h (nI_nn (by omega))
    · exact h
    · split
      · exact aRel_ok hA h hi
      · exact aChar_ok hA (aRel_ok hA h hi) (nI_nn (by omega))
/-- how what is held lies in the model's flow; index: behind what is held -/
def MHd (g : Nat → Int32) (fl held dig index : Nat) : Prop := g 9 = nI held ∧ held ≤ 2 ∧ (0 < held → fl.testBit 1 = true ∧ held ≤ index ∧ g 10 = nI (index - held)) ∧ (held = 2 → g 11 = nI dig ∧ dig < 128 ∧ ∃ v, hexv dig = some v)
/-- what delivering leaves as it was -/
def GFd (g g' : Nat → Int32) : Prop := ∀ i, i ≠ 6 → i ≠ 7 → i ≠ 8 → i ≠ 9 → i ≠ 10 → i ≠ 11 → i ≠ 12 → i ≠ 18 → i ≠ 19 → i ≠ 20 → (i < 22 ∨ 38 ≤ i) → g' i = g i
theorem GFr.d {g g' : Nat → Int32} (h : GFr g g') : GFd g g' := fun i a b c _ _ _ d e f k l => h i a b c d e f k l
theorem GFd.tr {g g1 g2 : Nat → Int32} (h : GFd g g1) (h' : GFd g1 g2) : GFd g g2 := fun i a b c d e f k l m n o => (h' i a b c d e f k l m n o).trans (h i a b c d e f k l m n o)
theorem GFd.rf {g : Nat → Int32} : GFd g g := fun _ _ _ _ _ _ _ _ _ _ _ _ => rfl
theorem GFd.up {g g' : Nat → Int32} {k : Nat} {x : Int32} (h : GFd g g') (hk : k = 9 ∨ k = 10 ∨ k = 11) : GFd g (upd g' k x) := fun i a b c d e f k l m n o => (if_neg (by omega)).trans (h i a b c d e f k l m n o)
theorem MR_congr {f0 n0 : Nat} {c P g g' : Nat → Int32} {S : aS} (h : MR f0 n0 c P g S) (e : ∀ i, i ≠ 9 → i ≠ 10 → i ≠ 11 → i < 38 → g' i = g i) : MR f0 n0 c P g' S := by
  obtain ⟨r1, r2, r3, r4, r5, r6, r7, r8, r9, r10⟩ := h
  exact ⟨(e 6 (by decide) (by decide) (by decide) (by decide)).trans r1, ⟨(e 7 (by decide) (by decide) (by decide) (by decide)).trans r2.1, (e 8 (by decide) (by decide) (by decide) (by decide)).trans r2.2.1, r2.2.2⟩, MH_congr r3 (e 18 (by decide) (by decide) (by decide) (by decide)) (fun i h1 h2 => e i (by omega) (by omega) (by omega) h2), (e 12 (by decide) (by decide) (by decide) (by decide)).trans r4, r5, (e 19 (by decide) (by decide) (by decide) (by decide)).trans r6, (e 20 (by decide) (by decide) (by decide) (by decide)).trans r7, r8, r9, r10⟩
theorem MR_up {f0 n0 k : Nat} {c P g : Nat → Int32} {S : aS} {x : Int32} (h : MR f0 n0 c P g S) (hk : k = 9 ∨ k = 10 ∨ k = 11) : MR f0 n0 c P (upd g k x) S := MR_congr h (fun i a b c _ => if_neg (by omega))
theorem flag1 : ∀ fl, fl < 16 → ((nI fl &&& 1 = 0) ↔ fl.testBit 0 = false) := by decide +kernel
theorem flag2 : ∀ fl, fl < 16 → ((nI fl &&& 2 = 0) ↔ fl.testBit 1 = false) := by decide +kernel
theorem flag4 : ∀ fl, fl < 16 → ((nI fl &&& 4 = 0) ↔ fl.testBit 2 = false) := by decide +kernel
theorem flag8 : ∀ fl, fl < 16 → ((nI fl &&& 8 = 0) ↔ fl.testBit 3 = false) := by decide +kernel
section MChar
variable {w : jx_W} {q : Nat} {c : Nat → Int32} {r : Nat → Nat → Int32} {K : jx_Q} {P g : Nat → Int32} {b : Nat} {A : aAU}
theorem f_has {x : Int32} {fl k : Nat} (hb : c 12 = nI b) (hf : b + 710 ≤ 22416) (h2 : g 2 = nI fl) (hx : (nI fl &&& x = 0) ↔ fl.testBit k = false) (h1 : fl.testBit k = true → K (mw w q c (rup r 0 (pgf P b 710 g))) (some (.int 1))) (h0 : fl.testBit k = false → K (mw w q c (rup r 0 (pgf P b 710 g))) (some (.int 0))) : zcall n_M_has [.ref q, .int x] (mw w q c (rup r 0 (pgf P b 710 g))) K := by
  refine e_M_has (b_M_has_0 ?_)
  simp only [and_assoc, exists_and_left, exists_eq_left, exists_eq_left', Option.some.injEq, Value.int.injEq, Value.ref.injEq, Value.long.injEq, true_and, and_true, exists_eq, exists_true_left, mw_ob, mw_ia0, mw_ia2, mw_ia5, mw_ia6, mw_ia7, mw_ia8, mw_ia9, mw_ia10, mw_ia11, mw_ia15, mw_ia16, mF_0, mF_1, mF_2, mF_3, mF_4, mF_5, mF_6, mF_7, mF_8, mF_9, mF_10, mF_11, mF_12, mF_13, mF_14, mF_15, mF_16, mF_len, mF_s1, mF_s3, mF_s4, mF_s12, mF_s13, mF_s14, mw_uob, mw_u0, mw_u2, mw_u5, mw_u6, mw_u7, mw_u8, mw_u9, mw_u10, mw_u11, mw_u15, mw_u16, Nat.reduceLT, rup_s, rup_rup]
  refine f_of hb (i := 2) rfl (by decide) hf ?_
  simp only [and_assoc, exists_and_left, exists_eq_left, exists_eq_left', Option.some.injEq, Value.int.injEq, Value.ref.injEq, Value.long.injEq, true_and, and_true, exists_eq, exists_true_left, mw_ob, mw_ia0, mw_ia2, mw_ia5, mw_ia6, mw_ia7, mw_ia8, mw_ia9, mw_ia10, mw_ia11, mw_ia15, mw_ia16, mF_0, mF_1, mF_2, mF_3, mF_4, mF_5, mF_6, mF_7, mF_8, mF_9, mF_10, mF_11, mF_12, mF_13, mF_14, mF_15, mF_16, mF_len, mF_s1, mF_s3, mF_s4, mF_s12, mF_s13, mF_s14, mw_uob, mw_u0, mw_u2, mw_u5, mw_u6, mw_u7, mw_u8, mw_u9, mw_u10, mw_u11, mw_u15, mw_u16, Nat.reduceLT, rup_s, rup_rup]
  rw [h2]
  refine ⟨fun z => b_M_has_1 (b_M_has_2 ⟨b01, h0 (hx.mp z)⟩), fun z => b_M_has_2 ⟨b11, h1 ?_⟩⟩
  cases ht : fl.testBit k with
  | true => rfl
  | false => exact absurd (hx.mpr ht) z
theorem s_M_hexOf {x : Int32} {n : Nat} {w : jx_W} (hx : x = nI n) (hn : n < 1000) (hK : K w (some (.int (oM (hexv n))))) : zcall n_M_hexOf [.int x] w K := by
  subst hx
  unfold hexv at hK
  refine e_M_hexOf (b_M_hexOf_0 (s_M_in (fun z1 z2 => ?_) (fun z => ?_)))
  · have z1 := (nI_leI (a := 48) (by decide) (by omega)).mp z1
    have z2 := (nI_leI (b := 57) (by omega) (by decide)).mp z2
    rw [if_pos ⟨z1, z2⟩] at hK
    simp only [and_assoc, exists_and_left, exists_eq_left, exists_eq_left', Option.some.injEq, Value.int.injEq, Value.ref.injEq, Value.long.injEq, true_and, and_true, exists_eq, exists_true_left, mw_ob, mw_ia0, mw_ia2, mw_ia5, mw_ia6, mw_ia7, mw_ia8, mw_ia9, mw_ia10, mw_ia11, mw_ia15, mw_ia16, mF_0, mF_1, mF_2, mF_3, mF_4, mF_5, mF_6, mF_7, mF_8, mF_9, mF_10, mF_11, mF_12, mF_13, mF_14, mF_15, mF_16, mF_len, mF_s1, mF_s3, mF_s4, mF_s12, mF_s13, mF_s14, mw_uob, mw_u0, mw_u2, mw_u5, mw_u6, mw_u7, mw_u8, mw_u9, mw_u10, mw_u11, mw_u15, mw_u16, Nat.reduceLT, rup_s, rup_rup]
    refine if0 (b_M_hexOf_4 ?_)
    rw [lit_48, pk_sub z1]
    exact hK
  · have z : ¬ (48 ≤ n ∧ n ≤ 57) := fun y => z ⟨(nI_leI (a := 48) (by decide) (by omega)).mpr y.1, (nI_leI (b := 57) (by omega) (by decide)).mpr y.2⟩
    rw [if_neg z] at hK
    simp only [and_assoc, exists_and_left, exists_eq_left, exists_eq_left', Option.some.injEq, Value.int.injEq, Value.ref.injEq, Value.long.injEq, true_and, and_true, exists_eq, exists_true_left, mw_ob, mw_ia0, mw_ia2, mw_ia5, mw_ia6, mw_ia7, mw_ia8, mw_ia9, mw_ia10, mw_ia11, mw_ia15, mw_ia16, mF_0, mF_1, mF_2, mF_3, mF_4, mF_5, mF_6, mF_7, mF_8, mF_9, mF_10, mF_11, mF_12, mF_13, mF_14, mF_15, mF_16, mF_len, mF_s1, mF_s3, mF_s4, mF_s12, mF_s13, mF_s14, mw_uob, mw_u0, mw_u2, mw_u5, mw_u6, mw_u7, mw_u8, mw_u9, mw_u10, mw_u11, mw_u15, mw_u16, Nat.reduceLT, rup_s, rup_rup]
    refine if1 (b_M_hexOf_1 (s_M_in (fun z1 z2 => ?_) (fun z => ?_)))
    · have z1 := (nI_leI (a := 65) (by decide) (by omega)).mp z1
      have z2 := (nI_leI (b := 70) (by omega) (by decide)).mp z2
      rw [if_pos ⟨z1, z2⟩] at hK
      simp only [and_assoc, exists_and_left, exists_eq_left, exists_eq_left', Option.some.injEq, Value.int.injEq, Value.ref.injEq, Value.long.injEq, true_and, and_true, exists_eq, exists_true_left, mw_ob, mw_ia0, mw_ia2, mw_ia5, mw_ia6, mw_ia7, mw_ia8, mw_ia9, mw_ia10, mw_ia11, mw_ia15, mw_ia16, mF_0, mF_1, mF_2, mF_3, mF_4, mF_5, mF_6, mF_7, mF_8, mF_9, mF_10, mF_11, mF_12, mF_13, mF_14, mF_15, mF_16, mF_len, mF_s1, mF_s3, mF_s4, mF_s12, mF_s13, mF_s14, mw_uob, mw_u0, mw_u2, mw_u5, mw_u6, mw_u7, mw_u8, mw_u9, mw_u10, mw_u11, mw_u15, mw_u16, Nat.reduceLT, rup_s, rup_rup]
      refine if0 (b_M_hexOf_4 ?_)
      rw [lit_65, lit_10, pk_sub z1, nI_add, show n - 65 + 10 = n - 55 by omega]
      exact hK
    · have z : ¬ (65 ≤ n ∧ n ≤ 70) := fun y => z ⟨(nI_leI (a := 65) (by decide) (by omega)).mpr y.1, (nI_leI (b := 70) (by omega) (by decide)).mpr y.2⟩
      rw [if_neg z] at hK
      simp only [and_assoc, exists_and_left, exists_eq_left, exists_eq_left', Option.some.injEq, Value.int.injEq, Value.ref.injEq, Value.long.injEq, true_and, and_true, exists_eq, exists_true_left, mw_ob, mw_ia0, mw_ia2, mw_ia5, mw_ia6, mw_ia7, mw_ia8, mw_ia9, mw_ia10, mw_ia11, mw_ia15, mw_ia16, mF_0, mF_1, mF_2, mF_3, mF_4, mF_5, mF_6, mF_7, mF_8, mF_9, mF_10, mF_11, mF_12, mF_13, mF_14, mF_15, mF_16, mF_len, mF_s1, mF_s3, mF_s4, mF_s12, mF_s13, mF_s14, mw_uob, mw_u0, mw_u2, mw_u5, mw_u6, mw_u7, mw_u8, mw_u9, mw_u10, mw_u11, mw_u15, mw_u16, Nat.reduceLT, rup_s, rup_rup]
      refine if1 (b_M_hexOf_2 (s_M_in (fun z1 z2 => ?_) (fun z => ?_)))
      · have z1 := (nI_leI (a := 97) (by decide) (by omega)).mp z1
        have z2 := (nI_leI (b := 102) (by omega) (by decide)).mp z2
        rw [if_pos ⟨z1, z2⟩] at hK
        simp only [and_assoc, exists_and_left, exists_eq_left, exists_eq_left', Option.some.injEq, Value.int.injEq, Value.ref.injEq, Value.long.injEq, true_and, and_true, exists_eq, exists_true_left, mw_ob, mw_ia0, mw_ia2, mw_ia5, mw_ia6, mw_ia7, mw_ia8, mw_ia9, mw_ia10, mw_ia11, mw_ia15, mw_ia16, mF_0, mF_1, mF_2, mF_3, mF_4, mF_5, mF_6, mF_7, mF_8, mF_9, mF_10, mF_11, mF_12, mF_13, mF_14, mF_15, mF_16, mF_len, mF_s1, mF_s3, mF_s4, mF_s12, mF_s13, mF_s14, mw_uob, mw_u0, mw_u2, mw_u5, mw_u6, mw_u7, mw_u8, mw_u9, mw_u10, mw_u11, mw_u15, mw_u16, Nat.reduceLT, rup_s, rup_rup]
        refine if0 (b_M_hexOf_4 ?_)
        rw [lit_97, lit_10, pk_sub z1, nI_add, show n - 97 + 10 = n - 87 by omega]
        exact hK
      · have z : ¬ (97 ≤ n ∧ n ≤ 102) := fun y => z ⟨(nI_leI (a := 97) (by decide) (by omega)).mpr y.1, (nI_leI (b := 102) (by omega) (by decide)).mpr y.2⟩
        rw [if_neg z] at hK
        simp only [and_assoc, exists_and_left, exists_eq_left, exists_eq_left', Option.some.injEq, Value.int.injEq, Value.ref.injEq, Value.long.injEq, true_and, and_true, exists_eq, exists_true_left, mw_ob, mw_ia0, mw_ia2, mw_ia5, mw_ia6, mw_ia7, mw_ia8, mw_ia9, mw_ia10, mw_ia11, mw_ia15, mw_ia16, mF_0, mF_1, mF_2, mF_3, mF_4, mF_5, mF_6, mF_7, mF_8, mF_9, mF_10, mF_11, mF_12, mF_13, mF_14, mF_15, mF_16, mF_len, mF_s1, mF_s3, mF_s4, mF_s12, mF_s13, mF_s14, mw_uob, mw_u0, mw_u2, mw_u5, mw_u6, mw_u7, mw_u8, mw_u9, mw_u10, mw_u11, mw_u15, mw_u16, Nat.reduceLT, rup_s, rup_rup]
        exact if1 (b_M_hexOf_3 (b_M_hexOf_4 hK))
theorem f_char4 {f0 n0 cn fl : Nat} {st e : Int32} {S : aS} (hb : c 12 = nI b) (hf : b + 710 ≤ 22416) (hb1 : 186 ≤ b) (hA : auOk A) (hm : MA c r A) (hW : PWd P A) (h2 : g 2 = nI fl) (hfl : fl < 16) (hcn : cn < 900) (hst : st ≠ -9) (hS : sOk A S) (hR : MR f0 n0 c P g S) (hd : (fl.testBit 3 && (decide (cn = 45) || decide (cn = 46))) = false)
    (hK : ∀ c' P' g', MR f0 n0 c' P' g' (if chDrop fl S.2.2.2.1 cn then S else aRead A (g 0) (sBl S (decide (cn = 32))) cn st e) → CFr c c' → PFr P P' → GFr g g' → K (mw w q c' (rup r 0 (pgf P' b 710 g'))) none) : zwp n_M_character 4 [(0, .ref q), (2, .int st), (3, .int e), (4, .int (nI cn))] [] 0 0 (mw w q c (rup r 0 (pgf P b 710 g))) K := by
  have e32 : nI cn = 32 ↔ cn = 32 := nI_eq (b := 32) (by omega) (by decide)
  have go : (fl.testBit 2 && decide (cn = 32) && S.2.2.2.1) = false → zwp n_M_character 5 [(0, .ref q), (2, .int st), (3, .int e), (4, .int (nI cn))] [] 0 0 (mw w q c (rup r 0 (pgf P b 710 g))) K := fun h => by
    have hnd : chDrop fl S.2.2.2.1 cn = false := by unfold chDrop; rw [hd, h]; rfl
    rw [hnd] at hK
    have fin : ∀ (y : Int32), y = oob (decide (cn = 32)) → zwp n_M_character 7 [(0, .ref q), (2, .int st), (3, .int e), (4, .int (nI cn))] [.int y, .int 12, .ref q] 0 0 (mw w q c (rup r 0 (pgf P b 710 g))) K := fun y hy => by
      refine b_M_character_7 ?_
      simp only [and_assoc, exists_and_left, exists_eq_left, exists_eq_left', Option.some.injEq, Value.int.injEq, Value.ref.injEq, Value.long.injEq, true_and, and_true, exists_eq, exists_true_left, mw_ob, mw_ia0, mw_ia2, mw_ia5, mw_ia6, mw_ia7, mw_ia8, mw_ia9, mw_ia10, mw_ia11, mw_ia15, mw_ia16, mF_0, mF_1, mF_2, mF_3, mF_4, mF_5, mF_6, mF_7, mF_8, mF_9, mF_10, mF_11, mF_12, mF_13, mF_14, mF_15, mF_16, mF_len, mF_s1, mF_s3, mF_s4, mF_s12, mF_s13, mF_s14, mw_uob, mw_u0, mw_u2, mw_u5, mw_u6, mw_u7, mw_u8, mw_u9, mw_u10, mw_u11, mw_u15, mw_u16, Nat.reduceLT, rup_s, rup_rup]
      refine f_put hb (i := 12) rfl (by decide) hf ?_
      simp only [and_assoc, exists_and_left, exists_eq_left, exists_eq_left', Option.some.injEq, Value.int.injEq, Value.ref.injEq, Value.long.injEq, true_and, and_true, exists_eq, exists_true_left, mw_ob, mw_ia0, mw_ia2, mw_ia5, mw_ia6, mw_ia7, mw_ia8, mw_ia9, mw_ia10, mw_ia11, mw_ia15, mw_ia16, mF_0, mF_1, mF_2, mF_3, mF_4, mF_5, mF_6, mF_7, mF_8, mF_9, mF_10, mF_11, mF_12, mF_13, mF_14, mF_15, mF_16, mF_len, mF_s1, mF_s3, mF_s4, mF_s12, mF_s13, mF_s14, mw_uob, mw_u0, mw_u2, mw_u5, mw_u6, mw_u7, mw_u8, mw_u9, mw_u10, mw_u11, mw_u15, mw_u16, Nat.reduceLT, rup_s, rup_rup]
      have hR' : MR f0 n0 c P (upd g 12 y) (sBl S (decide (cn = 32))) := by
        obtain ⟨r1, r2, r3, r4, r5, r6, r7, r8, r9, r10⟩ := hR
        exact ⟨r1, r2, MH_congr r3 rfl (fun i h1 _ => if_neg (by omega)), hy, r5, r6, r7, r8, r9, r10⟩
      refine f_reads (S := sBl S (decide (cn = 32))) hb hf hb1 hA hm hW rfl (by omega) hst hS hR' (fun c' P' g' m1 m2 m3 m4 => ?_)
      simp only [and_assoc, exists_and_left, exists_eq_left, exists_eq_left', Option.some.injEq, Value.int.injEq, Value.ref.injEq, Value.long.injEq, true_and, and_true, exists_eq, exists_true_left, mw_ob, mw_ia0, mw_ia2, mw_ia5, mw_ia6, mw_ia7, mw_ia8, mw_ia9, mw_ia10, mw_ia11, mw_ia15, mw_ia16, mF_0, mF_1, mF_2, mF_3, mF_4, mF_5, mF_6, mF_7, mF_8, mF_9, mF_10, mF_11, mF_12, mF_13, mF_14, mF_15, mF_16, mF_len, mF_s1, mF_s3, mF_s4, mF_s12, mF_s13, mF_s14, mw_uob, mw_u0, mw_u2, mw_u5, mw_u6, mw_u7, mw_u8, mw_u9, mw_u10, mw_u11, mw_u15, mw_u16, Nat.reduceLT, rup_s, rup_rup]
      exact hK c' P' g' m1 m2 m3 (fun i a1 a2 a3 a4 a5 a6 a7 a8 => (m4 i a1 a2 a3 a4 a5 a6 a7 a8).trans (if_neg a4))
    refine b_M_character_5 ⟨fun z => b_M_character_6 (fin _ ?_), fun z => fin _ ?_⟩
    · rw [decide_eq_false (fun y => z (e32.mpr y))]; rfl
    · rw [decide_eq_true (e32.mp z)]; rfl
  refine b_M_character_4 ?_
  simp only [and_assoc, exists_and_left, exists_eq_left, exists_eq_left', Option.some.injEq, Value.int.injEq, Value.ref.injEq, Value.long.injEq, true_and, and_true, exists_eq, exists_true_left, mw_ob, mw_ia0, mw_ia2, mw_ia5, mw_ia6, mw_ia7, mw_ia8, mw_ia9, mw_ia10, mw_ia11, mw_ia15, mw_ia16, mF_0, mF_1, mF_2, mF_3, mF_4, mF_5, mF_6, mF_7, mF_8, mF_9, mF_10, mF_11, mF_12, mF_13, mF_14, mF_15, mF_16, mF_len, mF_s1, mF_s3, mF_s4, mF_s12, mF_s13, mF_s14, mw_uob, mw_u0, mw_u2, mw_u5, mw_u6, mw_u7, mw_u8, mw_u9, mw_u10, mw_u11, mw_u15, mw_u16, Nat.reduceLT, rup_s, rup_rup]
  refine f_has hb hf h2 (flag4 fl hfl) (fun ht => ?_) (fun ht => ?_)
  · simp only [and_assoc, exists_and_left, exists_eq_left, exists_eq_left', Option.some.injEq, Value.int.injEq, Value.ref.injEq, Value.long.injEq, true_and, and_true, exists_eq, exists_true_left, mw_ob, mw_ia0, mw_ia2, mw_ia5, mw_ia6, mw_ia7, mw_ia8, mw_ia9, mw_ia10, mw_ia11, mw_ia15, mw_ia16, mF_0, mF_1, mF_2, mF_3, mF_4, mF_5, mF_6, mF_7, mF_8, mF_9, mF_10, mF_11, mF_12, mF_13, mF_14, mF_15, mF_16, mF_len, mF_s1, mF_s3, mF_s4, mF_s12, mF_s13, mF_s14, mw_uob, mw_u0, mw_u2, mw_u5, mw_u6, mw_u7, mw_u8, mw_u9, mw_u10, mw_u11, mw_u15, mw_u16, Nat.reduceLT, rup_s, rup_rup]
    refine if0 ⟨fun z => go ?_, fun z => ?_⟩
    · rw [decide_eq_false (fun y => z (e32.mpr y)), Bool.and_false, Bool.false_and]
    · refine f_of hb (i := 12) rfl (by decide) hf ?_
      simp only [and_assoc, exists_and_left, exists_eq_left, exists_eq_left', Option.some.injEq, Value.int.injEq, Value.ref.injEq, Value.long.injEq, true_and, and_true, exists_eq, exists_true_left, mw_ob, mw_ia0, mw_ia2, mw_ia5, mw_ia6, mw_ia7, mw_ia8, mw_ia9, mw_ia10, mw_ia11, mw_ia15, mw_ia16, mF_0, mF_1, mF_2, mF_3, mF_4, mF_5, mF_6, mF_7, mF_8, mF_9, mF_10, mF_11, mF_12, mF_13, mF_14, mF_15, mF_16, mF_len, mF_s1, mF_s3, mF_s4, mF_s12, mF_s13, mF_s14, mw_uob, mw_u0, mw_u2, mw_u5, mw_u6, mw_u7, mw_u8, mw_u9, mw_u10, mw_u11, mw_u15, mw_u16, Nat.reduceLT, rup_s, rup_rup]
      rw [hR.2.2.2.1]
      cases hbl : S.2.2.2.1 with
      | false => exact ⟨fun _ => go (by rw [hbl, Bool.and_false]), fun y => absurd y (by decide)⟩
      | true =>
        refine ⟨fun y => absurd rfl y, fun _ => ?_⟩
        have hdr : chDrop fl S.2.2.2.1 cn = true := by unfold chDrop; rw [ht, hbl, decide_eq_true (e32.mp z)]; simp
        rw [hdr] at hK
        exact hK c P g hR CFr.rf PFr.rf GFr.rf
  · simp only [and_assoc, exists_and_left, exists_eq_left, exists_eq_left', Option.some.injEq, Value.int.injEq, Value.ref.injEq, Value.long.injEq, true_and, and_true, exists_eq, exists_true_left, mw_ob, mw_ia0, mw_ia2, mw_ia5, mw_ia6, mw_ia7, mw_ia8, mw_ia9, mw_ia10, mw_ia11, mw_ia15, mw_ia16, mF_0, mF_1, mF_2, mF_3, mF_4, mF_5, mF_6, mF_7, mF_8, mF_9, mF_10, mF_11, mF_12, mF_13, mF_14, mF_15, mF_16, mF_len, mF_s1, mF_s3, mF_s4, mF_s12, mF_s13, mF_s14, mw_uob, mw_u0, mw_u2, mw_u5, mw_u6, mw_u7, mw_u8, mw_u9, mw_u10, mw_u11, mw_u15, mw_u16, Nat.reduceLT, rup_s, rup_rup]
    exact if1 (go (by rw [ht, Bool.false_and, Bool.false_and]))
theorem f_character {f0 n0 cn fl : Nat} {x st e : Int32} {S : aS} (hb : c 12 = nI b) (hf : b + 710 ≤ 22416) (hb1 : 186 ≤ b) (hA : auOk A) (hm : MA c r A) (hW : PWd P A) (h2 : g 2 = nI fl) (hfl : fl < 16) (hx : x = nI cn) (hcn : cn < 128) (hst : st ≠ -9) (hS : sOk A S) (hR : MR f0 n0 c P g S)
    (hK : ∀ c' P' g', MR f0 n0 c' P' g' (aChar A fl (g 0) S cn st e) → CFr c c' → PFr P P' → GFr g g' → K (mw w q c' (rup r 0 (pgf P' b 710 g'))) none) : zcall n_M_character [.ref q, .int x, .int st, .int e] (mw w q c (rup r 0 (pgf P b 710 g))) K := by
  subst hx
  unfold aChar at hK
  have go : ∀ cm, cm = chLow fl cn → cm < 900 → zwp n_M_character 2 [(0, .ref q), (2, .int st), (3, .int e)] [.int (nI cm)] 0 0 (mw w q c (rup r 0 (pgf P b 710 g))) K := fun cm hcm hlt => by
    rw [← hcm] at hK
    have e45 : nI cm = 45 ↔ cm = 45 := nI_eq (b := 45) (by omega) (by decide)
    have e46 : nI cm = 46 ↔ cm = 46 := nI_eq (b := 46) (by omega) (by decide)
    have drop : (fl.testBit 3 && (decide (cm = 45) || decide (cm = 46))) = true → zwp n_M_character 3 [] [] 0 0 (mw w q c (rup r 0 (pgf P b 710 g))) K := fun h => by
      have hdr : chDrop fl S.2.2.2.1 cm = true := by unfold chDrop; rw [h]; rfl
      rw [hdr] at hK
      exact b_M_character_3 (hK c P g hR CFr.rf PFr.rf GFr.rf)
    have goon : (fl.testBit 3 && (decide (cm = 45) || decide (cm = 46))) = false → zwp n_M_character 4 [(0, .ref q), (2, .int st), (3, .int e), (4, .int (nI cm))] [] 0 0 (mw w q c (rup r 0 (pgf P b 710 g))) K := fun h => f_char4 hb hf hb1 hA hm hW h2 hfl hlt hst hS hR h hK
    refine b_M_character_2 ?_
    simp only [and_assoc, exists_and_left, exists_eq_left, exists_eq_left', Option.some.injEq, Value.int.injEq, Value.ref.injEq, Value.long.injEq, true_and, and_true, exists_eq, exists_true_left, mw_ob, mw_ia0, mw_ia2, mw_ia5, mw_ia6, mw_ia7, mw_ia8, mw_ia9, mw_ia10, mw_ia11, mw_ia15, mw_ia16, mF_0, mF_1, mF_2, mF_3, mF_4, mF_5, mF_6, mF_7, mF_8, mF_9, mF_10, mF_11, mF_12, mF_13, mF_14, mF_15, mF_16, mF_len, mF_s1, mF_s3, mF_s4, mF_s12, mF_s13, mF_s14, mw_uob, mw_u0, mw_u2, mw_u5, mw_u6, mw_u7, mw_u8, mw_u9, mw_u10, mw_u11, mw_u15, mw_u16, Nat.reduceLT, rup_s, rup_rup]
    refine f_has hb hf h2 (flag8 fl hfl) (fun ht => ?_) (fun ht => ?_)
    · simp only [and_assoc, exists_and_left, exists_eq_left, exists_eq_left', Option.some.injEq, Value.int.injEq, Value.ref.injEq, Value.long.injEq, true_and, and_true, exists_eq, exists_true_left, mw_ob, mw_ia0, mw_ia2, mw_ia5, mw_ia6, mw_ia7, mw_ia8, mw_ia9, mw_ia10, mw_ia11, mw_ia15, mw_ia16, mF_0, mF_1, mF_2, mF_3, mF_4, mF_5, mF_6, mF_7, mF_8, mF_9, mF_10, mF_11, mF_12, mF_13, mF_14, mF_15, mF_16, mF_len, mF_s1, mF_s3, mF_s4, mF_s12, mF_s13, mF_s14, mw_uob, mw_u0, mw_u2, mw_u5, mw_u6, mw_u7, mw_u8, mw_u9, mw_u10, mw_u11, mw_u15, mw_u16, Nat.reduceLT, rup_s, rup_rup]
      refine if0 ⟨fun z => drop ?_, fun z => ⟨fun y => goon ?_, fun y => drop ?_⟩⟩
      · rw [ht, decide_eq_true (e45.mp z)]; rfl
      · rw [decide_eq_false (fun u => z (e45.mpr u)), decide_eq_false (fun u => y (e46.mpr u))]; simp
      · rw [ht, decide_eq_true (e46.mp y)]; simp
    · simp only [and_assoc, exists_and_left, exists_eq_left, exists_eq_left', Option.some.injEq, Value.int.injEq, Value.ref.injEq, Value.long.injEq, true_and, and_true, exists_eq, exists_true_left, mw_ob, mw_ia0, mw_ia2, mw_ia5, mw_ia6, mw_ia7, mw_ia8, mw_ia9, mw_ia10, mw_ia11, mw_ia15, mw_ia16, mF_0, mF_1, mF_2, mF_3, mF_4, mF_5, mF_6, mF_7, mF_8, mF_9, mF_10, mF_11, mF_12, mF_13, mF_14, mF_15, mF_16, mF_len, mF_s1, mF_s3, mF_s4, mF_s12, mF_s13, mF_s14, mw_uob, mw_u0, mw_u2, mw_u5, mw_u6, mw_u7, mw_u8, mw_u9, mw_u10, mw_u11, mw_u15, mw_u16, Nat.reduceLT, rup_s, rup_rup]
      exact if1 (goon (by rw [ht, Bool.false_and]))
  refine e_M_character (b_M_character_0 ?_)
  simp only [and_assoc, exists_and_left, exists_eq_left, exists_eq_left', Option.some.injEq, Value.int.injEq, Value.ref.injEq, Value.long.injEq, true_and, and_true, exists_eq, exists_true_left, mw_ob, mw_ia0, mw_ia2, mw_ia5, mw_ia6, mw_ia7, mw_ia8, mw_ia9, mw_ia10, mw_ia11, mw_ia15, mw_ia16, mF_0, mF_1, mF_2, mF_3, mF_4, mF_5, mF_6, mF_7, mF_8, mF_9, mF_10, mF_11, mF_12, mF_13, mF_14, mF_15, mF_16, mF_len, mF_s1, mF_s3, mF_s4, mF_s12, mF_s13, mF_s14, mw_uob, mw_u0, mw_u2, mw_u5, mw_u6, mw_u7, mw_u8, mw_u9, mw_u10, mw_u11, mw_u15, mw_u16, Nat.reduceLT, rup_s, rup_rup]
  refine f_has hb hf h2 (flag1 fl hfl) (fun ht => ?_) (fun ht => ?_)
  · simp only [and_assoc, exists_and_left, exists_eq_left, exists_eq_left', Option.some.injEq, Value.int.injEq, Value.ref.injEq, Value.long.injEq, true_and, and_true, exists_eq, exists_true_left, mw_ob, mw_ia0, mw_ia2, mw_ia5, mw_ia6, mw_ia7, mw_ia8, mw_ia9, mw_ia10, mw_ia11, mw_ia15, mw_ia16, mF_0, mF_1, mF_2, mF_3, mF_4, mF_5, mF_6, mF_7, mF_8, mF_9, mF_10, mF_11, mF_12, mF_13, mF_14, mF_15, mF_16, mF_len, mF_s1, mF_s3, mF_s4, mF_s12, mF_s13, mF_s14, mw_uob, mw_u0, mw_u2, mw_u5, mw_u6, mw_u7, mw_u8, mw_u9, mw_u10, mw_u11, mw_u15, mw_u16, Nat.reduceLT, rup_s, rup_rup]
    refine if0 (s_M_in (fun z1 z2 => ?_) (fun z => ?_))
    · have z1 := (nI_leI (a := 65) (by decide) (by omega)).mp z1
      have z2 := (nI_leI (b := 90) (by omega) (by decide)).mp z2
      simp only [and_assoc, exists_and_left, exists_eq_left, exists_eq_left', Option.some.injEq, Value.int.injEq, Value.ref.injEq, Value.long.injEq, true_and, and_true, exists_eq, exists_true_left, mw_ob, mw_ia0, mw_ia2, mw_ia5, mw_ia6, mw_ia7, mw_ia8, mw_ia9, mw_ia10, mw_ia11, mw_ia15, mw_ia16, mF_0, mF_1, mF_2, mF_3, mF_4, mF_5, mF_6, mF_7, mF_8, mF_9, mF_10, mF_11, mF_12, mF_13, mF_14, mF_15, mF_16, mF_len, mF_s1, mF_s3, mF_s4, mF_s12, mF_s13, mF_s14, mw_uob, mw_u0, mw_u2, mw_u5, mw_u6, mw_u7, mw_u8, mw_u9, mw_u10, mw_u11, mw_u15, mw_u16, Nat.reduceLT, rup_s, rup_rup]
      refine if0 ?_
      rw [lit_32, nI_add]
      exact go _ (by unfold chLow; rw [ht, decide_eq_true z1, decide_eq_true z2]; rfl) (by omega)
    · have z : ¬ (65 ≤ cn ∧ cn ≤ 90) := fun y => z ⟨(nI_leI (a := 65) (by decide) (by omega)).mpr y.1, (nI_leI (b := 90) (by omega) (by decide)).mpr y.2⟩
      simp only [and_assoc, exists_and_left, exists_eq_left, exists_eq_left', Option.some.injEq, Value.int.injEq, Value.ref.injEq, Value.long.injEq, true_and, and_true, exists_eq, exists_true_left, mw_ob, mw_ia0, mw_ia2, mw_ia5, mw_ia6, mw_ia7, mw_ia8, mw_ia9, mw_ia10, mw_ia11, mw_ia15, mw_ia16, mF_0, mF_1, mF_2, mF_3, mF_4, mF_5, mF_6, mF_7, mF_8, mF_9, mF_10, mF_11, mF_12, mF_13, mF_14, mF_15, mF_16, mF_len, mF_s1, mF_s3, mF_s4, mF_s12, mF_s13, mF_s14, mw_uob, mw_u0, mw_u2, mw_u5, mw_u6, mw_u7, mw_u8, mw_u9, mw_u10, mw_u11, mw_u15, mw_u16, Nat.reduceLT, rup_s, rup_rup]
      refine if1 (b_M_character_1 (go _ ?_ (by omega)))
      unfold chLow
      rw [if_neg (by simp only [Bool.and_eq_true, decide_eq_true_eq]; omega)]
  · simp only [and_assoc, exists_and_left, exists_eq_left, exists_eq_left', Option.some.injEq, Value.int.injEq, Value.ref.injEq, Value.long.injEq, true_and, and_true, exists_eq, exists_true_left, mw_ob, mw_ia0, mw_ia2, mw_ia5, mw_ia6, mw_ia7, mw_ia8, mw_ia9, mw_ia10, mw_ia11, mw_ia15, mw_ia16, mF_0, mF_1, mF_2, mF_3, mF_4, mF_5, mF_6, mF_7, mF_8, mF_9, mF_10, mF_11, mF_12, mF_13, mF_14, mF_15, mF_16, mF_len, mF_s1, mF_s3, mF_s4, mF_s12, mF_s13, mF_s14, mw_uob, mw_u0, mw_u2, mw_u5, mw_u6, mw_u7, mw_u8, mw_u9, mw_u10, mw_u11, mw_u15, mw_u16, Nat.reduceLT, rup_s, rup_rup]
    refine if1 (b_M_character_1 (go _ ?_ (by omega)))
    unfold chLow
    rw [ht]; rfl
end MChar
