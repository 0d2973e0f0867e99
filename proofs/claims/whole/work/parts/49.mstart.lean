/-! THE MODEL: starts(..); a flow that isn't being handled -/
/-- a flow at rest: all finds and the words found lie elsewhere -/
def MFs (g : Nat → Int32) (ky : aKy) (F : aF) : Prop := g 6 = nI F.1.1.1 ∧ PM g F.1.1.2.1 ∧ MH g F.1.1.2.2.1 ∧ g 12 = oob F.1.1.2.2.2.1 ∧ g 19 = nI F.1.1.2.2.2.2.2.1 ∧ g 20 = nI F.1.1.2.2.2.2.2.2.1 ∧ MHd g ky.2.2.1 F.1.2.1 F.1.2.2 F.2.1 ∧ g 4 = nI F.2.1 ∧ MP g F.2.2.1 ∧ g 15 = nI F.2.2.2.1 ∧ g 16 = nI F.2.2.2.2.1 ∧ g 17 = nI F.2.2.2.2.2.1 ∧ g 13 = nI F.2.2.2.2.2.2.1 ∧ g 14 = nI F.2.2.2.2.2.2.2 ∧ g 0 = ky.1 ∧ g 1 = nI ky.2.1 ∧ g 2 = nI ky.2.2.1 ∧ g 3 = nI ky.2.2.2
/-- put other finds, other words found into a flow -/
def plug (F : aF) (fh : List aFd) (fm : Nat) : aF := (((F.1.1.1, F.1.1.2.1, F.1.1.2.2.1, F.1.1.2.2.2.1, fh, F.1.1.2.2.2.2.2.1, F.1.1.2.2.2.2.2.2.1, fm), F.1.2), F.2)
def afh (F : aF) : List aFd := F.1.1.2.2.2.2.1
def afm (F : aF) : Nat := F.1.1.2.2.2.2.2.2.2
theorem MFs_plug {g : Nat → Int32} {ky : aKy} {F : aF} {fh : List aFd} {fm : Nat} (h : MFs g ky F) : MFs g ky (plug F fh fm) := h
theorem MFw_of {f0 n0 : Nat} {c P g : Nat → Int32} {ky : aKy} {F : aF} (h : MFs g ky F) (h1 : HF P (afh F)) (h2 : c 14 = nI (f0 ||| afm F)) (h3 : n0 ≤ 4294967296 + (afh F).length) (h4 : c 13 = nI (4294967296 + (afh F).length - n0)) : MFw f0 n0 c P g ky F := by
  obtain ⟨a1, a2, a3, a4, a5, a6, a7, a8, a9, a10, a11, a12, a13, a14, a15, a16, a17, a18⟩ := h
  exact ⟨⟨a1, a2, a3, a4, h1, a5, a6, h2, h3, h4⟩, a7, a8, a9, a10, a11, a12, a13, a14, a15, a16, a17, a18⟩
theorem MFw_s {f0 n0 : Nat} {c P g : Nat → Int32} {ky : aKy} {F : aF} (h : MFw f0 n0 c P g ky F) : MFs g ky F := by
  obtain ⟨⟨a1, a2, a3, a4, h1, a5, a6, h2, h3, h4⟩, a7, a8, a9, a10, a11, a12, a13, a14, a15, a16, a17, a18⟩ := h
  exact ⟨a1, a2, a3, a4, a5, a6, a7, a8, a9, a10, a11, a12, a13, a14, a15, a16, a17, a18⟩
/-- a flow that begins -/
def aBeg (fh : List aFd) : aF := (((0, 1, [], false, fh, 0, 0, 0), 0, 0), 0, [], 0, 0, 0, 0, 0)
theorem aBeg_ok {A : aAU} {fh : List aFd} (hA : auOk A) : fOk A (aBeg fh) := ⟨⟨hA.1, (by show 1 < 2 ^ 49; decide), fun k => (by show (hiA [] k).2 ≠ -9; exact (by show (0 : Int32) ≠ -9; decide)), (by show 0 < 64; decide), hA.2.2.2.2.2.2.2⟩, (by show 0 ≤ 1040; decide), fun p hp => (by cases hp), (by show 0 ≤ 6; decide)⟩
def gBeg (ky : aKy) : Nat → Int32 := upd (upd (upd (upd (upd (fun _ => 0) 0 ky.1) 1 (nI ky.2.1)) 2 (nI ky.2.2.1)) 3 (nI ky.2.2.2)) 7 1
theorem gBeg_ok {ky : aKy} {fh : List aFd} : MFs (gBeg ky) ky (aBeg fh) := by
  refine ⟨rfl, ⟨(by show (1 : Int32) = nI (1 % 2 ^ 25); decide), (by show (0 : Int32) = nI (1 / 2 ^ 25); decide), (by show 1 < 2 ^ 49; decide)⟩, ⟨rfl, fun k hk => ⟨?_, ?_⟩⟩, rfl, rfl, rfl, ⟨rfl, (by show 0 ≤ 2; decide), fun z => absurd z (show ¬ 0 < 0 by decide), fun z => absurd z (show ¬ 0 = 2 by decide)⟩, rfl, ⟨rfl, (by show 0 ≤ 6; decide), fun p hp => (by cases hp), fun i hi => absurd hi (Nat.not_lt_zero _)⟩, rfl, rfl, rfl, rfl, rfl, rfl, rfl, rfl, rfl⟩
  · exact (if_neg (by omega)).trans ((if_neg (by omega)).trans ((if_neg (by omega)).trans ((if_neg (by omega)).trans (if_neg (by omega)))))
  · exact (if_neg (by omega)).trans ((if_neg (by omega)).trans ((if_neg (by omega)).trans ((if_neg (by omega)).trans (if_neg (by omega)))))
theorem pgf_id {P : Nat → Int32} {b n : Nat} : pgf P b n (fun k => P (b + k)) = P := by
  funext i
  show (if b ≤ i ∧ i < b + n then P (b + (i - b)) else P i) = P i
  by_cases h : b ≤ i ∧ i < b + n
  · rw [if_pos h, show b + (i - b) = i by omega]
  · rw [if_neg h]
def zg (g : Nat → Int32) (i : Nat) : Nat → Int32 := fun k => if k < i then 0 else g k
theorem zg_step {g : Nat → Int32} {i : Nat} : upd (zg g i) i 0 = zg g (i + 1) := by
  funext k
  show (if k = i then 0 else if k < i then 0 else g k) = if k < i + 1 then 0 else g k
  by_cases h1 : k = i
  · rw [if_pos h1, if_pos (by omega)]
  · rw [if_neg h1]
    by_cases h2 : k < i
    · rw [if_pos h2, if_pos (by omega)]
    · rw [if_neg h2, if_neg (by omega)]
theorem pgf_congr {P g g' : Nat → Int32} {b n : Nat} (h : ∀ k, k < n → g k = g' k) : pgf P b n g = pgf P b n g' := by
  funext i
  unfold pgf
  by_cases hi : b ≤ i ∧ i < b + n
  · rw [if_pos hi, if_pos hi, h _ (by omega)]
  · rw [if_neg hi, if_neg hi]
section MStart
variable {w : jx_W} {q : Nat} {c : Nat → Int32} {r : Nat → Nat → Int32} {K : jx_Q} {P g : Nat → Int32} {b : Nat}
theorem f_zero_loop {x1 x2 x3 x4 : Int32} (hb : c 12 = nI b) (hf : b + 710 ≤ 22416) (hK : zwp n_M_starts 2 [(0, .ref q), (1, .int x1), (2, .int x2), (3, .int x3), (4, .int x4)] [] 0 0 (mw w q c (rup r 0 (pgf P b 710 (fun _ => 0)))) K) : ∀ (n i : Nat), i + n = 710 → zwp n_M_starts 1 [(0, .ref q), (1, .int x1), (2, .int x2), (3, .int x3), (4, .int x4), (5, .int (nI i))] [] 0 0 (mw w q c (rup r 0 (pgf P b 710 (zg g i)))) K := by
  intro n
  induction n with
  | zero =>
    intro i hi
    refine b_M_starts_1 ⟨fun _ => ?_, fun z => absurd ((nI_leI (a := 710) (by decide) (by omega)).mpr (by omega)) z⟩
    rw [pgf_congr (g := zg g i) (g' := fun _ => 0) (fun k hk => if_pos (by omega))]
    exact hK
  | succ n ih =>
    intro i hi
    refine b_M_starts_1 ⟨fun z => absurd ((nI_leI (a := 710) (by decide) (by omega)).mp z) (by omega), fun _ => ?_⟩
    simp only [and_assoc, exists_and_left, exists_eq_left, exists_eq_left', Option.some.injEq, Value.int.injEq, Value.ref.injEq, Value.long.injEq, true_and, and_true, exists_eq, exists_true_left, mw_ob, mw_ia0, mw_ia2, mw_ia5, mw_ia6, mw_ia7, mw_ia8, mw_ia9, mw_ia10, mw_ia11, mw_ia15, mw_ia16, mF_0, mF_1, mF_2, mF_3, mF_4, mF_5, mF_6, mF_7, mF_8, mF_9, mF_10, mF_11, mF_12, mF_13, mF_14, mF_15, mF_16, mF_len, mF_s1, mF_s3, mF_s4, mF_s12, mF_s13, mF_s14, mw_uob, mw_u0, mw_u2, mw_u5, mw_u6, mw_u7, mw_u8, mw_u9, mw_u10, mw_u11, mw_u15, mw_u16, Nat.reduceLT, rup_s, rup_rup]
    rw [hb, nI_add, nI_clamp (by omega), pgf_upd (k := i) rfl (by omega), zg_step, nI_1]
    exact ⟨vp_in_nI (by omega) (by decide), ih (i + 1) (by omega)⟩
theorem f_starts {x1 x2 x3 x4 : Int32} {ky : aKy} (hb : c 12 = nI b) (hf : b + 710 ≤ 22416) (h1 : x1 = ky.1) (h2 : x2 = nI ky.2.1) (h3 : x3 = nI ky.2.2.1) (h4 : x4 = nI ky.2.2.2) (hr : r 0 = P) (hK : K (mw w q c (rup r 0 (pgf P b 710 (gBeg ky)))) none) : zcall n_M_starts [.ref q, .int x1, .int x2, .int x3, .int x4] (mw w q c r) K := by
  subst h1 h2 h3 h4
  have er : r = rup r 0 (pgf P b 710 (zg (fun k => P (b + k)) 0)) := by
    rw [show zg (fun k => P (b + k)) 0 = (fun k => P (b + k)) from rfl, pgf_id, ← hr]
    funext j
    unfold rup
    split
    · rename_i e; rw [e]
    · rfl
  rw [er]
  refine e_M_starts (b_M_starts_0 (f_zero_loop hb hf (b_M_starts_2 ?_) 710 0 rfl))
  simp only [and_assoc, exists_and_left, exists_eq_left, exists_eq_left', Option.some.injEq, Value.int.injEq, Value.ref.injEq, Value.long.injEq, true_and, and_true, exists_eq, exists_true_left, mw_ob, mw_ia0, mw_ia2, mw_ia5, mw_ia6, mw_ia7, mw_ia8, mw_ia9, mw_ia10, mw_ia11, mw_ia15, mw_ia16, mF_0, mF_1, mF_2, mF_3, mF_4, mF_5, mF_6, mF_7, mF_8, mF_9, mF_10, mF_11, mF_12, mF_13, mF_14, mF_15, mF_16, mF_len, mF_s1, mF_s3, mF_s4, mF_s12, mF_s13, mF_s14, mw_uob, mw_u0, mw_u2, mw_u5, mw_u6, mw_u7, mw_u8, mw_u9, mw_u10, mw_u11, mw_u15, mw_u16, Nat.reduceLT, rup_s, rup_rup]
  refine f_put hb (i := 0) rfl (by decide) hf ?_
  simp only [and_assoc, exists_and_left, exists_eq_left, exists_eq_left', Option.some.injEq, Value.int.injEq, Value.ref.injEq, Value.long.injEq, true_and, and_true, exists_eq, exists_true_left, mw_ob, mw_ia0, mw_ia2, mw_ia5, mw_ia6, mw_ia7, mw_ia8, mw_ia9, mw_ia10, mw_ia11, mw_ia15, mw_ia16, mF_0, mF_1, mF_2, mF_3, mF_4, mF_5, mF_6, mF_7, mF_8, mF_9, mF_10, mF_11, mF_12, mF_13, mF_14, mF_15, mF_16, mF_len, mF_s1, mF_s3, mF_s4, mF_s12, mF_s13, mF_s14, mw_uob, mw_u0, mw_u2, mw_u5, mw_u6, mw_u7, mw_u8, mw_u9, mw_u10, mw_u11, mw_u15, mw_u16, Nat.reduceLT, rup_s, rup_rup]
  refine f_put hb (i := 1) rfl (by decide) hf ?_
  simp only [and_assoc, exists_and_left, exists_eq_left, exists_eq_left', Option.some.injEq, Value.int.injEq, Value.ref.injEq, Value.long.injEq, true_and, and_true, exists_eq, exists_true_left, mw_ob, mw_ia0, mw_ia2, mw_ia5, mw_ia6, mw_ia7, mw_ia8, mw_ia9, mw_ia10, mw_ia11, mw_ia15, mw_ia16, mF_0, mF_1, mF_2, mF_3, mF_4, mF_5, mF_6, mF_7, mF_8, mF_9, mF_10, mF_11, mF_12, mF_13, mF_14, mF_15, mF_16, mF_len, mF_s1, mF_s3, mF_s4, mF_s12, mF_s13, mF_s14, mw_uob, mw_u0, mw_u2, mw_u5, mw_u6, mw_u7, mw_u8, mw_u9, mw_u10, mw_u11, mw_u15, mw_u16, Nat.reduceLT, rup_s, rup_rup]
  refine f_put hb (i := 2) rfl (by decide) hf ?_
  simp only [and_assoc, exists_and_left, exists_eq_left, exists_eq_left', Option.some.injEq, Value.int.injEq, Value.ref.injEq, Value.long.injEq, true_and, and_true, exists_eq, exists_true_left, mw_ob, mw_ia0, mw_ia2, mw_ia5, mw_ia6, mw_ia7, mw_ia8, mw_ia9, mw_ia10, mw_ia11, mw_ia15, mw_ia16, mF_0, mF_1, mF_2, mF_3, mF_4, mF_5, mF_6, mF_7, mF_8, mF_9, mF_10, mF_11, mF_12, mF_13, mF_14, mF_15, mF_16, mF_len, mF_s1, mF_s3, mF_s4, mF_s12, mF_s13, mF_s14, mw_uob, mw_u0, mw_u2, mw_u5, mw_u6, mw_u7, mw_u8, mw_u9, mw_u10, mw_u11, mw_u15, mw_u16, Nat.reduceLT, rup_s, rup_rup]
  refine f_put hb (i := 3) rfl (by decide) hf ?_
  simp only [and_assoc, exists_and_left, exists_eq_left, exists_eq_left', Option.some.injEq, Value.int.injEq, Value.ref.injEq, Value.long.injEq, true_and, and_true, exists_eq, exists_true_left, mw_ob, mw_ia0, mw_ia2, mw_ia5, mw_ia6, mw_ia7, mw_ia8, mw_ia9, mw_ia10, mw_ia11, mw_ia15, mw_ia16, mF_0, mF_1, mF_2, mF_3, mF_4, mF_5, mF_6, mF_7, mF_8, mF_9, mF_10, mF_11, mF_12, mF_13, mF_14, mF_15, mF_16, mF_len, mF_s1, mF_s3, mF_s4, mF_s12, mF_s13, mF_s14, mw_uob, mw_u0, mw_u2, mw_u5, mw_u6, mw_u7, mw_u8, mw_u9, mw_u10, mw_u11, mw_u15, mw_u16, Nat.reduceLT, rup_s, rup_rup]
  refine f_put hb (i := 7) rfl (by decide) hf ?_
  simp only [and_assoc, exists_and_left, exists_eq_left, exists_eq_left', Option.some.injEq, Value.int.injEq, Value.ref.injEq, Value.long.injEq, true_and, and_true, exists_eq, exists_true_left, mw_ob, mw_ia0, mw_ia2, mw_ia5, mw_ia6, mw_ia7, mw_ia8, mw_ia9, mw_ia10, mw_ia11, mw_ia15, mw_ia16, mF_0, mF_1, mF_2, mF_3, mF_4, mF_5, mF_6, mF_7, mF_8, mF_9, mF_10, mF_11, mF_12, mF_13, mF_14, mF_15, mF_16, mF_len, mF_s1, mF_s3, mF_s4, mF_s12, mF_s13, mF_s14, mw_uob, mw_u0, mw_u2, mw_u5, mw_u6, mw_u7, mw_u8, mw_u9, mw_u10, mw_u11, mw_u15, mw_u16, Nat.reduceLT, rup_s, rup_rup]
  exact hK
end MStart
