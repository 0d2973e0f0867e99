/-! numbers, and the model's leaves -/
theorem lit_0 : (0 : Int32) = nI 0 := rfl
theorem lit_1 : (1 : Int32) = nI 1 := rfl
theorem lit_2 : (2 : Int32) = nI 2 := rfl
theorem lit_3 : (3 : Int32) = nI 3 := rfl
theorem lit_4 : (4 : Int32) = nI 4 := rfl
theorem lit_5 : (5 : Int32) = nI 5 := rfl
theorem lit_6 : (6 : Int32) = nI 6 := rfl
theorem lit_7 : (7 : Int32) = nI 7 := rfl
theorem lit_8 : (8 : Int32) = nI 8 := rfl
theorem lit_9 : (9 : Int32) = nI 9 := rfl
theorem lit_10 : (10 : Int32) = nI 10 := rfl
theorem lit_11 : (11 : Int32) = nI 11 := rfl
theorem lit_12 : (12 : Int32) = nI 12 := rfl
theorem lit_13 : (13 : Int32) = nI 13 := rfl
theorem lit_14 : (14 : Int32) = nI 14 := rfl
theorem lit_15 : (15 : Int32) = nI 15 := rfl
theorem lit_16 : (16 : Int32) = nI 16 := rfl
theorem lit_17 : (17 : Int32) = nI 17 := rfl
theorem lit_18 : (18 : Int32) = nI 18 := rfl
theorem lit_19 : (19 : Int32) = nI 19 := rfl
theorem lit_20 : (20 : Int32) = nI 20 := rfl
theorem lit_21 : (21 : Int32) = nI 21 := rfl
theorem lit_22 : (22 : Int32) = nI 22 := rfl
theorem lit_23 : (23 : Int32) = nI 23 := rfl
theorem lit_24 : (24 : Int32) = nI 24 := rfl
theorem lit_25 : (25 : Int32) = nI 25 := rfl
theorem lit_26 : (26 : Int32) = nI 26 := rfl
theorem lit_27 : (27 : Int32) = nI 27 := rfl
theorem lit_28 : (28 : Int32) = nI 28 := rfl
theorem lit_29 : (29 : Int32) = nI 29 := rfl
theorem lit_30 : (30 : Int32) = nI 30 := rfl
theorem lit_31 : (31 : Int32) = nI 31 := rfl
theorem lit_32 : (32 : Int32) = nI 32 := rfl
theorem lit_33 : (33 : Int32) = nI 33 := rfl
theorem lit_34 : (34 : Int32) = nI 34 := rfl
theorem lit_35 : (35 : Int32) = nI 35 := rfl
theorem lit_36 : (36 : Int32) = nI 36 := rfl
theorem lit_37 : (37 : Int32) = nI 37 := rfl
theorem lit_38 : (38 : Int32) = nI 38 := rfl
theorem lit_39 : (39 : Int32) = nI 39 := rfl
theorem lit_40 : (40 : Int32) = nI 40 := rfl
theorem lit_41 : (41 : Int32) = nI 41 := rfl
theorem lit_42 : (42 : Int32) = nI 42 := rfl
theorem lit_43 : (43 : Int32) = nI 43 := rfl
theorem lit_44 : (44 : Int32) = nI 44 := rfl
theorem lit_45 : (45 : Int32) = nI 45 := rfl
theorem lit_46 : (46 : Int32) = nI 46 := rfl
theorem lit_47 : (47 : Int32) = nI 47 := rfl
theorem lit_48 : (48 : Int32) = nI 48 := rfl
theorem lit_49 : (49 : Int32) = nI 49 := rfl
theorem lit_50 : (50 : Int32) = nI 50 := rfl
theorem lit_51 : (51 : Int32) = nI 51 := rfl
theorem lit_52 : (52 : Int32) = nI 52 := rfl
theorem lit_53 : (53 : Int32) = nI 53 := rfl
theorem lit_54 : (54 : Int32) = nI 54 := rfl
theorem lit_55 : (55 : Int32) = nI 55 := rfl
theorem lit_56 : (56 : Int32) = nI 56 := rfl
theorem lit_57 : (57 : Int32) = nI 57 := rfl
theorem lit_58 : (58 : Int32) = nI 58 := rfl
theorem lit_59 : (59 : Int32) = nI 59 := rfl
theorem lit_60 : (60 : Int32) = nI 60 := rfl
theorem lit_61 : (61 : Int32) = nI 61 := rfl
theorem lit_62 : (62 : Int32) = nI 62 := rfl
theorem lit_63 : (63 : Int32) = nI 63 := rfl
theorem lit_64 : (64 : Int32) = nI 64 := rfl
theorem lit_65 : (65 : Int32) = nI 65 := rfl
theorem lit_66 : (66 : Int32) = nI 66 := rfl
theorem lit_70 : (70 : Int32) = nI 70 := rfl
theorem lit_97 : (97 : Int32) = nI 97 := rfl
theorem lit_98 : (98 : Int32) = nI 98 := rfl
theorem lit_99 : (99 : Int32) = nI 99 := rfl
theorem lit_100 : (100 : Int32) = nI 100 := rfl
theorem lit_102 : (102 : Int32) = nI 102 := rfl
theorem lit_122 : (122 : Int32) = nI 122 := rfl
theorem lit_126 : (126 : Int32) = nI 126 := rfl
theorem lit_127 : (127 : Int32) = nI 127 := rfl
theorem lit_186 : (186 : Int32) = nI 186 := rfl
theorem lit_190 : (190 : Int32) = nI 190 := rfl
theorem lit_290 : (290 : Int32) = nI 290 := rfl
theorem lit_392 : (392 : Int32) = nI 392 := rfl
theorem lit_710 : (710 : Int32) = nI 710 := rfl
theorem lit_999 : (999 : Int32) = nI 999 := rfl
theorem lit_1000 : (1000 : Int32) = nI 1000 := rfl
theorem lit_1001 : (1001 : Int32) = nI 1001 := rfl
theorem lit_1040 : (1040 : Int32) = nI 1040 := rfl
theorem lit_1100 : (1100 : Int32) = nI 1100 := rfl
theorem lit_1101 : (1101 : Int32) = nI 1101 := rfl
theorem lit_1274 : (1274 : Int32) = nI 1274 := rfl
theorem lit_3026 : (3026 : Int32) = nI 3026 := rfl
theorem lit_3736 : (3736 : Int32) = nI 3736 := rfl
theorem lit_22416 : (22416 : Int32) = nI 22416 := rfl
theorem ix_in {x : Int32} {i N : Nat} (hx : x = nI i) (h : i < N) (hN : N < 2 ^ 31) : vp_in x N := by rw [hx]; exact vp_in_nI h hN
theorem ix_cl {x : Int32} {i : Nat} (hx : x = nI i) (h : i < 2 ^ 31) : x.toNatClampNeg = i := by rw [hx]; exact nI_clamp h
theorem b01 : (((0 : Int32) = 0 ∨ (0 : Int32) = 1)) := Or.inl rfl
theorem b11 : (((1 : Int32) = 0 ∨ (1 : Int32) = 1)) := Or.inr rfl
/-- a condition that is known -/
theorem if0 {A B : Prop} (b : B) : ((1 : Int32) = 0 → A) ∧ (¬ (1 : Int32) = 0 → B) := ⟨fun h => absurd h (by decide), fun _ => b⟩
theorem if1 {A B : Prop} (a : A) : (True → A) ∧ (¬ True → B) := ⟨fun _ => a, fun h => absurd trivial h⟩
theorem if2 {A B : Prop} (b : B) : (¬ True → A) ∧ (True → B) := ⟨fun h => absurd trivial h, fun _ => b⟩
theorem if3 {A B : Prop} (a : A) : (¬ (1 : Int32) = 0 → A) ∧ ((1 : Int32) = 0 → B) := ⟨fun _ => a, fun h => absurd h (by decide)⟩
theorem s_M_in {v lo hi : Int32} {w : jx_W} {K : jx_Q} (h1 : lo ≤ v → v ≤ hi → K w (some (.int 1))) (h0 : ¬ (lo ≤ v ∧ v ≤ hi) → K w (some (.int 0))) : zcall n_M_in [.int v, .int lo, .int hi] w K := by
  refine e_M_in (b_M_in_0 ⟨fun h => b_M_in_1 (b_M_in_2 ⟨b01, h0 (fun z => absurd h (Int32.not_lt.mpr z.1))⟩), fun h => ⟨fun g => b_M_in_1 (b_M_in_2 ⟨b01, h0 (fun z => absurd g (Int32.not_lt.mpr z.2))⟩), fun g => b_M_in_2 ⟨b11, h1 (Int32.not_lt.mp h) (Int32.not_lt.mp g)⟩⟩⟩)
section MLeaf
variable {w : jx_W} {q : Nat} {c : Nat → Int32} {r : Nat → Nat → Int32} {K : jx_Q}
theorem s_M_wordLength {x : Int32} {i : Nat} (hx : x = nI i) (hi : i < 6) (hK : K (mw w q c r) (some (.int (r 0 (9 * i))))) : zcall n_M_wordLength [.ref q, .int x] (mw w q c r) K := by
  refine e_M_wordLength (b_M_wordLength_0 ?_)
  simp only [and_assoc, exists_and_left, exists_eq_left, exists_eq_left', Option.some.injEq, Value.int.injEq, Value.ref.injEq, Value.long.injEq, true_and, and_true, exists_eq, exists_true_left, mw_ob, mw_ia0, mw_ia2, mw_ia5, mw_ia6, mw_ia7, mw_ia8, mw_ia9, mw_ia10, mw_ia11, mw_ia15, mw_ia16, mF_0, mF_1, mF_2, mF_3, mF_4, mF_5, mF_6, mF_7, mF_8, mF_9, mF_10, mF_11, mF_12, mF_13, mF_14, mF_15, mF_16, mF_len, mF_s1, mF_s3, mF_s4, mF_s12, mF_s13, mF_s14, mw_uob, mw_u0, mw_u2, mw_u5, mw_u6, mw_u7, mw_u8, mw_u9, mw_u10, mw_u11, mw_u15, mw_u16, Nat.reduceLT]
  rw [hx, lit_9, pk_mul, nI_clamp (by omega)]
  exact ⟨vp_in_nI (by omega) (by decide), hK⟩
theorem s_M_letterOf {x y : Int32} {i j : Nat} (hx : x = nI i) (hy : y = nI j) (hi : i < 6) (hj : j < 8) (hK : K (mw w q c r) (some (.int (r 0 (9 * i + 1 + j))))) : zcall n_M_letterOf [.ref q, .int x, .int y] (mw w q c r) K := by
  refine e_M_letterOf (b_M_letterOf_0 ?_)
  simp only [and_assoc, exists_and_left, exists_eq_left, exists_eq_left', Option.some.injEq, Value.int.injEq, Value.ref.injEq, Value.long.injEq, true_and, and_true, exists_eq, exists_true_left, mw_ob, mw_ia0, mw_ia2, mw_ia5, mw_ia6, mw_ia7, mw_ia8, mw_ia9, mw_ia10, mw_ia11, mw_ia15, mw_ia16, mF_0, mF_1, mF_2, mF_3, mF_4, mF_5, mF_6, mF_7, mF_8, mF_9, mF_10, mF_11, mF_12, mF_13, mF_14, mF_15, mF_16, mF_len, mF_s1, mF_s3, mF_s4, mF_s12, mF_s13, mF_s14, mw_uob, mw_u0, mw_u2, mw_u5, mw_u6, mw_u7, mw_u8, mw_u9, mw_u10, mw_u11, mw_u15, mw_u16, Nat.reduceLT]
  rw [hx, hy, lit_9, lit_1, pk_mul, nI_add, nI_add, nI_clamp (by omega)]
  exact ⟨vp_in_nI (by omega) (by decide), hK⟩
theorem s_M_of {x : Int32} {b i : Nat} (hb : c 12 = nI b) (hx : x = nI i) (hi : b + i < 22416) (hK : K (mw w q c r) (some (.int (r 0 (b + i))))) : zcall n_M_of [.ref q, .int x] (mw w q c r) K := by
  refine e_M_of (b_M_of_0 ?_)
  simp only [and_assoc, exists_and_left, exists_eq_left, exists_eq_left', Option.some.injEq, Value.int.injEq, Value.ref.injEq, Value.long.injEq, true_and, and_true, exists_eq, exists_true_left, mw_ob, mw_ia0, mw_ia2, mw_ia5, mw_ia6, mw_ia7, mw_ia8, mw_ia9, mw_ia10, mw_ia11, mw_ia15, mw_ia16, mF_0, mF_1, mF_2, mF_3, mF_4, mF_5, mF_6, mF_7, mF_8, mF_9, mF_10, mF_11, mF_12, mF_13, mF_14, mF_15, mF_16, mF_len, mF_s1, mF_s3, mF_s4, mF_s12, mF_s13, mF_s14, mw_uob, mw_u0, mw_u2, mw_u5, mw_u6, mw_u7, mw_u8, mw_u9, mw_u10, mw_u11, mw_u15, mw_u16, Nat.reduceLT]
  rw [hb, hx, nI_add, nI_clamp (by omega)]
  exact ⟨vp_in_nI hi (by decide), hK⟩
theorem s_M_put {x v : Int32} {b i : Nat} (hb : c 12 = nI b) (hx : x = nI i) (hi : b + i < 22416) (hK : K (mw w q c (rup r 0 (upd (r 0) (b + i) v))) none) : zcall n_M_put [.ref q, .int x, .int v] (mw w q c r) K := by
  refine e_M_put (b_M_put_0 ?_)
  simp only [and_assoc, exists_and_left, exists_eq_left, exists_eq_left', Option.some.injEq, Value.int.injEq, Value.ref.injEq, Value.long.injEq, true_and, and_true, exists_eq, exists_true_left, mw_ob, mw_ia0, mw_ia2, mw_ia5, mw_ia6, mw_ia7, mw_ia8, mw_ia9, mw_ia10, mw_ia11, mw_ia15, mw_ia16, mF_0, mF_1, mF_2, mF_3, mF_4, mF_5, mF_6, mF_7, mF_8, mF_9, mF_10, mF_11, mF_12, mF_13, mF_14, mF_15, mF_16, mF_len, mF_s1, mF_s3, mF_s4, mF_s12, mF_s13, mF_s14, mw_uob, mw_u0, mw_u2, mw_u5, mw_u6, mw_u7, mw_u8, mw_u9, mw_u10, mw_u11, mw_u15, mw_u16, Nat.reduceLT]
  rw [hb, hx, nI_add, nI_clamp (by omega)]
  exact ⟨vp_in_nI hi (by decide), hK⟩
theorem s_M_adds {x v : Int32} {b i : Nat} (hb : c 12 = nI b) (hx : x = nI i) (hi : b + i < 22416) (hK : K (mw w q c (rup r 0 (upd (r 0) (b + i) (r 0 (b + i) + v)))) none) : zcall n_M_adds [.ref q, .int x, .int v] (mw w q c r) K := by
  refine e_M_adds (b_M_adds_0 ?_)
  simp only [and_assoc, exists_and_left, exists_eq_left, exists_eq_left', Option.some.injEq, Value.int.injEq, Value.ref.injEq, Value.long.injEq, true_and, and_true, exists_eq, exists_true_left, mw_ob, mw_ia0, mw_ia2, mw_ia5, mw_ia6, mw_ia7, mw_ia8, mw_ia9, mw_ia10, mw_ia11, mw_ia15, mw_ia16, mF_0, mF_1, mF_2, mF_3, mF_4, mF_5, mF_6, mF_7, mF_8, mF_9, mF_10, mF_11, mF_12, mF_13, mF_14, mF_15, mF_16, mF_len, mF_s1, mF_s3, mF_s4, mF_s12, mF_s13, mF_s14, mw_uob, mw_u0, mw_u2, mw_u5, mw_u6, mw_u7, mw_u8, mw_u9, mw_u10, mw_u11, mw_u15, mw_u16, Nat.reduceLT]
  rw [hb, hx, nI_add, nI_clamp (by omega)]
  exact ⟨vp_in_nI hi (by decide), vp_in_nI hi (by decide), hK⟩
theorem s_M_slot {x : Int32} {i : Nat} (hx : x = nI i) (hi : i < 4) (hK : K (mw w q c r) (some (.int (186 + 710 * r 0 (58 + i))))) : zcall n_M_slot [.ref q, .int x] (mw w q c r) K := by
  refine e_M_slot (b_M_slot_0 ?_)
  simp only [and_assoc, exists_and_left, exists_eq_left, exists_eq_left', Option.some.injEq, Value.int.injEq, Value.ref.injEq, Value.long.injEq, true_and, and_true, exists_eq, exists_true_left, mw_ob, mw_ia0, mw_ia2, mw_ia5, mw_ia6, mw_ia7, mw_ia8, mw_ia9, mw_ia10, mw_ia11, mw_ia15, mw_ia16, mF_0, mF_1, mF_2, mF_3, mF_4, mF_5, mF_6, mF_7, mF_8, mF_9, mF_10, mF_11, mF_12, mF_13, mF_14, mF_15, mF_16, mF_len, mF_s1, mF_s3, mF_s4, mF_s12, mF_s13, mF_s14, mw_uob, mw_u0, mw_u2, mw_u5, mw_u6, mw_u7, mw_u8, mw_u9, mw_u10, mw_u11, mw_u15, mw_u16, Nat.reduceLT]
  rw [hx, lit_58, nI_add, nI_clamp (by omega)]
  exact ⟨vp_in_nI (by omega) (by decide), hK⟩
end MLeaf
