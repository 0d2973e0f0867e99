/-! THE SIMULATION: checked blocks over the plain machine are sound over the kit's -/
theorem jx_cin {D : String} {T : u_T} {N : Nat} (ixs : List Nat) (h : (List.range N).all (fun k => jx_w (ixs.getD k 0) (u_lay D T k)) = true) : ∀ w ∈ u_ws D T N, w ∈ jx_wl := by
  intro w hw
  obtain ⟨k, hk, rfl⟩ := List.mem_map.mp hw
  exact jx_w_in (List.all_eq_true.mp h k hk)
theorem jx_in0 : ∀ w ∈ u_ws RX0 TX0 9, w ∈ jx_wl := jx_cin [119, 121, 123, 125, 127, 129, 131, 133, 135] (by decide +kernel)
theorem jx_in1 : ∀ w ∈ u_ws RX1 TX1 8, w ∈ jx_wl := jx_cin [159, 161, 163, 165, 167, 169, 171, 173] (by decide +kernel)
theorem jx_in2 : ∀ w ∈ u_ws RX2 TX2 12, w ∈ jx_wl := jx_cin [309, 311, 313, 315, 317, 319, 321, 323, 325, 327, 329, 331] (by decide +kernel)
theorem jx_in3 : ∀ w ∈ u_ws RX3 TX3 15, w ∈ jx_wl := jx_cin [259, 261, 263, 265, 267, 269, 271, 273, 275, 277, 279, 281, 283, 285, 287] (by decide +kernel)
theorem jx_in4 : ∀ w ∈ u_ws RX4 TX4 4, w ∈ jx_wl := jx_cin [218, 220, 222, 224] (by decide +kernel)
theorem jx_in5 : ∀ w ∈ u_ws RX5 TX5 6, w ∈ jx_wl := jx_cin [346, 348, 350, 352, 354, 356] (by decide +kernel)
theorem jx_in6 : ∀ w ∈ u_ws RX6 TX6 2, w ∈ jx_wl := jx_cin [189, 191] (by decide +kernel)
theorem jx_in7 : ∀ w ∈ u_ws RX7 TX7 8, w ∈ jx_wl := jx_cin [370, 372, 374, 376, 378, 380, 382, 384] (by decide +kernel)
theorem jx_in8 : ∀ w ∈ u_ws RX8 TX8 17, w ∈ jx_wl := jx_cin [872, 874, 876, 878, 880, 882, 884, 886, 888, 890, 892, 894, 896, 898, 900, 902, 904] (by decide +kernel)
def jx_cok (D : String) (T : u_T) (N : Nat) (ci : Nat) : Prop := (∀ w ∈ u_ws D T N, w ∈ jx_wl) ∧ ∃ ty0 : Nat → FieldType, (∀ k, k < N → parseFieldDescriptor (T k).2.2.1 = some (ty0 k)) ∧ (∀ a, a < N → ∀ b, b < N → a ≠ b → (T a).2.1 ≠ (T b).2.1) ∧ ∀ j, j < N → defaultValue (ty0 j) = vp_V (jx_born ci) j
theorem jx_cok0 : jx_cok RX0 TX0 9 0 := ⟨jx_in0, tyX0, tyX0_ok, nmX0, by decide +kernel⟩
theorem jx_cok1 : jx_cok RX1 TX1 8 1 := ⟨jx_in1, tyX1, tyX1_ok, nmX1, by decide +kernel⟩
theorem jx_cok2 : jx_cok RX2 TX2 12 2 := ⟨jx_in2, tyX2, tyX2_ok, nmX2, by decide +kernel⟩
theorem jx_cok3 : jx_cok RX3 TX3 15 3 := ⟨jx_in3, tyX3, tyX3_ok, nmX3, by decide +kernel⟩
theorem jx_cok4 : jx_cok RX4 TX4 4 4 := ⟨jx_in4, tyX4, tyX4_ok, nmX4, by decide +kernel⟩
theorem jx_cok5 : jx_cok RX5 TX5 6 5 := ⟨jx_in5, tyX5, tyX5_ok, nmX5, by decide +kernel⟩
theorem jx_cok6 : jx_cok RX6 TX6 2 6 := ⟨jx_in6, tyX6, tyX6_ok, nmX6, by decide +kernel⟩
theorem jx_cok7 : jx_cok RX7 TX7 8 7 := ⟨jx_in7, tyX7, tyX7_ok, nmX7, by decide +kernel⟩
theorem jx_cok8 : jx_cok RX8 TX8 17 8 := ⟨jx_in8, tyX8, tyX8_ok, nmX8, by decide +kernel⟩
theorem jx_cls {ci : Nat} {r : vw_C} (h : vwCl[ci]? = some r) : jx_cok r.1 r.2.1 r.2.2 ci := by
  match ci, h with
  | 0, h => cases h; exact jx_cok0
  | 1, h => cases h; exact jx_cok1
  | 2, h => cases h; exact jx_cok2
  | 3, h => cases h; exact jx_cok3
  | 4, h => cases h; exact jx_cok4
  | 5, h => cases h; exact jx_cok5
  | 6, h => cases h; exact jx_cok6
  | 7, h => cases h; exact jx_cok7
  | 8, h => cases h; exact jx_cok8
  | n + 9, h => simp [vwCl] at h
def jx_Tb (Mt : Nat → jx_Mt) : Nat → jx_Me := fun y => (Mt y).1
theorem jx_mchk_ok {q : jx_Mt} (h : jx_mchk q = true) : jx_mok q.1 q.2.2.1 ∧ (q.2.1 = 0 → Cond.static q.1.1 ∈ jx_wl ∧ q.1.2.2.2.2.1 = (0, 0)) ∧ (q.2.1 = 1 → Cond.instanceMethod q.1.1 ∈ jx_wl ∧ Cond.selects q.1.1.cls q.1.1 q.1.1 ∈ jx_wl ∧ q.1.2.2.2.2.1 = (0, 0)) ∧ (q.2.1 = 2 → Cond.instanceMethod q.1.1 ∈ jx_wl ∧ q.1.1.name = "<init>" ∧ q.1.2.2.2.1 = none) := by
  unfold jx_mchk at h
  simp only [Bool.and_eq_true, decide_eq_true_eq] at h
  obtain ⟨⟨⟨⟨h1, h2⟩, h3⟩, h4⟩, h5⟩ := h
  refine ⟨⟨jx_w_in h1, jx_w_in h2, h3, h4⟩, fun e => ?_, fun e => ?_, fun e => ?_⟩
  · rw [e] at h5
    simp only [Bool.and_eq_true, decide_eq_true_eq] at h5
    exact ⟨jx_w_in h5.1, h5.2⟩
  · rw [e] at h5
    simp only [Bool.and_eq_true, decide_eq_true_eq] at h5
    exact ⟨jx_w_in h5.1.1, jx_w_in h5.1.2, h5.2⟩
  · rw [e] at h5
    simp only [Bool.and_eq_true, decide_eq_true_eq] at h5
    exact ⟨jx_w_in h5.1.1, h5.1.2, h5.2⟩
theorem jx_roomB_ok {M R : jx_Me} (h : jx_roomB M R = true) : jx_room M (jx_rm R) := by
  unfold jx_roomB at h
  simp only [Bool.and_eq_true] at h
  exact ⟨Nat.le_of_ble_eq_true h.1, Nat.le_of_ble_eq_true h.2⟩
theorem jx_swc_ok {pc : Nat} {tg : Nat → Nat} : ∀ {os : List Int} {bs : List Nat}, jx_swc pc tg os bs = true → os.length = bs.length ∧ ∀ (i b : Nat), bs[i]? = some b → ∃ off, os[i]? = some off ∧ (pc : Int) + off = (tg b : Int)
  | [], [], _ => ⟨rfl, fun i b h => (by cases h)⟩
  | o :: os, b :: bs, h => by
    unfold jx_swc at h
    simp only [Bool.and_eq_true] at h
    obtain ⟨h1, h2⟩ := jx_swc_ok h.2
    refine ⟨by simp [h1], fun i b' hb => ?_⟩
    match i, hb with
    | 0, hb => cases hb; exact ⟨o, rfl, of_decide_eq_true h.1⟩
    | i + 1, hb => exact h2 i b' hb
  | [], _ :: _, h => (by cases h)
  | _ :: _, [], h => (by cases h)
theorem jx_tyat {G : jx_G} {ci : Nat} (h : (Nat.beq ci 2 || Nat.beq ci 5) = true) : (jx_tys G)[jx_t0 ci]? = some (G.2.1 (.object (jx_nm ci)), .object (jx_nm ci)) := by
  simp only [Bool.or_eq_true] at h
  rcases h with h | h
  · rw [Nat.eq_of_beq_eq_true h]; rfl
  · rw [Nat.eq_of_beq_eq_true h]; rfl
theorem jx_clat {ci : Nat} (h : (Nat.beq ci 2 || Nat.beq ci 5) = true) : ∃ (D : String) (T : u_T) (N : Nat), vwCl[ci]? = some (D, T, N) := by
  simp only [Bool.or_eq_true] at h
  rcases h with h | h
  · rw [Nat.eq_of_beq_eq_true h]; exact ⟨_, _, _, rfl⟩
  · rw [Nat.eq_of_beq_eq_true h]; exact ⟨_, _, _, rfl⟩
theorem jx_aoat {G : jx_G} {s : State} {ci : Nat} (hF : jx_F G s) (h : (Nat.beq ci 2 || Nat.beq ci 5) = true) : va_AO (jx_nm ci) s := by
  simp only [Bool.or_eq_true] at h
  rcases h with h | h
  · rw [Nat.eq_of_beq_eq_true h]; exact hF.2.2.2.1
  · rw [Nat.eq_of_beq_eq_true h]; exact hF.2.2.2.2.1
theorem jx_refd_ok {d : String} (h : jx_refd d = true) : (∃ n, parseFieldDescriptor d = some (.object n)) ∨ ∃ t, parseFieldDescriptor d = some (.array t) := by
  unfold jx_refd at h
  split at h
  · exact Or.inl ⟨_, by assumption⟩
  · exact Or.inr ⟨_, by assumption⟩
  · cases h
section JXM
variable {p : Program} {l : Launch} {e : Env} {s : State} {m : MethodId} {args : Array Value} {below : List Frame} {meth : Method} {c : Code} {Φ : State → Prop} {G : jx_G} {M : jx_Me} {C : jx_C} {J : jx_J} {q : jx_Q} {K : jx_K} {nM : Nat} {Mt : Nat → jx_Mt} {tg : Nat → Nat} {pc : Nat}
set_option maxHeartbeats 4000000 in
theorem jx_chk_ok (X : jx_X p s m args meth c (jx_rm M) G M.1.cls M.1.name M.2.1 M.2.2.1 M.2.2.2.2.1.1 M.2.2.2.2.1.2) (hmk : ∀ y, y < nM → jx_mchk (Mt y) = true) (hC : jx_CS l G (jx_Tb Mt) C) (hq : jx_RS p l e (jx_rm M) s m args below meth c Φ G M.2.2.2.2.1.1 M.2.2.2.2.1.2 M.2.1 M.2.2.2.1 q) (hj : ∀ b, jx_KS p l e (jx_rm M) s m args below meth c Φ G M.2.2.1 M.2.2.2.2.1.1 M.2.2.2.2.1.2 (tg b) (J b)) {i : jx_I} (hchk : jx_chk nM Mt tg M pc i = true) (hk : jx_KS p l e (jx_rm M) s m args below meth c Φ G M.2.2.1 M.2.2.2.2.1.1 M.2.2.2.2.1.2 (pc + i.1) (K)) : jx_KS p l e (jx_rm M) s m args below meth c Φ G M.2.2.1 M.2.2.2.2.1.1 M.2.2.2.2.1.2 (pc) (jx_tr (jx_Tb Mt) i C J q K) := by
  obtain ⟨len, ins, x⟩ := i
  cases ins
  case nop =>
    simp only [jx_chk, Bool.and_eq_true] at hchk
    have h2 := hj (jx_x x 0)
    rw [Nat.eq_of_beq_eq_true hchk.2] at h2
    exact h2
  case iconst n =>
    simp only [jx_chk, Bool.and_eq_true, decide_eq_true_eq] at hchk
    obtain ⟨d, h1, h2⟩ := hchk
    cases (Nat.eq_of_beq_eq_true h1)
    exact js_iconst (C := C) (J := J) (q := q) (K := K) X h2 d hk
  case bipush n =>
    simp only [jx_chk, Bool.and_eq_true, decide_eq_true_eq] at hchk
    obtain ⟨d, h1, h2⟩ := hchk
    cases (Nat.eq_of_beq_eq_true h1)
    exact js_bipush (C := C) (J := J) (q := q) (K := K) X h2 d hk
  case sipush n =>
    simp only [jx_chk, Bool.and_eq_true, decide_eq_true_eq] at hchk
    obtain ⟨d, h1, h2⟩ := hchk
    cases (Nat.eq_of_beq_eq_true h1)
    exact js_sipush (C := C) (J := J) (q := q) (K := K) X h2 d hk
  case ldc n =>
    simp only [jx_chk, Bool.and_eq_true, decide_eq_true_eq] at hchk
    obtain ⟨d, h1, h2⟩ := hchk
    cases (Nat.eq_of_beq_eq_true h1)
    exact js_ldc (C := C) (J := J) (q := q) (K := K) X (jx_w_in h2) d hk
  case ldc_w n =>
    simp only [jx_chk, Bool.and_eq_true, decide_eq_true_eq] at hchk
    obtain ⟨d, h1, h2⟩ := hchk
    cases (Nat.eq_of_beq_eq_true h1)
    exact js_ldcw (C := C) (J := J) (q := q) (K := K) X (jx_w_in h2) d hk
  case ldc2_w n =>
    simp only [jx_chk, Bool.and_eq_true, decide_eq_true_eq] at hchk
    obtain ⟨d, h1, h2⟩ := hchk
    cases (Nat.eq_of_beq_eq_true h1)
    exact js_ldc2 (C := C) (J := J) (q := q) (K := K) X (jx_w_in h2) d hk
  case lconst n =>
    simp only [jx_chk, Bool.and_eq_true, decide_eq_true_eq] at hchk
    obtain ⟨d, h1⟩ := hchk
    cases (Nat.eq_of_beq_eq_true h1)
    exact js_lconst (C := C) (J := J) (q := q) (K := K) X rfl d hk
  case iload n =>
    simp only [jx_chk, Bool.and_eq_true, decide_eq_true_eq] at hchk
    obtain ⟨d, h1⟩ := hchk
    cases (Nat.eq_of_beq_eq_true h1)
    exact js_iload (C := C) (J := J) (q := q) (K := K) X d hk
  case iload_n n =>
    simp only [jx_chk, Bool.and_eq_true, decide_eq_true_eq] at hchk
    obtain ⟨d, h1⟩ := hchk
    cases (Nat.eq_of_beq_eq_true h1)
    exact js_iload_n (C := C) (J := J) (q := q) (K := K) X d hk
  case istore n =>
    simp only [jx_chk, Bool.and_eq_true, decide_eq_true_eq] at hchk
    obtain ⟨d, h1, h2⟩ := hchk
    cases (Nat.eq_of_beq_eq_true h1)
    exact js_istore (C := C) (J := J) (q := q) (K := K) X (Nat.le_of_ble_eq_true h2) d hk
  case istore_n n =>
    simp only [jx_chk, Bool.and_eq_true, decide_eq_true_eq] at hchk
    obtain ⟨d, h1, h2⟩ := hchk
    cases (Nat.eq_of_beq_eq_true h1)
    exact js_istore_n (C := C) (J := J) (q := q) (K := K) X (Nat.le_of_ble_eq_true h2) d hk
  case lload n =>
    simp only [jx_chk, Bool.and_eq_true, decide_eq_true_eq] at hchk
    obtain ⟨d, h1⟩ := hchk
    cases (Nat.eq_of_beq_eq_true h1)
    exact js_lload (C := C) (J := J) (q := q) (K := K) X d hk
  case lload_n n =>
    simp only [jx_chk, Bool.and_eq_true, decide_eq_true_eq] at hchk
    obtain ⟨d, h1⟩ := hchk
    cases (Nat.eq_of_beq_eq_true h1)
    exact js_lload_n (C := C) (J := J) (q := q) (K := K) X d hk
  case lstore n =>
    simp only [jx_chk, Bool.and_eq_true, decide_eq_true_eq] at hchk
    obtain ⟨d, h1, h2⟩ := hchk
    cases (Nat.eq_of_beq_eq_true h1)
    exact js_lstore (C := C) (J := J) (q := q) (K := K) X (Nat.le_of_ble_eq_true h2) d hk
  case lstore_n n =>
    simp only [jx_chk, Bool.and_eq_true, decide_eq_true_eq] at hchk
    obtain ⟨d, h1, h2⟩ := hchk
    cases (Nat.eq_of_beq_eq_true h1)
    exact js_lstore_n (C := C) (J := J) (q := q) (K := K) X (Nat.le_of_ble_eq_true h2) d hk
  case aload n =>
    simp only [jx_chk, Bool.and_eq_true, decide_eq_true_eq] at hchk
    obtain ⟨d, h1⟩ := hchk
    cases (Nat.eq_of_beq_eq_true h1)
    exact js_aload (C := C) (J := J) (q := q) (K := K) X d hk
  case aload_n n =>
    simp only [jx_chk, Bool.and_eq_true, decide_eq_true_eq] at hchk
    obtain ⟨d, h1⟩ := hchk
    cases (Nat.eq_of_beq_eq_true h1)
    exact js_aload_n (C := C) (J := J) (q := q) (K := K) X d hk
  case astore n =>
    simp only [jx_chk, Bool.and_eq_true, decide_eq_true_eq] at hchk
    obtain ⟨d, h1, h2⟩ := hchk
    cases (Nat.eq_of_beq_eq_true h1)
    exact js_astore (C := C) (J := J) (q := q) (K := K) X (Nat.le_of_ble_eq_true h2) d hk
  case astore_n n =>
    simp only [jx_chk, Bool.and_eq_true, decide_eq_true_eq] at hchk
    obtain ⟨d, h1, h2⟩ := hchk
    cases (Nat.eq_of_beq_eq_true h1)
    exact js_astore_n (C := C) (J := J) (q := q) (K := K) X (Nat.le_of_ble_eq_true h2) d hk
  case iinc j n =>
    simp only [jx_chk, Bool.and_eq_true, decide_eq_true_eq] at hchk
    obtain ⟨d, ⟨h1, h2⟩, h3⟩ := hchk
    cases (Nat.eq_of_beq_eq_true h1)
    exact js_iinc (C := C) (J := J) (q := q) (K := K) X h2 (Nat.le_of_ble_eq_true h3) d hk
  case iadd =>
    simp only [jx_chk, Bool.and_eq_true, decide_eq_true_eq] at hchk
    obtain ⟨d, h1⟩ := hchk
    cases (Nat.eq_of_beq_eq_true h1)
    exact js_iadd (C := C) (J := J) (q := q) (K := K) X d hk
  case isub =>
    simp only [jx_chk, Bool.and_eq_true, decide_eq_true_eq] at hchk
    obtain ⟨d, h1⟩ := hchk
    cases (Nat.eq_of_beq_eq_true h1)
    exact js_isub (C := C) (J := J) (q := q) (K := K) X d hk
  case imul =>
    simp only [jx_chk, Bool.and_eq_true, decide_eq_true_eq] at hchk
    obtain ⟨d, h1⟩ := hchk
    cases (Nat.eq_of_beq_eq_true h1)
    exact js_imul (C := C) (J := J) (q := q) (K := K) X d hk
  case iand =>
    simp only [jx_chk, Bool.and_eq_true, decide_eq_true_eq] at hchk
    obtain ⟨d, h1⟩ := hchk
    cases (Nat.eq_of_beq_eq_true h1)
    exact js_iand (C := C) (J := J) (q := q) (K := K) X d hk
  case ior =>
    simp only [jx_chk, Bool.and_eq_true, decide_eq_true_eq] at hchk
    obtain ⟨d, h1⟩ := hchk
    cases (Nat.eq_of_beq_eq_true h1)
    exact js_ior (C := C) (J := J) (q := q) (K := K) X d hk
  case ixor =>
    simp only [jx_chk, Bool.and_eq_true, decide_eq_true_eq] at hchk
    obtain ⟨d, h1⟩ := hchk
    cases (Nat.eq_of_beq_eq_true h1)
    exact js_ixor (C := C) (J := J) (q := q) (K := K) X d hk
  case ishl =>
    simp only [jx_chk, Bool.and_eq_true, decide_eq_true_eq] at hchk
    obtain ⟨d, h1⟩ := hchk
    cases (Nat.eq_of_beq_eq_true h1)
    exact js_ishl (C := C) (J := J) (q := q) (K := K) X d hk
  case ishr =>
    simp only [jx_chk, Bool.and_eq_true, decide_eq_true_eq] at hchk
    obtain ⟨d, h1⟩ := hchk
    cases (Nat.eq_of_beq_eq_true h1)
    exact js_ishr (C := C) (J := J) (q := q) (K := K) X d hk
  case iushr =>
    simp only [jx_chk, Bool.and_eq_true, decide_eq_true_eq] at hchk
    obtain ⟨d, h1⟩ := hchk
    cases (Nat.eq_of_beq_eq_true h1)
    exact js_iushr (C := C) (J := J) (q := q) (K := K) X d hk
  case irem =>
    simp only [jx_chk, Bool.and_eq_true, decide_eq_true_eq] at hchk
    obtain ⟨d, h1⟩ := hchk
    cases (Nat.eq_of_beq_eq_true h1)
    exact js_irem (C := C) (J := J) (q := q) (K := K) X d hk
  case ladd =>
    simp only [jx_chk, Bool.and_eq_true, decide_eq_true_eq] at hchk
    obtain ⟨d, h1⟩ := hchk
    cases (Nat.eq_of_beq_eq_true h1)
    exact js_ladd (C := C) (J := J) (q := q) (K := K) X d hk
  case lsub =>
    simp only [jx_chk, Bool.and_eq_true, decide_eq_true_eq] at hchk
    obtain ⟨d, h1⟩ := hchk
    cases (Nat.eq_of_beq_eq_true h1)
    exact js_lsub (C := C) (J := J) (q := q) (K := K) X d hk
  case lmul =>
    simp only [jx_chk, Bool.and_eq_true, decide_eq_true_eq] at hchk
    obtain ⟨d, h1⟩ := hchk
    cases (Nat.eq_of_beq_eq_true h1)
    exact js_lmul (C := C) (J := J) (q := q) (K := K) X d hk
  case land =>
    simp only [jx_chk, Bool.and_eq_true, decide_eq_true_eq] at hchk
    obtain ⟨d, h1⟩ := hchk
    cases (Nat.eq_of_beq_eq_true h1)
    exact js_land (C := C) (J := J) (q := q) (K := K) X d hk
  case lor =>
    simp only [jx_chk, Bool.and_eq_true, decide_eq_true_eq] at hchk
    obtain ⟨d, h1⟩ := hchk
    cases (Nat.eq_of_beq_eq_true h1)
    exact js_lor (C := C) (J := J) (q := q) (K := K) X d hk
  case lshl =>
    simp only [jx_chk, Bool.and_eq_true, decide_eq_true_eq] at hchk
    obtain ⟨d, h1⟩ := hchk
    cases (Nat.eq_of_beq_eq_true h1)
    exact js_lshl (C := C) (J := J) (q := q) (K := K) X d hk
  case lushr =>
    simp only [jx_chk, Bool.and_eq_true, decide_eq_true_eq] at hchk
    obtain ⟨d, h1⟩ := hchk
    cases (Nat.eq_of_beq_eq_true h1)
    exact js_lushr (C := C) (J := J) (q := q) (K := K) X d hk
  case lcmp =>
    simp only [jx_chk, Bool.and_eq_true, decide_eq_true_eq] at hchk
    obtain ⟨d, h1⟩ := hchk
    cases (Nat.eq_of_beq_eq_true h1)
    exact js_lcmp (C := C) (J := J) (q := q) (K := K) X d hk
  case i2l =>
    simp only [jx_chk, Bool.and_eq_true, decide_eq_true_eq] at hchk
    obtain ⟨d, h1⟩ := hchk
    cases (Nat.eq_of_beq_eq_true h1)
    exact js_i2l (C := C) (J := J) (q := q) (K := K) X d hk
  case l2i =>
    simp only [jx_chk, Bool.and_eq_true, decide_eq_true_eq] at hchk
    obtain ⟨d, h1⟩ := hchk
    cases (Nat.eq_of_beq_eq_true h1)
    exact js_l2i (C := C) (J := J) (q := q) (K := K) X d hk
  case i2b =>
    simp only [jx_chk, Bool.and_eq_true, decide_eq_true_eq] at hchk
    obtain ⟨d, h1⟩ := hchk
    cases (Nat.eq_of_beq_eq_true h1)
    exact js_i2b (C := C) (J := J) (q := q) (K := K) X d hk
  case dup =>
    simp only [jx_chk, Bool.and_eq_true, decide_eq_true_eq] at hchk
    obtain ⟨d, h1⟩ := hchk
    cases (Nat.eq_of_beq_eq_true h1)
    exact js_dup (C := C) (J := J) (q := q) (K := K) X d hk
  case dup2 =>
    simp only [jx_chk, Bool.and_eq_true, decide_eq_true_eq] at hchk
    obtain ⟨d, h1⟩ := hchk
    cases (Nat.eq_of_beq_eq_true h1)
    exact js_dup2 (C := C) (J := J) (q := q) (K := K) X d hk
  case pop =>
    simp only [jx_chk, Bool.and_eq_true, decide_eq_true_eq] at hchk
    obtain ⟨d, h1⟩ := hchk
    cases (Nat.eq_of_beq_eq_true h1)
    exact js_pop (C := C) (J := J) (q := q) (K := K) X d hk
  case ifCond cd off =>
    simp only [jx_chk, Bool.and_eq_true, decide_eq_true_eq] at hchk
    obtain ⟨d, h1, h2⟩ := hchk
    cases (Nat.eq_of_beq_eq_true h1)
    have ht := of_decide_eq_true h2
    cases cd
    case eq => exact js_ifeq (C := C) (J := J) (q := q) (K := K) X ht (hj _) d hk
    case ne => exact js_ifne (C := C) (J := J) (q := q) (K := K) X ht (hj _) d hk
    case lt => exact js_iflt (C := C) (J := J) (q := q) (K := K) X ht (hj _) d hk
    case ge => exact js_ifge (C := C) (J := J) (q := q) (K := K) X ht (hj _) d hk
    case gt => exact js_ifgt (C := C) (J := J) (q := q) (K := K) X ht (hj _) d hk
    case le => exact js_ifle (C := C) (J := J) (q := q) (K := K) X ht (hj _) d hk
  case if_icmp cd off =>
    simp only [jx_chk, Bool.and_eq_true, decide_eq_true_eq] at hchk
    obtain ⟨d, h1, h2⟩ := hchk
    cases (Nat.eq_of_beq_eq_true h1)
    have ht := of_decide_eq_true h2
    cases cd
    case eq => exact js_cmpeq (C := C) (J := J) (q := q) (K := K) X ht (hj _) d hk
    case ne => exact js_cmpne (C := C) (J := J) (q := q) (K := K) X ht (hj _) d hk
    case lt => exact js_cmplt (C := C) (J := J) (q := q) (K := K) X ht (hj _) d hk
    case ge => exact js_cmpge (C := C) (J := J) (q := q) (K := K) X ht (hj _) d hk
    case gt => exact js_cmpgt (C := C) (J := J) (q := q) (K := K) X ht (hj _) d hk
    case le => exact js_cmple (C := C) (J := J) (q := q) (K := K) X ht (hj _) d hk
  case goto off =>
    simp only [jx_chk, Bool.and_eq_true, decide_eq_true_eq] at hchk
    obtain ⟨d, h1, h2⟩ := hchk
    cases (Nat.eq_of_beq_eq_true h1)
    exact js_goto (C := C) (J := J) (q := q) (K := K) X (of_decide_eq_true h2) (hj _) d
  case tableswitch dflt lo hi offs =>
    simp only [jx_chk, Bool.and_eq_true, decide_eq_true_eq] at hchk
    obtain ⟨d, ⟨h1, h2⟩, h3⟩ := hchk
    obtain ⟨g1, g2⟩ := jx_swc_ok h3
    exact js_sw (C := C) (J := J) (q := q) (K := K) X (tg := tg) (by rw [← Array.length_toList]; exact g1) h2 (of_decide_eq_true h1) (fun i b hb => by obtain ⟨off, e1, e2⟩ := g2 i b hb; exact ⟨off, by rw [← Array.getElem?_toList]; exact e1, e2⟩) hj d
  case getfield index =>
    simp only [jx_chk, Bool.and_eq_true, decide_eq_true_eq] at hchk
    obtain ⟨d, h1, h2⟩ := hchk
    cases (Nat.eq_of_beq_eq_true h1)
    split at h2
    · rename_i r hr
      unfold jx_fld at h2
      simp only [Bool.and_eq_true] at h2
      have hc := jx_cls hr
      show jx_KS _ _ _ _ _ _ _ _ _ _ _ _ _ _ _ _ (jx_gf x C J q K)
      unfold jx_gf
      generalize jx_x x 0 = z
      rcases z with _ | _ | z
      · exact js_gfi (C := C) (J := J) (q := q) (K := K) X hr hc.1 (Nat.le_of_ble_eq_true h2.1) (jx_w_in h2.2) d hk
      · exact js_gfl (C := C) (J := J) (q := q) (K := K) X hr hc.1 (Nat.le_of_ble_eq_true h2.1) (jx_w_in h2.2) d hk
      · exact js_gfr (C := C) (J := J) (q := q) (K := K) X hr hc.1 (Nat.le_of_ble_eq_true h2.1) (jx_w_in h2.2) d hk
    · cases h2
  case putfield index =>
    simp only [jx_chk, Bool.and_eq_true, decide_eq_true_eq] at hchk
    obtain ⟨d, h1, h2⟩ := hchk
    cases (Nat.eq_of_beq_eq_true h1)
    split at h2
    · rename_i r hr
      simp only [Bool.and_eq_true] at h2
      obtain ⟨⟨h3, h4⟩, h5⟩ := h2
      unfold jx_fld at h3
      simp only [Bool.and_eq_true] at h3
      obtain ⟨hc1, ty0, hc2, hc3, -⟩ := jx_cls hr
      have hlt := Nat.le_of_ble_eq_true h3.1
      have hw := jx_w_in h3.2
      show jx_KS _ _ _ _ _ _ _ _ _ _ _ _ _ _ _ _ (jx_pf x C J q K)
      unfold jx_pfc at h4
      unfold jx_pf
      generalize jx_x x 0 = z at h4 h5 ⊢
      cases hfin : (r.2.1 (jx_x x 2)).2.2.2 with
      | false =>
        rcases z with _ | _ | _ | z
        · exact js_pfi (C := C) (J := J) (q := q) (K := K) X hr hc1 ty0 hc2 hc3 hlt hw hfin (of_decide_eq_true h4) d hk
        · exact js_pfl (C := C) (J := J) (q := q) (K := K) X hr hc1 ty0 hc2 hc3 hlt hw hfin (of_decide_eq_true h4) d hk
        · exact js_pfr (C := C) (J := J) (q := q) (K := K) X hr hc1 ty0 hc2 hc3 hlt hw hfin (jx_refd_ok h4) d hk
        · exact js_pfz (C := C) (J := J) (q := q) (K := K) X hr hc1 ty0 hc2 hc3 hlt hw hfin (of_decide_eq_true h4) d hk
      | true =>
        rw [hfin] at h5
        simp only [Bool.and_eq_true, Bool.or_eq_true, decide_eq_true_eq] at h5
        obtain ⟨⟨h6, h7⟩, h8⟩ := h5
        rcases h6 with h6 | h6
        · rw [Nat.eq_of_beq_eq_true h6] at h4 ⊢
          exact js_pfFi (C := C) (J := J) (q := q) (K := K) X hr hc1 ty0 hc2 hc3 hlt hw hfin h7 h8 (of_decide_eq_true h4) d hk
        · rw [Nat.eq_of_beq_eq_true h6] at h4 ⊢
          exact js_pfFr (C := C) (J := J) (q := q) (K := K) X hr hc1 ty0 hc2 hc3 hlt hw hfin h7 h8 (jx_refd_ok h4) d hk
    · cases h2
  case getstatic index =>
    simp only [jx_chk, Bool.and_eq_true, decide_eq_true_eq] at hchk
    obtain ⟨d, h1, h2⟩ := hchk
    cases (Nat.eq_of_beq_eq_true h1)
    split at h2
    · rename_i r hr
      exact js_gs (C := C) (J := J) (q := q) (K := K) X hr (jx_w_in h2) d hk
    · cases h2
  case iaload =>
    simp only [jx_chk, Bool.and_eq_true, decide_eq_true_eq] at hchk
    obtain ⟨d, h1⟩ := hchk
    cases (Nat.eq_of_beq_eq_true h1)
    show jx_KS _ _ _ _ _ _ _ _ _ _ _ _ _ _ _ _ (jx_al0 x C J q K)
    unfold jx_al0
    generalize jx_x x 0 = z
    rcases z with _ | z
    · exact js_iald (C := C) (J := J) (q := q) (K := K) X d hk
    · exact js_rald (C := C) (J := J) (q := q) (K := K) X d hk
  case baload =>
    simp only [jx_chk, Bool.and_eq_true, decide_eq_true_eq] at hchk
    obtain ⟨d, h1⟩ := hchk
    cases (Nat.eq_of_beq_eq_true h1)
    exact js_bald (C := C) (J := J) (q := q) (K := K) X d hk
  case aaload =>
    simp only [jx_chk, Bool.and_eq_true, decide_eq_true_eq] at hchk
    obtain ⟨d, h1, h2⟩ := hchk
    cases (Nat.eq_of_beq_eq_true h1)
    exact js_aald (C := C) (J := J) (q := q) (K := K) X (jx_tyat h2) d hk
  case iastore =>
    simp only [jx_chk, Bool.and_eq_true, decide_eq_true_eq] at hchk
    obtain ⟨d, h1⟩ := hchk
    cases (Nat.eq_of_beq_eq_true h1)
    exact js_iast (C := C) (J := J) (q := q) (K := K) X d hk
  case bastore =>
    simp only [jx_chk, Bool.and_eq_true, decide_eq_true_eq] at hchk
    obtain ⟨d, h1⟩ := hchk
    cases (Nat.eq_of_beq_eq_true h1)
    exact js_bast (C := C) (J := J) (q := q) (K := K) X d hk
  case aastore =>
    simp only [jx_chk, Bool.and_eq_true, decide_eq_true_eq] at hchk
    obtain ⟨d, h1, h2⟩ := hchk
    cases (Nat.eq_of_beq_eq_true h1)
    obtain ⟨D, T, N, hcl⟩ := jx_clat h2
    exact js_aast (C := C) (J := J) (q := q) (K := K) X hcl (jx_tyat h2) d hk
  case arraylength =>
    simp only [jx_chk, Bool.and_eq_true, decide_eq_true_eq] at hchk
    obtain ⟨d, h1⟩ := hchk
    cases (Nat.eq_of_beq_eq_true h1)
    show jx_KS _ _ _ _ _ _ _ _ _ _ _ _ _ _ _ _ (jx_len x C J q K)
    unfold jx_len
    generalize jx_x x 0 = z
    rcases z with _ | _ | z
    · exact js_ilen (C := C) (J := J) (q := q) (K := K) X d hk
    · exact js_rlen (C := C) (J := J) (q := q) (K := K) X d hk
    · exact js_blen (C := C) (J := J) (q := q) (K := K) X d hk
  case new index =>
    simp only [jx_chk, Bool.and_eq_true, decide_eq_true_eq] at hchk
    obtain ⟨d, h1, h2⟩ := hchk
    cases (Nat.eq_of_beq_eq_true h1)
    split at h2
    · rename_i r hr
      simp only [Bool.and_eq_true] at h2
      obtain ⟨hc1, ty0, hc2, hc3, hc4⟩ := jx_cls hr
      have hnf : jx_nf (jx_x x 0) = r.2.2 := by unfold jx_nf; rw [hr]
      show jx_KS _ _ _ _ _ _ _ _ _ _ _ _ _ _ _ _ (jt_new (jx_x x 0) (jx_nf (jx_x x 0)) (jx_born (jx_x x 0)) C J q K)
      rw [hnf]
      exact js_new (C := C) (J := J) (q := q) (K := K) X hr hc1 ty0 hc2 hc4 (jx_w_in h2.1.1) (jx_w_in h2.1.2) (jx_w_in h2.2) d hk
    · cases h2
  case newarray t =>
    cases t
    case int =>
      simp only [jx_chk, Bool.and_eq_true, decide_eq_true_eq] at hchk
      obtain ⟨d, h1, h2⟩ := hchk
      cases (Nat.eq_of_beq_eq_true h1)
      exact js_newi (C := C) (J := J) (q := q) (K := K) X (jx_w_in h2) d hk
    case byte =>
      simp only [jx_chk, Bool.and_eq_true, decide_eq_true_eq] at hchk
      obtain ⟨d, h1, h2⟩ := hchk
      cases (Nat.eq_of_beq_eq_true h1)
      exact js_newb (C := C) (J := J) (q := q) (K := K) X (jx_w_in h2) d hk
    all_goals (simp [jx_chk] at hchk)
  case anewarray index =>
    simp only [jx_chk, Bool.and_eq_true, decide_eq_true_eq] at hchk
    obtain ⟨d, ⟨h1, h2⟩, h3⟩ := hchk
    cases (Nat.eq_of_beq_eq_true h1)
    exact js_newr (C := C) (J := J) (q := q) (K := K) X (jx_tyat h2) (jx_aoat X.2.2.2.2.2.2.1 h2) (jx_w_in h3) d hk
  case invokevirtual index =>
    simp only [jx_chk, Bool.and_eq_true, decide_eq_true_eq] at hchk
    obtain ⟨d, ⟨⟨⟨⟨⟨h1, h2⟩, h3⟩, h4⟩, h5⟩, h6⟩, h7⟩ := hchk
    cases (Nat.eq_of_beq_eq_true h1)
    obtain ⟨g1, -, g2, -⟩ := jx_mchk_ok (hmk _ (Nat.le_of_ble_eq_true h7))
    obtain ⟨w2, w3, h0⟩ := g2 (Nat.eq_of_beq_eq_true h2)
    split at h5
    · rename_i r hr
      obtain ⟨D, T, N⟩ := r
      have hD : D = _ := of_decide_eq_true h5
      subst hD
      show jx_KS _ _ _ _ _ _ _ _ _ _ _ _ _ _ _ _ (jt_callV (jx_Tb Mt) (jx_x x 1) (jx_x x 2) (jx_x x 3) (jx_x x 4) C J q K)
      rw [← Nat.eq_of_beq_eq_true h3]
      exact js_callV (C := C) (J := J) (q := q) (K := K) X hC g1 h0 (jx_roomB_ok h4) hr (jx_w_in h6) w2 w3 d hk
    · cases h5
  case invokestatic index =>
    simp only [jx_chk, Bool.and_eq_true, decide_eq_true_eq] at hchk
    obtain ⟨d, h1, h2⟩ := hchk
    cases (Nat.eq_of_beq_eq_true h1)
    show jx_KS _ _ _ _ _ _ _ _ _ _ _ _ _ _ _ _ (jx_ist (jx_Tb Mt) x C J q K)
    unfold jx_ist
    generalize jx_x x 0 = z at h2 ⊢
    rcases z with _ | _ | _ | _ | _ | z
    · simp only [Bool.and_eq_true] at h2
      obtain ⟨⟨⟨⟨h3, h4⟩, h5⟩, h6⟩, h7⟩ := h2
      obtain ⟨g1, g2, -, -⟩ := jx_mchk_ok (hmk _ (Nat.le_of_ble_eq_true h7))
      obtain ⟨w2, h0⟩ := g2 (Nat.eq_of_beq_eq_true h3)
      rw [← Nat.eq_of_beq_eq_true h4]
      exact js_callS (C := C) (J := J) (q := q) (K := K) X hC g1 h0 (jx_roomB_ok h5) (jx_w_in h6) w2 d hk
    · simp only [Bool.and_eq_true, decide_eq_true_eq] at h2
      obtain ⟨⟨⟨⟨h3, h4⟩, h5⟩, h6⟩, h7⟩ := h2
      obtain ⟨g1, g2, -, -⟩ := jx_mchk_ok (hmk _ (Nat.le_of_ble_eq_true h7))
      obtain ⟨w2, h0⟩ := g2 (Nat.eq_of_beq_eq_true h3)
      rw [← Nat.eq_of_beq_eq_true h4]
      exact js_callSN (C := C) (J := J) (q := q) (K := K) X hC g1 h0 (jx_roomB_ok h5) (List.mem_of_getElem? h6) w2 d hk
    · simp only [Bool.and_eq_true] at h2
      obtain ⟨⟨⟨⟨⟨h3, h4⟩, h5⟩, h6⟩, h7⟩, h8⟩ := h2
      exact js_cpy (C := C) (J := J) (q := q) (K := K) X (t0 := 0) (by decide) rfl rfl (jx_w_in h3) (jx_w_in h4) (jx_w_in h5) (jx_w_in h6) (Nat.le_of_ble_eq_true h7) (Nat.le_of_ble_eq_true h8) d hk
    · simp only [Bool.and_eq_true] at h2
      obtain ⟨⟨⟨⟨⟨h3, h4⟩, h5⟩, h6⟩, h7⟩, h8⟩ := h2
      exact js_cpy (C := C) (J := J) (q := q) (K := K) X (t0 := 1) (by decide) rfl rfl (jx_w_in h3) (jx_w_in h4) (jx_w_in h5) (jx_w_in h6) (Nat.le_of_ble_eq_true h7) (Nat.le_of_ble_eq_true h8) d hk
    · simp only [Bool.and_eq_true] at h2
      obtain ⟨⟨⟨⟨⟨h3, h4⟩, h5⟩, h6⟩, h7⟩, h8⟩ := h2
      exact js_mmin (C := C) (J := J) (q := q) (K := K) X (jx_w_in h3) (jx_w_in h4) (jx_w_in h5) (jx_w_in h6) (Nat.le_of_ble_eq_true h7) (Nat.le_of_ble_eq_true h8) d hk
    · simp only [Bool.and_eq_true] at h2
      obtain ⟨⟨⟨⟨⟨h3, h4⟩, h5⟩, h6⟩, h7⟩, h8⟩ := h2
      exact js_mmax (C := C) (J := J) (q := q) (K := K) X (jx_w_in h3) (jx_w_in h4) (jx_w_in h5) (jx_w_in h6) (Nat.le_of_ble_eq_true h7) (Nat.le_of_ble_eq_true h8) d hk
  case invokespecial index =>
    simp only [jx_chk, Bool.and_eq_true, decide_eq_true_eq] at hchk
    obtain ⟨d, h1, h2⟩ := hchk
    cases (Nat.eq_of_beq_eq_true h1)
    show jx_KS _ _ _ _ _ _ _ _ _ _ _ _ _ _ _ _ (jx_isp (jx_Tb Mt) x C J q K)
    unfold jx_isp
    generalize jx_x x 0 = z at h2 ⊢
    rcases z with _ | _ | z
    · simp only [Bool.and_eq_true] at h2
      obtain ⟨⟨⟨⟨h3, h4⟩, h5⟩, h6⟩, h7⟩ := h2
      obtain ⟨g1, -, -, g2⟩ := jx_mchk_ok (hmk _ (Nat.le_of_ble_eq_true h7))
      obtain ⟨w2, hn, hr⟩ := g2 (Nat.eq_of_beq_eq_true h3)
      rw [← Nat.eq_of_beq_eq_true h4]
      exact js_callI (C := C) (J := J) (q := q) (K := K) X hC g1 hr (jx_roomB_ok h5) hn (jx_w_in h6) w2 d hk
    · simp only [Bool.and_eq_true, decide_eq_true_eq] at h2
      obtain ⟨⟨⟨⟨h3, h4⟩, h5⟩, h6⟩, h7⟩ := h2
      obtain ⟨g1, -, -, g2⟩ := jx_mchk_ok (hmk _ (Nat.le_of_ble_eq_true h7))
      obtain ⟨w2, hn, hr⟩ := g2 (Nat.eq_of_beq_eq_true h3)
      rw [← Nat.eq_of_beq_eq_true h4]
      exact js_callIN (C := C) (J := J) (q := q) (K := K) X hC g1 hr (jx_roomB_ok h5) hn (List.mem_of_getElem? h6) w2 d hk
    · simp only [Bool.and_eq_true] at h2
      obtain ⟨⟨⟨⟨h3, h4⟩, h5⟩, h7⟩, h8⟩ := h2
      exact js_oi (C := C) (J := J) (q := q) (K := K) X (jx_w_in h3) (jx_w_in h4) (jx_w_in h5) (Nat.le_of_ble_eq_true h7) (Nat.le_of_ble_eq_true h8) d hk
  case ireturn =>
    simp only [jx_chk, Bool.and_eq_true, decide_eq_true_eq] at hchk
    obtain ⟨d, h1, h2⟩ := hchk
    cases (Nat.eq_of_beq_eq_true h1)
    show jx_KS _ _ _ _ _ _ _ _ _ _ _ _ _ _ _ _ (jx_ire x C J q K)
    unfold jx_ire
    generalize jx_x x 0 = z at h2 ⊢
    rcases z with _ | z
    · exact js_ri (C := C) (J := J) (q := q) (K := K) hq (of_decide_eq_true h2) d
    · exact js_rz (C := C) (J := J) (q := q) (K := K) hq (of_decide_eq_true h2) d
  case lreturn =>
    simp only [jx_chk, Bool.and_eq_true, decide_eq_true_eq] at hchk
    obtain ⟨d, h1, h2⟩ := hchk
    cases (Nat.eq_of_beq_eq_true h1)
    exact js_rl (C := C) (J := J) (q := q) (K := K) hq h2 d
  case areturn =>
    simp only [jx_chk, Bool.and_eq_true, decide_eq_true_eq] at hchk
    obtain ⟨d, h1, h2⟩ := hchk
    cases (Nat.eq_of_beq_eq_true h1)
    split at h2
    · exact js_rr (C := C) (J := J) (q := q) (K := K) hq (by assumption) d
    · cases h2
  case return_ =>
    simp only [jx_chk, Bool.and_eq_true, decide_eq_true_eq] at hchk
    obtain ⟨d, h1, h2⟩ := hchk
    cases (Nat.eq_of_beq_eq_true h1)
    exact js_rv (C := C) (J := J) (q := q) (K := K) hq h2 d
  all_goals (simp [jx_chk] at hchk)
end JXM
