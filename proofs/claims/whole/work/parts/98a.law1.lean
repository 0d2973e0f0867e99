/-! THE LAW's CALLS: each answers alike -/
def LH (w W : jx_W) (t N b L : Nat) (xs : Nat → Int32) (i bc bz : Nat) (s : aSt) (past : List aSt) (bs : List Int32) (c : Nat → Int32) (r : Nat → Nat → Int32) (P : Nat → Int32) (K : jx_Q) : Prop := W.2.1 = w.2.1 ∧ (∀ x, x < t → W.2.2 x = w.2.2 x) ∧ TI W t s past bs N ∧ At W (t + 383) 12 (mC (t + 383) c (rup r 0 P)) ∧ MJ c r P s past bs ∧ stI s N ∧ (∀ p ∈ past, stI p N) ∧ bsOk bs ∧ b < t ∧ jx_ro w b L xs ∧ i + 3 ≤ L ∧ L ≤ 1536 ∧ N + 49920 < 2 ^ 25 ∧ (∀ W2, LQ w t W2 (N + 49920) → zwp n_L_law 25 [(0, .ref b), (1, .ref t), (2, .ref (t + 383)), (3, .int (nI i))] [] bc bz W2 K)
theorem mcall {n : Nat} {args : List Value} {W1 : jx_W} {q : Nat} {c : Nat → Int32} {r : Nat → Nat → Int32} {K : jx_Q} (hW : W1 = mw W1 q c r) (h : zcall n args (mw W1 q c r) K) : zcall n args W1 K := by rw [hW]; exact h
theorem rng5 {v : Nat} (h : v < 6) : (0 : Int32) ≤ nI v ∧ nI v ≤ 5 := ⟨(nI_leI (a := 0) (by decide) (by omega)).mpr (Nat.zero_le _), (nI_leI (b := 5) (by omega) (by decide)).mpr (by omega)⟩
theorem stI_up {s : aSt} {N : Nat} (h : stI s N) : stI s (N + 49920) := h.mono (by omega)
section Law1
variable {w W : jx_W} {t N b L : Nat} {xs : Nat → Int32} {i bc bz : Nat} {s : aSt} {past : List aSt} {bs : List Int32} {c : Nat → Int32} {r : Nat → Nat → Int32} {P : Nat → Int32} {K : jx_Q}
theorem law_letter (h : LH w W t N b L xs i bc bz s past bs c r P K) : zwp n_L_law 6 [(0, .ref b), (1, .ref t), (2, .ref (t + 383)), (3, .int (nI i))] [] bc bz W K := by
  obtain ⟨w1, w2, hI, hM, hJ, hs, hp, hb, bt, ro, iL, LL, hN, hC⟩ := h
  have ro1 : ∀ W1, Fr W W1 t 383 → jx_ro W1 b L xs := fun W1 hf => (hf.2.2 b (by omega)).trans ((w2 b bt).trans ro)
  have ob1 : ∀ W1, Fr W W1 t 383 → ∃ fs, jx_ob W1 (t + 383) 8 fs := fun W1 hf => ⟨_, hM.fr hf (by omega) 0 (by decide)⟩
  have v1 : vp_in (nI i + 1) L := by rw [nI_1]; exact vp_in_nI (by omega) (by omega)
  have v2 : vp_in (nI i + 2) L := by rw [lit_2, nI_add]; exact vp_in_nI (by omega) (by omega)
  have rf : Fr W W t 383 := Fr.rf
  have hA := au_ok hs.1
  have h40 : bs.length ≤ 40 := hJ.1.2.2.2.1.2.1
  have hsu := stI_up hs
  have hpu : ∀ p ∈ past, stI p (N + 49920) := fun p h => stI_up (hp p h)
  have hpr : ∀ p ∈ aPast past s, stI p (N + 49920) := past_I hpu hsu
  refine b_L_law_6 ⟨L, xs, ro1 W rf, v1, L, xs, ro1 W rf, v2, TI_ob hI, ?_⟩
  refine c_letter hI ⟨_, rfl, L, xs, ro1 W rf, v1, L, xs, ro1 W rf, v2, ob1 W rf, mcall (mod_eq hM rf) ?_⟩
  exact f_letter hJ.1.1 ⟨_, rfl, fun _ => hC _ (LQ_of w1 w2 rf hI hJ (by omega) hsu hpu hb), fun z => absurd rfl z⟩
theorem law_node (h : LH w W t N b L xs i bc bz s past bs c r P K) : zwp n_L_law 7 [(0, .ref b), (1, .ref t), (2, .ref (t + 383)), (3, .int (nI i))] [] bc bz W K := by
  obtain ⟨w1, w2, hI, hM, hJ, hs, hp, hb, bt, ro, iL, LL, hN, hC⟩ := h
  have ro1 : ∀ W1, Fr W W1 t 383 → jx_ro W1 b L xs := fun W1 hf => (hf.2.2 b (by omega)).trans ((w2 b bt).trans ro)
  have ob1 : ∀ W1, Fr W W1 t 383 → ∃ fs, jx_ob W1 (t + 383) 8 fs := fun W1 hf => ⟨_, hM.fr hf (by omega) 0 (by decide)⟩
  have v1 : vp_in (nI i + 1) L := by rw [nI_1]; exact vp_in_nI (by omega) (by omega)
  have v2 : vp_in (nI i + 2) L := by rw [lit_2, nI_add]; exact vp_in_nI (by omega) (by omega)
  have rf : Fr W W t 383 := Fr.rf
  have hA := au_ok hs.1
  have h40 : bs.length ≤ 40 := hJ.1.2.2.2.1.2.1
  have hsu := stI_up hs
  have hpu : ∀ p ∈ past, stI p (N + 49920) := fun p h => stI_up (hp p h)
  have hpr : ∀ p ∈ aPast past s, stI p (N + 49920) := past_I hpu hsu
  refine b_L_law_7 ⟨L, xs, ro1 W rf, v1, L, xs, ro1 W rf, v2, TI_ob hI, ?_⟩
  refine c_node hI hs.1 ⟨_, rfl, L, xs, ro1 W rf, v1, L, xs, ro1 W rf, v2, ob1 W rf, mcall (mod_eq hM rf) ?_⟩
  exact f_node hs.1 hJ.2 ⟨_, rfl, fun _ => hC _ (LQ_of w1 w2 rf hI hJ (by omega) hsu hpu hb), fun z => absurd rfl z⟩
theorem law_next (h : LH w W t N b L xs i bc bz s past bs c r P K) : zwp n_L_law 8 [(0, .ref b), (1, .ref t), (2, .ref (t + 383)), (3, .int (nI i))] [] bc bz W K := by
  obtain ⟨w1, w2, hI, hM, hJ, hs, hp, hb, bt, ro, iL, LL, hN, hC⟩ := h
  have ro1 : ∀ W1, Fr W W1 t 383 → jx_ro W1 b L xs := fun W1 hf => (hf.2.2 b (by omega)).trans ((w2 b bt).trans ro)
  have ob1 : ∀ W1, Fr W W1 t 383 → ∃ fs, jx_ob W1 (t + 383) 8 fs := fun W1 hf => ⟨_, hM.fr hf (by omega) 0 (by decide)⟩
  have v1 : vp_in (nI i + 1) L := by rw [nI_1]; exact vp_in_nI (by omega) (by omega)
  have v2 : vp_in (nI i + 2) L := by rw [lit_2, nI_add]; exact vp_in_nI (by omega) (by omega)
  have rf : Fr W W t 383 := Fr.rf
  have hA := au_ok hs.1
  have h40 : bs.length ≤ 40 := hJ.1.2.2.2.1.2.1
  have hsu := stI_up hs
  have hpu : ∀ p ∈ past, stI p (N + 49920) := fun p h => stI_up (hp p h)
  have hpr : ∀ p ∈ aPast past s, stI p (N + 49920) := past_I hpu hsu
  refine b_L_law_8 ⟨L, xs, ro1 W rf, v1, L, xs, ro1 W rf, v2, TI_ob hI, ?_⟩
  refine c_next hI hs.1 ⟨_, rfl, L, xs, ro1 W rf, v1, L, xs, ro1 W rf, v2, ob1 W rf, mcall (mod_eq hM rf) ?_⟩
  exact f_next hA hJ.1.2.2.2.2.1 ⟨_, rfl, fun _ => hC _ (LQ_of w1 w2 rf hI hJ (by omega) hsu hpu hb), fun z => absurd rfl z⟩
theorem law_flow (h : LH w W t N b L xs i bc bz s past bs c r P K) : zwp n_L_law 12 [(0, .ref b), (1, .ref t), (2, .ref (t + 383)), (3, .int (nI i))] [] bc bz W K := by
  obtain ⟨w1, w2, hI, hM, hJ, hs, hp, hb, bt, ro, iL, LL, hN, hC⟩ := h
  have ro1 : ∀ W1, Fr W W1 t 383 → jx_ro W1 b L xs := fun W1 hf => (hf.2.2 b (by omega)).trans ((w2 b bt).trans ro)
  have ob1 : ∀ W1, Fr W W1 t 383 → ∃ fs, jx_ob W1 (t + 383) 8 fs := fun W1 hf => ⟨_, hM.fr hf (by omega) 0 (by decide)⟩
  have v1 : vp_in (nI i + 1) L := by rw [nI_1]; exact vp_in_nI (by omega) (by omega)
  have v2 : vp_in (nI i + 2) L := by rw [lit_2, nI_add]; exact vp_in_nI (by omega) (by omega)
  have rf : Fr W W t 383 := Fr.rf
  have hA := au_ok hs.1
  have h40 : bs.length ≤ 40 := hJ.1.2.2.2.1.2.1
  have hsu := stI_up hs
  have hpu : ∀ p ∈ past, stI p (N + 49920) := fun p h => stI_up (hp p h)
  have hpr : ∀ p ∈ aPast past s, stI p (N + 49920) := past_I hpu hsu
  refine b_L_law_12 ⟨L, xs, ro1 W rf, v1, TI_ob hI, ?_⟩
  refine c_flow hI ⟨_, rfl, L, xs, ro1 W rf, v1, ob1 W rf, mcall (mod_eq hM rf) ?_⟩
  exact f_flow hJ.1.1 ⟨_, rfl, fun _ => hC _ (LQ_of w1 w2 rf hI hJ (by omega) hsu hpu hb), fun z => absurd rfl z⟩
theorem law_property (h : LH w W t N b L xs i bc bz s past bs c r P K) : zwp n_L_law 13 [(0, .ref b), (1, .ref t), (2, .ref (t + 383)), (3, .int (nI i))] [] bc bz W K := by
  obtain ⟨w1, w2, hI, hM, hJ, hs, hp, hb, bt, ro, iL, LL, hN, hC⟩ := h
  have ro1 : ∀ W1, Fr W W1 t 383 → jx_ro W1 b L xs := fun W1 hf => (hf.2.2 b (by omega)).trans ((w2 b bt).trans ro)
  have ob1 : ∀ W1, Fr W W1 t 383 → ∃ fs, jx_ob W1 (t + 383) 8 fs := fun W1 hf => ⟨_, hM.fr hf (by omega) 0 (by decide)⟩
  have v1 : vp_in (nI i + 1) L := by rw [nI_1]; exact vp_in_nI (by omega) (by omega)
  have v2 : vp_in (nI i + 2) L := by rw [lit_2, nI_add]; exact vp_in_nI (by omega) (by omega)
  have rf : Fr W W t 383 := Fr.rf
  have hA := au_ok hs.1
  have h40 : bs.length ≤ 40 := hJ.1.2.2.2.1.2.1
  have hsu := stI_up hs
  have hpu : ∀ p ∈ past, stI p (N + 49920) := fun p h => stI_up (hp p h)
  have hpr : ∀ p ∈ aPast past s, stI p (N + 49920) := past_I hpu hsu
  refine b_L_law_13 ⟨L, xs, ro1 W rf, v1, L, xs, ro1 W rf, v2, TI_ob hI, ?_⟩
  refine c_property hI hs.ok hs.1 (fun f hf => (hs.2.2.1 f hf).2.2.1.1) ⟨_, rfl, L, xs, ro1 W rf, v1, L, xs, ro1 W rf, v2, ob1 W rf, mcall (mod_eq hM rf) ?_⟩
  exact f_property hJ.1 hs.ok hA (fun c' k => ⟨_, rfl, fun _ => hC _ (LQ_of w1 w2 rf hI (MJ_of (MI_12 hJ.1 k) hJ.2 rfl (fun _ _ _ => rfl)) (by omega) hsu hpu hb), fun z => absurd rfl z⟩)
theorem law_byteAt (h : LH w W t N b L xs i bc bz s past bs c r P K) : zwp n_L_law 14 [(0, .ref b), (1, .ref t), (2, .ref (t + 383)), (3, .int (nI i))] [] bc bz W K := by
  obtain ⟨w1, w2, hI, hM, hJ, hs, hp, hb, bt, ro, iL, LL, hN, hC⟩ := h
  have ro1 : ∀ W1, Fr W W1 t 383 → jx_ro W1 b L xs := fun W1 hf => (hf.2.2 b (by omega)).trans ((w2 b bt).trans ro)
  have ob1 : ∀ W1, Fr W W1 t 383 → ∃ fs, jx_ob W1 (t + 383) 8 fs := fun W1 hf => ⟨_, hM.fr hf (by omega) 0 (by decide)⟩
  have v1 : vp_in (nI i + 1) L := by rw [nI_1]; exact vp_in_nI (by omega) (by omega)
  have v2 : vp_in (nI i + 2) L := by rw [lit_2, nI_add]; exact vp_in_nI (by omega) (by omega)
  have rf : Fr W W t 383 := Fr.rf
  have hA := au_ok hs.1
  have h40 : bs.length ≤ 40 := hJ.1.2.2.2.1.2.1
  have hsu := stI_up hs
  have hpu : ∀ p ∈ past, stI p (N + 49920) := fun p h => stI_up (hp p h)
  have hpr : ∀ p ∈ aPast past s, stI p (N + 49920) := past_I hpu hsu
  refine b_L_law_14 ⟨L, xs, ro1 W rf, v1, L, xs, ro1 W rf, v2, TI_ob hI, ?_⟩
  refine c_byteAt hI hs.ok hs.1 ⟨_, rfl, L, xs, ro1 W rf, v1, L, xs, ro1 W rf, v2, ob1 W rf, mcall (mod_eq hM rf) ?_⟩
  exact f_byteAt hJ.1 hs.ok hA (fun c' k => ⟨_, rfl, fun _ => hC _ (LQ_of w1 w2 rf hI (MJ_of (MI_12 hJ.1 k) hJ.2 rfl (fun _ _ _ => rfl)) (by omega) hsu hpu hb), fun z => absurd rfl z⟩)
theorem law_possible (h : LH w W t N b L xs i bc bz s past bs c r P K) : zwp n_L_law 15 [(0, .ref b), (1, .ref t), (2, .ref (t + 383)), (3, .int (nI i))] [] bc bz W K := by
  obtain ⟨w1, w2, hI, hM, hJ, hs, hp, hb, bt, ro, iL, LL, hN, hC⟩ := h
  have ro1 : ∀ W1, Fr W W1 t 383 → jx_ro W1 b L xs := fun W1 hf => (hf.2.2 b (by omega)).trans ((w2 b bt).trans ro)
  have ob1 : ∀ W1, Fr W W1 t 383 → ∃ fs, jx_ob W1 (t + 383) 8 fs := fun W1 hf => ⟨_, hM.fr hf (by omega) 0 (by decide)⟩
  have v1 : vp_in (nI i + 1) L := by rw [nI_1]; exact vp_in_nI (by omega) (by omega)
  have v2 : vp_in (nI i + 2) L := by rw [lit_2, nI_add]; exact vp_in_nI (by omega) (by omega)
  have rf : Fr W W t 383 := Fr.rf
  have hA := au_ok hs.1
  have h40 : bs.length ≤ 40 := hJ.1.2.2.2.1.2.1
  have hsu := stI_up hs
  have hpu : ∀ p ∈ past, stI p (N + 49920) := fun p h => stI_up (hp p h)
  have hpr : ∀ p ∈ aPast past s, stI p (N + 49920) := past_I hpu hsu
  refine b_L_law_15 ⟨L, xs, ro1 W rf, v1, TI_ob hI, ?_⟩
  refine c_possible hI hs.ok hs.1 (fun f hf => (hs.2.2.1 f hf).2.2.1.1) ⟨_, rfl, L, xs, ro1 W rf, v1, ob1 W rf, mcall (mod_eq hM rf) ?_⟩
  exact f_possible hJ.1 (fun c' k => ⟨_, rfl, fun _ => hC _ (LQ_of w1 w2 rf hI (MJ_of (MI_12 hJ.1 k) hJ.2 rfl (fun _ _ _ => rfl)) (by omega) hsu hpu hb), fun z => absurd (by rw [lg_cmp_eq]) z⟩)
theorem law_read (h : LH w W t N b L xs i bc bz s past bs c r P K) : zwp n_L_law 16 [(0, .ref b), (1, .ref t), (2, .ref (t + 383)), (3, .int (nI i))] [] bc bz W K := by
  obtain ⟨w1, w2, hI, hM, hJ, hs, hp, hb, bt, ro, iL, LL, hN, hC⟩ := h
  have ro1 : ∀ W1, Fr W W1 t 383 → jx_ro W1 b L xs := fun W1 hf => (hf.2.2 b (by omega)).trans ((w2 b bt).trans ro)
  have ob1 : ∀ W1, Fr W W1 t 383 → ∃ fs, jx_ob W1 (t + 383) 8 fs := fun W1 hf => ⟨_, hM.fr hf (by omega) 0 (by decide)⟩
  have v1 : vp_in (nI i + 1) L := by rw [nI_1]; exact vp_in_nI (by omega) (by omega)
  have v2 : vp_in (nI i + 2) L := by rw [lit_2, nI_add]; exact vp_in_nI (by omega) (by omega)
  have rf : Fr W W t 383 := Fr.rf
  have hA := au_ok hs.1
  have h40 : bs.length ≤ 40 := hJ.1.2.2.2.1.2.1
  have hsu := stI_up hs
  have hpu : ∀ p ∈ past, stI p (N + 49920) := fun p h => stI_up (hp p h)
  have hpr : ∀ p ∈ aPast past s, stI p (N + 49920) := past_I hpu hsu
  refine b_L_law_16 ⟨L, xs, ro1 W rf, v1, L, xs, ro1 W rf, v2, TI_ob hI, ?_⟩
  refine c_read hI hs.ok hs.1 (fun f hf => Nat.lt_of_le_of_lt (hs.hist hf) (by decide)) ⟨_, rfl, L, xs, ro1 W rf, v1, L, xs, ro1 W rf, v2, ob1 W rf, mcall (mod_eq hM rf) ?_⟩
  exact f_read hJ.1 hs.ok hA hs.rd (fun c' k => ⟨_, rfl, fun _ => hC _ (LQ_of w1 w2 rf hI (MJ_of (MI_12 hJ.1 k) hJ.2 rfl (fun _ _ _ => rfl)) (by omega) hsu hpu hb), fun z => absurd rfl z⟩)
theorem law_find (h : LH w W t N b L xs i bc bz s past bs c r P K) : zwp n_L_law 17 [(0, .ref b), (1, .ref t), (2, .ref (t + 383)), (3, .int (nI i))] [] bc bz W K := by
  obtain ⟨w1, w2, hI, hM, hJ, hs, hp, hb, bt, ro, iL, LL, hN, hC⟩ := h
  have ro1 : ∀ W1, Fr W W1 t 383 → jx_ro W1 b L xs := fun W1 hf => (hf.2.2 b (by omega)).trans ((w2 b bt).trans ro)
  have ob1 : ∀ W1, Fr W W1 t 383 → ∃ fs, jx_ob W1 (t + 383) 8 fs := fun W1 hf => ⟨_, hM.fr hf (by omega) 0 (by decide)⟩
  have v1 : vp_in (nI i + 1) L := by rw [nI_1]; exact vp_in_nI (by omega) (by omega)
  have v2 : vp_in (nI i + 2) L := by rw [lit_2, nI_add]; exact vp_in_nI (by omega) (by omega)
  have rf : Fr W W t 383 := Fr.rf
  have hA := au_ok hs.1
  have h40 : bs.length ≤ 40 := hJ.1.2.2.2.1.2.1
  have hsu := stI_up hs
  have hpu : ∀ p ∈ past, stI p (N + 49920) := fun p h => stI_up (hp p h)
  have hpr : ∀ p ∈ aPast past s, stI p (N + 49920) := past_I hpu hsu
  refine b_L_law_17 ⟨L, xs, ro1 W rf, v1, L, xs, ro1 W rf, v2, TI_ob hI, ?_⟩
  refine c_find hI (by have := hs.2.2.2.1; omega) ⟨_, rfl, L, xs, ro1 W rf, v1, L, xs, ro1 W rf, v2, ob1 W rf, mcall (mod_eq hM rf) ?_⟩
  exact f_find hJ.1.1 ⟨_, rfl, fun _ => hC _ (LQ_of w1 w2 rf hI hJ (by omega) hsu hpu hb), fun z => absurd rfl z⟩
theorem law_told (h : LH w W t N b L xs i bc bz s past bs c r P K) : zwp n_L_law 18 [(0, .ref b), (1, .ref t), (2, .ref (t + 383)), (3, .int (nI i))] [] bc bz W K := by
  obtain ⟨w1, w2, hI, hM, hJ, hs, hp, hb, bt, ro, iL, LL, hN, hC⟩ := h
  have ro1 : ∀ W1, Fr W W1 t 383 → jx_ro W1 b L xs := fun W1 hf => (hf.2.2 b (by omega)).trans ((w2 b bt).trans ro)
  have ob1 : ∀ W1, Fr W W1 t 383 → ∃ fs, jx_ob W1 (t + 383) 8 fs := fun W1 hf => ⟨_, hM.fr hf (by omega) 0 (by decide)⟩
  have v1 : vp_in (nI i + 1) L := by rw [nI_1]; exact vp_in_nI (by omega) (by omega)
  have v2 : vp_in (nI i + 2) L := by rw [lit_2, nI_add]; exact vp_in_nI (by omega) (by omega)
  have rf : Fr W W t 383 := Fr.rf
  have hA := au_ok hs.1
  have h40 : bs.length ≤ 40 := hJ.1.2.2.2.1.2.1
  have hsu := stI_up hs
  have hpu : ∀ p ∈ past, stI p (N + 49920) := fun p h => stI_up (hp p h)
  have hpr : ∀ p ∈ aPast past s, stI p (N + 49920) := past_I hpu hsu
  refine b_L_law_18 ⟨L, xs, ro1 W rf, v1, TI_ob hI, ?_⟩
  refine c_told hI (by have := hs.2.2.2.1; omega) ⟨_, rfl, L, xs, ro1 W rf, v1, ob1 W rf, mcall (mod_eq hM rf) ?_⟩
  exact f_told hJ.1 ⟨_, rfl, fun _ => hC _ (LQ_of w1 w2 rf hI hJ (by omega) hsu hpu hb), fun z => absurd rfl z⟩
theorem law_digest (h : LH w W t N b L xs i bc bz s past bs c r P K) : zwp n_L_law 24 [(0, .ref b), (1, .ref t), (2, .ref (t + 383)), (3, .int (nI i))] [] bc bz W K := by
  obtain ⟨w1, w2, hI, hM, hJ, hs, hp, hb, bt, ro, iL, LL, hN, hC⟩ := h
  have ro1 : ∀ W1, Fr W W1 t 383 → jx_ro W1 b L xs := fun W1 hf => (hf.2.2 b (by omega)).trans ((w2 b bt).trans ro)
  have ob1 : ∀ W1, Fr W W1 t 383 → ∃ fs, jx_ob W1 (t + 383) 8 fs := fun W1 hf => ⟨_, hM.fr hf (by omega) 0 (by decide)⟩
  have v1 : vp_in (nI i + 1) L := by rw [nI_1]; exact vp_in_nI (by omega) (by omega)
  have v2 : vp_in (nI i + 2) L := by rw [lit_2, nI_add]; exact vp_in_nI (by omega) (by omega)
  have rf : Fr W W t 383 := Fr.rf
  have hA := au_ok hs.1
  have h40 : bs.length ≤ 40 := hJ.1.2.2.2.1.2.1
  have hsu := stI_up hs
  have hpu : ∀ p ∈ past, stI p (N + 49920) := fun p h => stI_up (hp p h)
  have hpr : ∀ p ∈ aPast past s, stI p (N + 49920) := past_I hpu hsu
  refine b_L_law_24 ⟨TI_ob hI, ?_⟩
  refine c_digest hI hs (by omega) ⟨_, rfl, ob1 W rf, mcall (mod_eq hM rf) ?_⟩
  exact f_digest hJ hs.ok hs.1 hs.rd (fun c' k => ⟨_, rfl, fun _ => hC _ (LQ_of w1 w2 rf hI k (by omega) hsu hpu hb), fun z => absurd (by rw [lg_cmp_eq]) z⟩)
theorem law_clear (h : LH w W t N b L xs i bc bz s past bs c r P K) : zwp n_L_law 3 [(0, .ref b), (1, .ref t), (2, .ref (t + 383)), (3, .int (nI i))] [] bc bz W K := by
  obtain ⟨w1, w2, hI, hM, hJ, hs, hp, hb, bt, ro, iL, LL, hN, hC⟩ := h
  have ro1 : ∀ W1, Fr W W1 t 383 → jx_ro W1 b L xs := fun W1 hf => (hf.2.2 b (by omega)).trans ((w2 b bt).trans ro)
  have ob1 : ∀ W1, Fr W W1 t 383 → ∃ fs, jx_ob W1 (t + 383) 8 fs := fun W1 hf => ⟨_, hM.fr hf (by omega) 0 (by decide)⟩
  have v1 : vp_in (nI i + 1) L := by rw [nI_1]; exact vp_in_nI (by omega) (by omega)
  have v2 : vp_in (nI i + 2) L := by rw [lit_2, nI_add]; exact vp_in_nI (by omega) (by omega)
  have rf : Fr W W t 383 := Fr.rf
  have hA := au_ok hs.1
  have h40 : bs.length ≤ 40 := hJ.1.2.2.2.1.2.1
  have hsu := stI_up hs
  have hpu : ∀ p ∈ past, stI p (N + 49920) := fun p h => stI_up (hp p h)
  have hpr : ∀ p ∈ aPast past s, stI p (N + 49920) := past_I hpu hsu
  refine b_L_law_3 ⟨TI_ob hI, ?_⟩
  refine c_clear hI (fun W1 hI1 hf => ⟨_, rfl, ob1 W1 hf, mcall (mod_eq hM hf) ?_⟩)
  exact f_clear hJ.1 (fun c' k => ⟨_, rfl, fun _ => hC _ (LQ_of w1 w2 hf hI1 (MJ_of k hJ.2 rfl (fun _ _ _ => rfl)) (by omega) hsu hpu (fun b hb => (by cases hb))), fun z => absurd rfl z⟩)
theorem law_type (h : LH w W t N b L xs i bc bz s past bs c r P K) : zwp n_L_law 2 [(0, .ref b), (1, .ref t), (2, .ref (t + 383)), (3, .int (nI i))] [] bc bz W K := by
  obtain ⟨w1, w2, hI, hM, hJ, hs, hp, hb, bt, ro, iL, LL, hN, hC⟩ := h
  have ro1 : ∀ W1, Fr W W1 t 383 → jx_ro W1 b L xs := fun W1 hf => (hf.2.2 b (by omega)).trans ((w2 b bt).trans ro)
  have ob1 : ∀ W1, Fr W W1 t 383 → ∃ fs, jx_ob W1 (t + 383) 8 fs := fun W1 hf => ⟨_, hM.fr hf (by omega) 0 (by decide)⟩
  have v1 : vp_in (nI i + 1) L := by rw [nI_1]; exact vp_in_nI (by omega) (by omega)
  have v2 : vp_in (nI i + 2) L := by rw [lit_2, nI_add]; exact vp_in_nI (by omega) (by omega)
  have rf : Fr W W t 383 := Fr.rf
  have hA := au_ok hs.1
  have h40 : bs.length ≤ 40 := hJ.1.2.2.2.1.2.1
  have hsu := stI_up hs
  have hpu : ∀ p ∈ past, stI p (N + 49920) := fun p h => stI_up (hp p h)
  have hpr : ∀ p ∈ aPast past s, stI p (N + 49920) := past_I hpu hsu
  refine b_L_law_2 ⟨L, xs, ro1 W rf, v1, TI_ob hI, ?_⟩
  refine c_type hI (fun h => ⟨_, rfl, L, xs, ro1 W rf, v1, ob1 W rf, mcall (mod_eq hM rf) ?_⟩) (fun a e => ⟨_, rfl, L, xs, ro1 W rf, v1, ob1 W rf, mcall (mod_eq hM rf) ?_⟩) (fun a e W1 hI1 hf => ⟨_, rfl, L, xs, ro1 W1 hf, v1, ob1 W1 hf, mcall (mod_eq hM hf) ?_⟩)
  · exact f_type hJ.1 (fun _ => ⟨_, rfl, fun _ => hC _ (LQ_of w1 w2 rf hI hJ (by omega) hsu hpu hb), fun z => absurd rfl z⟩) (fun a _ => absurd a h) (fun a _ => absurd a h)
  · exact f_type hJ.1 (fun h => absurd a h) (fun _ _ => ⟨_, rfl, fun _ => hC _ (LQ_of w1 w2 rf hI hJ (by omega) hsu hpu hb), fun z => absurd rfl z⟩) (fun _ h => absurd h (by omega))
  · refine f_type hJ.1 (fun h => absurd a h) (fun _ h => absurd h (by omega)) (fun _ _ c' r' k er => ⟨_, rfl, fun _ => hC _ (LQ_of w1 w2 hf hI1 (MJ_of k hJ.2 rfl (fun j h5 h11 => er j (by omega))) (by omega) hsu hpu ?_), fun z => absurd rfl z⟩)
    intro x hx
    rcases List.mem_append.mp hx with hx | hx
    · exact hb x hx
    · rw [List.mem_singleton.mp hx]
      obtain ⟨o, ho, eo⟩ := rng_nI (hi := 126) (by decide) ⟨Int32.le_trans (by decide) a.1, a.2⟩
      rw [eo] at a ⊢
      exact ⟨o, rfl, (nI_leI (a := 32) (by decide) (by omega)).mp a.1, ho⟩
theorem law_define (h : LH w W t N b L xs i bc bz s past bs c r P K) : zwp n_L_law 4 [(0, .ref b), (1, .ref t), (2, .ref (t + 383)), (3, .int (nI i))] [] bc bz W K := by
  obtain ⟨w1, w2, hI, hM, hJ, hs, hp, hb, bt, ro, iL, LL, hN, hC⟩ := h
  have ro1 : ∀ W1, Fr W W1 t 383 → jx_ro W1 b L xs := fun W1 hf => (hf.2.2 b (by omega)).trans ((w2 b bt).trans ro)
  have ob1 : ∀ W1, Fr W W1 t 383 → ∃ fs, jx_ob W1 (t + 383) 8 fs := fun W1 hf => ⟨_, hM.fr hf (by omega) 0 (by decide)⟩
  have v1 : vp_in (nI i + 1) L := by rw [nI_1]; exact vp_in_nI (by omega) (by omega)
  have v2 : vp_in (nI i + 2) L := by rw [lit_2, nI_add]; exact vp_in_nI (by omega) (by omega)
  have rf : Fr W W t 383 := Fr.rf
  have hA := au_ok hs.1
  have h40 : bs.length ≤ 40 := hJ.1.2.2.2.1.2.1
  have hsu := stI_up hs
  have hpu : ∀ p ∈ past, stI p (N + 49920) := fun p h => stI_up (hp p h)
  have hpr : ∀ p ∈ aPast past s, stI p (N + 49920) := past_I hpu hsu
  refine b_L_law_4 ⟨L, xs, ro1 W rf, v1, TI_ob hI, ?_⟩
  refine c_define hI hs.1 (fun h => ⟨_, rfl, L, xs, ro1 W rf, v1, ob1 W rf, mcall (mod_eq hM rf) ?_⟩) (fun k a e => ⟨_, rfl, L, xs, ro1 W rf, v1, ob1 W rf, mcall (mod_eq hM rf) ?_⟩) (fun v hv ex en W1 hI1 hf => ⟨_, rfl, L, xs, ro1 W1 hf, v1, ob1 W1 hf, mcall (mod_eq hM hf) ?_⟩)
  · exact f_define hJ hs.1 (fun _ => ⟨_, rfl, fun _ => hC _ (LQ_of w1 w2 rf hI hJ (by omega) hsu hpu hb), fun z => absurd rfl z⟩) (fun k a _ => absurd a h) (fun v hv ex _ => absurd (by rw [ex]; exact rng5 hv) h)
  · refine f_define hJ hs.1 (fun h => absurd a h) (fun k' _ e' => ?_) (fun v _ _ e' => absurd (e.symm.trans e') (by simp))
    have ek := e.symm.trans e'
    cases ek
    exact ⟨_, rfl, fun _ => hC _ (LQ_of w1 w2 rf hI hJ (by omega) hsu hpu hb), fun z => absurd rfl z⟩
  · refine f_define hJ hs.1 (fun h => absurd (by rw [ex]; exact rng5 hv) h) (fun k _ e => absurd (en.symm.trans e) (by simp)) (fun v' hv' ex' _ c' r' P' k er => ?_)
    have ev : v' = v := (nI_eq (by omega) (by omega)).mp (ex'.symm.trans ex)
    subst ev
    exact ⟨_, rfl, fun _ => hC _ (LQ_of w1 w2 hf hI1 k (by omega) (stI_up (hs.others (wdOk_def hs.1 en))) hpr hb), fun z => absurd rfl z⟩
theorem law_forget (h : LH w W t N b L xs i bc bz s past bs c r P K) : zwp n_L_law 5 [(0, .ref b), (1, .ref t), (2, .ref (t + 383)), (3, .int (nI i))] [] bc bz W K := by
  obtain ⟨w1, w2, hI, hM, hJ, hs, hp, hb, bt, ro, iL, LL, hN, hC⟩ := h
  have ro1 : ∀ W1, Fr W W1 t 383 → jx_ro W1 b L xs := fun W1 hf => (hf.2.2 b (by omega)).trans ((w2 b bt).trans ro)
  have ob1 : ∀ W1, Fr W W1 t 383 → ∃ fs, jx_ob W1 (t + 383) 8 fs := fun W1 hf => ⟨_, hM.fr hf (by omega) 0 (by decide)⟩
  have v1 : vp_in (nI i + 1) L := by rw [nI_1]; exact vp_in_nI (by omega) (by omega)
  have v2 : vp_in (nI i + 2) L := by rw [lit_2, nI_add]; exact vp_in_nI (by omega) (by omega)
  have rf : Fr W W t 383 := Fr.rf
  have hA := au_ok hs.1
  have h40 : bs.length ≤ 40 := hJ.1.2.2.2.1.2.1
  have hsu := stI_up hs
  have hpu : ∀ p ∈ past, stI p (N + 49920) := fun p h => stI_up (hp p h)
  have hpr : ∀ p ∈ aPast past s, stI p (N + 49920) := past_I hpu hsu
  refine b_L_law_5 ⟨L, xs, ro1 W rf, v1, TI_ob hI, ?_⟩
  refine c_forget hI hs.1 (fun h => ⟨_, rfl, L, xs, ro1 W rf, v1, ob1 W rf, mcall (mod_eq hM rf) ?_⟩) (fun v hv ex e0 => ⟨_, rfl, L, xs, ro1 W rf, v1, ob1 W rf, mcall (mod_eq hM rf) ?_⟩) (fun v hv ex en W1 hI1 hf => ⟨_, rfl, L, xs, ro1 W1 hf, v1, ob1 W1 hf, mcall (mod_eq hM hf) ?_⟩)
  · exact f_forget hJ hs.1 (fun _ => ⟨_, rfl, fun _ => hC _ (LQ_of w1 w2 rf hI hJ (by omega) hsu hpu hb), fun z => absurd rfl z⟩) (fun v hv ex _ => absurd (by rw [ex]; exact rng5 hv) h) (fun v hv ex _ => absurd (by rw [ex]; exact rng5 hv) h)
  · refine f_forget hJ hs.1 (fun h => absurd (by rw [ex]; exact rng5 hv) h) (fun v' _ _ _ => ⟨_, rfl, fun _ => hC _ (LQ_of w1 w2 rf hI hJ (by omega) hsu hpu hb), fun z => absurd rfl z⟩) (fun v' hv' ex' e' => ?_)
    have ev : v' = v := (nI_eq (by omega) (by omega)).mp (ex'.symm.trans ex)
    subst ev
    exact absurd e0 e'
  · refine f_forget hJ hs.1 (fun h => absurd (by rw [ex]; exact rng5 hv) h) (fun v' hv' ex' e' => ?_) (fun v' hv' ex' _ c' r' P' k er => ?_)
    · have ev : v' = v := (nI_eq (by omega) (by omega)).mp (ex'.symm.trans ex)
      subst ev
      exact absurd e' en
    · have ev : v' = v := (nI_eq (by omega) (by omega)).mp (ex'.symm.trans ex)
      subst ev
      exact ⟨_, rfl, fun _ => hC _ (LQ_of w1 w2 hf hI1 k (by omega) (stI_up (hs.others (wdOk_for hs.1))) hpr hb), fun z => absurd rfl z⟩
theorem law_segment (h : LH w W t N b L xs i bc bz s past bs c r P K) : zwp n_L_law 10 [(0, .ref b), (1, .ref t), (2, .ref (t + 383)), (3, .int (nI i))] [] bc bz W K := by
  obtain ⟨w1, w2, hI, hM, hJ, hs, hp, hb, bt, ro, iL, LL, hN, hC⟩ := h
  have ro1 : ∀ W1, Fr W W1 t 383 → jx_ro W1 b L xs := fun W1 hf => (hf.2.2 b (by omega)).trans ((w2 b bt).trans ro)
  have ob1 : ∀ W1, Fr W W1 t 383 → ∃ fs, jx_ob W1 (t + 383) 8 fs := fun W1 hf => ⟨_, hM.fr hf (by omega) 0 (by decide)⟩
  have v1 : vp_in (nI i + 1) L := by rw [nI_1]; exact vp_in_nI (by omega) (by omega)
  have v2 : vp_in (nI i + 2) L := by rw [lit_2, nI_add]; exact vp_in_nI (by omega) (by omega)
  have rf : Fr W W t 383 := Fr.rf
  have hA := au_ok hs.1
  have h40 : bs.length ≤ 40 := hJ.1.2.2.2.1.2.1
  have hsu := stI_up hs
  have hpu : ∀ p ∈ past, stI p (N + 49920) := fun p h => stI_up (hp p h)
  have hpr : ∀ p ∈ aPast past s, stI p (N + 49920) := past_I hpu hsu
  refine b_L_law_10 ⟨L, xs, ro1 W rf, v1, L, xs, ro1 W rf, v2, TI_ob hI, ?_⟩
  refine c_segment hI hs (by omega) hb (fun h => ⟨_, rfl, L, xs, ro1 W rf, v1, L, xs, ro1 W rf, v2, ob1 W rf, mcall (mod_eq hM rf) ?_⟩) (fun e W1 o eo ho hI1 hf => ⟨_, rfl, L, xs, ro1 W1 hf, v1, L, xs, ro1 W1 hf, v2, ob1 W1 hf, mcall (mod_eq hM hf) ?_⟩)
  · exact f_segment hJ.1 hs.ok hA hb (fun _ => ⟨_, rfl, fun _ => hC _ (LQ_of w1 w2 rf hI hJ (by omega) hsu hpu hb), fun z => absurd rfl z⟩) (fun e => absurd e h)
  · refine f_segment hJ.1 hs.ok hA hb (fun h => absurd e h) (fun _ c' P' o' eo' ho' k => ?_)
    have ev : o' = o := (nI_eq (by omega) (by omega)).mp (eo'.symm.trans eo)
    subst ev
    obtain ⟨o2, eo2, ho2, hp2, h6⟩ := aWrong_0 hs hb h40 e
    have ev2 : o2 = o' := (nI_eq (by omega) (by omega)).mp (eo2.symm.trans eo')
    subst ev2
    exact ⟨_, rfl, fun _ => hC _ (LQ_of w1 w2 hf hI1 (MJ_of k hJ.2 rfl (fun _ _ _ => rfl)) (by omega) ((hs.seg h6 hp2).mono (by omega)) hpr hb), fun z => absurd rfl z⟩
theorem law_ifSegment (h : LH w W t N b L xs i bc bz s past bs c r P K) : zwp n_L_law 19 [(0, .ref b), (1, .ref t), (2, .ref (t + 383)), (3, .int (nI i))] [] bc bz W K := by
  obtain ⟨w1, w2, hI, hM, hJ, hs, hp, hb, bt, ro, iL, LL, hN, hC⟩ := h
  have ro1 : ∀ W1, Fr W W1 t 383 → jx_ro W1 b L xs := fun W1 hf => (hf.2.2 b (by omega)).trans ((w2 b bt).trans ro)
  have ob1 : ∀ W1, Fr W W1 t 383 → ∃ fs, jx_ob W1 (t + 383) 8 fs := fun W1 hf => ⟨_, hM.fr hf (by omega) 0 (by decide)⟩
  have v1 : vp_in (nI i + 1) L := by rw [nI_1]; exact vp_in_nI (by omega) (by omega)
  have v2 : vp_in (nI i + 2) L := by rw [lit_2, nI_add]; exact vp_in_nI (by omega) (by omega)
  have rf : Fr W W t 383 := Fr.rf
  have hA := au_ok hs.1
  have h40 : bs.length ≤ 40 := hJ.1.2.2.2.1.2.1
  have hsu := stI_up hs
  have hpu : ∀ p ∈ past, stI p (N + 49920) := fun p h => stI_up (hp p h)
  have hpr : ∀ p ∈ aPast past s, stI p (N + 49920) := past_I hpu hsu
  refine b_L_law_19 ⟨L, xs, ro1 W rf, v1, L, xs, ro1 W rf, v2, TI_ob hI, ?_⟩
  refine c_ifSegment hI hs (by omega) hb (fun h => ⟨_, rfl, L, xs, ro1 W rf, v1, L, xs, ro1 W rf, v2, ob1 W rf, mcall (mod_eq hM rf) ?_⟩) (fun e W1 o eo ho hI1 hf => ⟨_, rfl, L, xs, ro1 W1 hf, v1, L, xs, ro1 W1 hf, v2, ob1 W1 hf, mcall (mod_eq hM hf) ?_⟩)
  · exact f_ifSegment hJ.1 hs.ok hA hb (fun _ => ⟨_, rfl, fun _ => hC _ (LQ_of w1 w2 rf hI hJ (by omega) hsu hpu hb), fun z => absurd rfl z⟩) (fun e => absurd e h)
  · refine f_ifSegment hJ.1 hs.ok hA hb (fun h => absurd e h) (fun _ c' P' o' eo' ho' k => ?_)
    have ev : o' = o := (nI_eq (by omega) (by omega)).mp (eo'.symm.trans eo)
    subst ev
    exact ⟨_, rfl, fun _ => hC _ (LQ_of w1 w2 hf hI1 (MJ_of k hJ.2 rfl (fun _ _ _ => rfl)) (by omega) hsu hpu hb), fun z => absurd rfl z⟩
theorem law_finish (h : LH w W t N b L xs i bc bz s past bs c r P K) : zwp n_L_law 11 [(0, .ref b), (1, .ref t), (2, .ref (t + 383)), (3, .int (nI i))] [] bc bz W K := by
  obtain ⟨w1, w2, hI, hM, hJ, hs, hp, hb, bt, ro, iL, LL, hN, hC⟩ := h
  have ro1 : ∀ W1, Fr W W1 t 383 → jx_ro W1 b L xs := fun W1 hf => (hf.2.2 b (by omega)).trans ((w2 b bt).trans ro)
  have ob1 : ∀ W1, Fr W W1 t 383 → ∃ fs, jx_ob W1 (t + 383) 8 fs := fun W1 hf => ⟨_, hM.fr hf (by omega) 0 (by decide)⟩
  have v1 : vp_in (nI i + 1) L := by rw [nI_1]; exact vp_in_nI (by omega) (by omega)
  have v2 : vp_in (nI i + 2) L := by rw [lit_2, nI_add]; exact vp_in_nI (by omega) (by omega)
  have rf : Fr W W t 383 := Fr.rf
  have hA := au_ok hs.1
  have h40 : bs.length ≤ 40 := hJ.1.2.2.2.1.2.1
  have hsu := stI_up hs
  have hpu : ∀ p ∈ past, stI p (N + 49920) := fun p h => stI_up (hp p h)
  have hpr : ∀ p ∈ aPast past s, stI p (N + 49920) := past_I hpu hsu
  refine b_L_law_11 ⟨L, xs, ro1 W rf, v1, TI_ob hI, ?_⟩
  have h4 := hs.2.2.2.2
  refine c_finish hI hs (by omega) (fun h => ⟨_, rfl, L, xs, ro1 W rf, v1, ob1 W rf, mcall (mod_eq hM rf) ?_⟩) (fun j hj ej W1 hI1 hf => ⟨_, rfl, L, xs, ro1 W1 hf, v1, ob1 W1 hf, mcall (mod_eq hM hf) ?_⟩)
  · exact f_finish hJ.1 hs.ok hA (fun _ => ⟨_, rfl, fun _ => hC _ (LQ_of w1 w2 rf hI hJ (by omega) hsu hpu hb), fun z => absurd rfl z⟩) (fun j hj ej => absurd (by rw [ej]; exact (nI_leI (a := 0) (by decide) (by omega)).mpr (Nat.zero_le _)) h)
  · refine f_finish hJ.1 hs.ok hA (fun h => absurd (by rw [ej]; exact (nI_leI (a := 0) (by decide) (by omega)).mpr (Nat.zero_le _)) h) (fun j' hj' ej' c' P' k => ?_)
    have ev : j' = j := (nI_eq (by omega) (by omega)).mp (ej'.symm.trans ej)
    subst ev
    exact ⟨_, rfl, fun _ => hC _ (LQ_of w1 w2 hf hI1 (MJ_of k hJ.2 rfl (fun _ _ _ => rfl)) (by omega) ((hs.fin hj).mono (by omega)) hpr hb), fun z => absurd rfl z⟩
theorem law_replay (h : LH w W t N b L xs i bc bz s past bs c r P K) : zwp n_L_law 20 [(0, .ref b), (1, .ref t), (2, .ref (t + 383)), (3, .int (nI i))] [] bc bz W K := by
  obtain ⟨w1, w2, hI, hM, hJ, hs, hp, hb, bt, ro, iL, LL, hN, hC⟩ := h
  have ro1 : ∀ W1, Fr W W1 t 383 → jx_ro W1 b L xs := fun W1 hf => (hf.2.2 b (by omega)).trans ((w2 b bt).trans ro)
  have ob1 : ∀ W1, Fr W W1 t 383 → ∃ fs, jx_ob W1 (t + 383) 8 fs := fun W1 hf => ⟨_, hM.fr hf (by omega) 0 (by decide)⟩
  have v1 : vp_in (nI i + 1) L := by rw [nI_1]; exact vp_in_nI (by omega) (by omega)
  have v2 : vp_in (nI i + 2) L := by rw [lit_2, nI_add]; exact vp_in_nI (by omega) (by omega)
  have rf : Fr W W t 383 := Fr.rf
  have hA := au_ok hs.1
  have h40 : bs.length ≤ 40 := hJ.1.2.2.2.1.2.1
  have hsu := stI_up hs
  have hpu : ∀ p ∈ past, stI p (N + 49920) := fun p h => stI_up (hp p h)
  have hpr : ∀ p ∈ aPast past s, stI p (N + 49920) := past_I hpu hsu
  refine b_L_law_20 ⟨L, xs, ro1 W rf, v1, L, xs, ro1 W rf, v2, TI_ob hI, ?_⟩
  refine c_replay hI hs (by omega) (fun W1 hI1 hf => ⟨_, rfl, L, xs, ro1 W1 hf, v1, L, xs, ro1 W1 hf, v2, ob1 W1 hf, mcall (mod_eq hM hf) ?_⟩)
  exact f_replay hJ.1 hs.ok hA hs.rp (fun c' P' k => ⟨_, rfl, fun _ => hC _ (LQ_of w1 w2 hf hI1 (MJ_of k hJ.2 rfl (fun _ _ _ => rfl)) (by omega) hsu hpu hb), fun z => absurd rfl z⟩)
theorem law_evasions (h : LH w W t N b L xs i bc bz s past bs c r P K) : zwp n_L_law 21 [(0, .ref b), (1, .ref t), (2, .ref (t + 383)), (3, .int (nI i))] [] bc bz W K := by
  obtain ⟨w1, w2, hI, hM, hJ, hs, hp, hb, bt, ro, iL, LL, hN, hC⟩ := h
  have ro1 : ∀ W1, Fr W W1 t 383 → jx_ro W1 b L xs := fun W1 hf => (hf.2.2 b (by omega)).trans ((w2 b bt).trans ro)
  have ob1 : ∀ W1, Fr W W1 t 383 → ∃ fs, jx_ob W1 (t + 383) 8 fs := fun W1 hf => ⟨_, hM.fr hf (by omega) 0 (by decide)⟩
  have v1 : vp_in (nI i + 1) L := by rw [nI_1]; exact vp_in_nI (by omega) (by omega)
  have v2 : vp_in (nI i + 2) L := by rw [lit_2, nI_add]; exact vp_in_nI (by omega) (by omega)
  have rf : Fr W W t 383 := Fr.rf
  have hA := au_ok hs.1
  have h40 : bs.length ≤ 40 := hJ.1.2.2.2.1.2.1
  have hsu := stI_up hs
  have hpu : ∀ p ∈ past, stI p (N + 49920) := fun p h => stI_up (hp p h)
  have hpr : ∀ p ∈ aPast past s, stI p (N + 49920) := past_I hpu hsu
  refine b_L_law_21 ⟨L, xs, ro1 W rf, v1, TI_ob hI, ?_⟩
  refine c_evasions hI hs (by omega) (fun W1 hI1 hf => ⟨_, rfl, L, xs, ro1 W1 hf, v1, ob1 W1 hf, mcall (mod_eq hM hf) ?_⟩)
  exact f_evasions hJ.1 hs.ok hA hs.rp (fun c' P' k => ⟨_, rfl, fun _ => hC _ (LQ_of w1 w2 hf hI1 (MJ_of k hJ.2 rfl (fun _ _ _ => rfl)) (by omega) hsu hpu hb), fun z => absurd rfl z⟩)
theorem law_nearest (h : LH w W t N b L xs i bc bz s past bs c r P K) : zwp n_L_law 22 [(0, .ref b), (1, .ref t), (2, .ref (t + 383)), (3, .int (nI i))] [] bc bz W K := by
  obtain ⟨w1, w2, hI, hM, hJ, hs, hp, hb, bt, ro, iL, LL, hN, hC⟩ := h
  have ro1 : ∀ W1, Fr W W1 t 383 → jx_ro W1 b L xs := fun W1 hf => (hf.2.2 b (by omega)).trans ((w2 b bt).trans ro)
  have ob1 : ∀ W1, Fr W W1 t 383 → ∃ fs, jx_ob W1 (t + 383) 8 fs := fun W1 hf => ⟨_, hM.fr hf (by omega) 0 (by decide)⟩
  have v1 : vp_in (nI i + 1) L := by rw [nI_1]; exact vp_in_nI (by omega) (by omega)
  have v2 : vp_in (nI i + 2) L := by rw [lit_2, nI_add]; exact vp_in_nI (by omega) (by omega)
  have rf : Fr W W t 383 := Fr.rf
  have hA := au_ok hs.1
  have h40 : bs.length ≤ 40 := hJ.1.2.2.2.1.2.1
  have hsu := stI_up hs
  have hpu : ∀ p ∈ past, stI p (N + 49920) := fun p h => stI_up (hp p h)
  have hpr : ∀ p ∈ aPast past s, stI p (N + 49920) := past_I hpu hsu
  refine b_L_law_22 ⟨L, xs, ro1 W rf, v1, TI_ob hI, ?_⟩
  have h4 := hs.2.2.2.2
  refine c_nearest hI hs.ok hs.1 (fun h => ⟨_, rfl, L, xs, ro1 W rf, v1, ob1 W rf, mcall (mod_eq hM rf) ?_⟩) (fun j x hj ej hx => ⟨_, rfl, L, xs, ro1 W rf, v1, ob1 W rf, mcall (mod_eq hM rf) ?_⟩)
  · exact f_nearest hJ hs.ok hs.1 (fun _ => ⟨_, rfl, fun _ => hC _ (LQ_of w1 w2 rf hI hJ (by omega) hsu hpu hb), fun z => absurd rfl z⟩) (fun j x hj ej => absurd (by rw [ej]; exact (nI_leI (a := 0) (by decide) (by omega)).mpr (Nat.zero_le _)) h)
  · refine f_nearest hJ hs.ok hs.1 (fun h => absurd (by rw [ej]; exact (nI_leI (a := 0) (by decide) (by omega)).mpr (Nat.zero_le _)) h) (fun j' x' hj' ej' hx' r' k er => ?_)
    have ev : j' = j := (nI_eq (by omega) (by omega)).mp (ej'.symm.trans ej)
    subst ev
    have ex : x' = x := isNear_inj hx' hx
    subst ex
    exact ⟨_, rfl, fun _ => hC _ (LQ_of w1 w2 rf hI k (by omega) hsu hpu hb), fun z => absurd rfl z⟩
theorem law_undo (h : LH w W t N b L xs i bc bz s past bs c r P K) : zwp n_L_law 23 [(0, .ref b), (1, .ref t), (2, .ref (t + 383)), (3, .int (nI i))] [] bc bz W K := by
  obtain ⟨w1, w2, hI, hM, hJ, hs, hp, hb, bt, ro, iL, LL, hN, hC⟩ := h
  have ro1 : ∀ W1, Fr W W1 t 383 → jx_ro W1 b L xs := fun W1 hf => (hf.2.2 b (by omega)).trans ((w2 b bt).trans ro)
  have ob1 : ∀ W1, Fr W W1 t 383 → ∃ fs, jx_ob W1 (t + 383) 8 fs := fun W1 hf => ⟨_, hM.fr hf (by omega) 0 (by decide)⟩
  have v1 : vp_in (nI i + 1) L := by rw [nI_1]; exact vp_in_nI (by omega) (by omega)
  have v2 : vp_in (nI i + 2) L := by rw [lit_2, nI_add]; exact vp_in_nI (by omega) (by omega)
  have rf : Fr W W t 383 := Fr.rf
  have hA := au_ok hs.1
  have h40 : bs.length ≤ 40 := hJ.1.2.2.2.1.2.1
  have hsu := stI_up hs
  have hpu : ∀ p ∈ past, stI p (N + 49920) := fun p h => stI_up (hp p h)
  have hpr : ∀ p ∈ aPast past s, stI p (N + 49920) := past_I hpu hsu
  refine b_L_law_23 ⟨TI_ob hI, ?_⟩
  refine c_undo hI hs.1 (fun p h => (hp p h).1) (fun h => ⟨_, rfl, ob1 W rf, mcall (mod_eq hM rf) ?_⟩) (fun h W1 hI1 hf => ⟨_, rfl, ob1 W1 hf, mcall (mod_eq hM hf) ?_⟩)
  · exact f_undo hJ (fun p h => (hp p h).1) (fun _ => ⟨_, rfl, fun _ => hC _ (LQ_of w1 w2 rf hI hJ (by omega) hsu hpu hb), fun z => absurd rfl z⟩) (fun e => absurd h e)
  · refine f_undo hJ (fun p h => (hp p h).1) (fun e => absurd e h) (fun _ c' r' P' k er => ⟨_, rfl, fun _ => hC _ (LQ_of w1 w2 hf hI1 k (by omega) (hpu _ ?_) (fun p h => hpu p (List.dropLast_subset _ h)) hb), fun z => absurd rfl z⟩)
    unfold pGet
    rw [List.getD_eq_getElem?_getD, List.getElem?_eq_getElem (by omega)]
    exact List.getElem_mem _
theorem law_set (q0 : ∃ f, jx_ro w (w.2.1 0) 3 f ∧ f 0 = 0 ∧ f 1 = 0 ∧ f 2 = 1) (q1 : ∃ f, jx_ro w (w.2.1 1) 3 f ∧ f 0 = 3 ∧ f 1 = 15 ∧ f 2 = 40) (y0 : w.2.1 0 < t) (y1 : w.2.1 1 < t) (h : LH w W t N b L xs i bc bz s past bs c r P K) : zwp n_L_law 9 [(0, .ref b), (1, .ref t), (2, .ref (t + 383)), (3, .int (nI i))] [] bc bz W K := by
  obtain ⟨w1, w2, hI, hM, hJ, hs, hp, hb, bt, ro, iL, LL, hN, hC⟩ := h
  have ro1 : ∀ W1, Fr W W1 t 383 → jx_ro W1 b L xs := fun W1 hf => (hf.2.2 b (by omega)).trans ((w2 b bt).trans ro)
  have ob1 : ∀ W1, Fr W W1 t 383 → ∃ fs, jx_ob W1 (t + 383) 8 fs := fun W1 hf => ⟨_, hM.fr hf (by omega) 0 (by decide)⟩
  have v1 : vp_in (nI i + 1) L := by rw [nI_1]; exact vp_in_nI (by omega) (by omega)
  have v2 : vp_in (nI i + 2) L := by rw [lit_2, nI_add]; exact vp_in_nI (by omega) (by omega)
  have rf : Fr W W t 383 := Fr.rf
  have hA := au_ok hs.1
  have h40 : bs.length ≤ 40 := hJ.1.2.2.2.1.2.1
  have hsu := stI_up hs
  have hpu : ∀ p ∈ past, stI p (N + 49920) := fun p h => stI_up (hp p h)
  have hpr : ∀ p ∈ aPast past s, stI p (N + 49920) := past_I hpu hsu
  obtain ⟨lo, z0, a0, a1, a2⟩ := q0
  obtain ⟨hi, z1, b0, b1, b2⟩ := q1
  have z0' : jx_ro W (W.2.1 0) 3 lo := by rw [w1]; exact (w2 _ y0).trans z0
  have z1' : jx_ro W (W.2.1 1) 3 hi := by rw [w1]; exact (w2 _ y1).trans z1
  have e0 : ∀ k, k ≤ 2 → lo k = nI (setLo k) := fun k hk => by
    obtain rfl | rfl | rfl : k = 0 ∨ k = 1 ∨ k = 2 := by omega
    · exact a0
    · exact a1
    · exact a2
  have e1 : ∀ k, k ≤ 2 → hi k = nI (setHi k) := fun k hk => by
    obtain rfl | rfl | rfl : k = 0 ∨ k = 1 ∨ k = 2 := by omega
    · exact b0
    · exact b1
    · exact b2
  have sb : ∀ k, k ≤ 2 → setHi k ≤ 40 ∧ setLo k ≤ 1 := fun k hk => by
    obtain rfl | rfl | rfl : k = 0 ∨ k = 1 ∨ k = 2 := by omega
    · decide
    · decide
    · decide
  refine b_L_law_9 ⟨L, xs, ro1 W rf, v1, L, xs, ro1 W rf, v2, TI_ob hI, ?_⟩
  refine c_set hI z0' z1' e0 e1 (fun h => ⟨_, rfl, L, xs, ro1 W rf, v1, L, xs, ro1 W rf, v2, ob1 W rf, mcall (mod_eq hM rf) ?_⟩) (fun k v hk ey ex g1 g2 W1 hI1 hf => ⟨_, rfl, L, xs, ro1 W1 hf, v1, L, xs, ro1 W1 hf, v2, ob1 W1 hf, mcall (mod_eq hM hf) ?_⟩)
  · refine f_set hJ.1 (fun _ => ⟨_, rfl, fun _ => hC _ (LQ_of w1 w2 rf hI hJ (by omega) hsu hpu hb), fun z => absurd rfl z⟩) (fun k v hk ey ex g1 g2 => absurd ⟨k, hk, ey, ?_, ?_⟩ h)
    · have := sb k hk
      rw [ex]; exact (nI_leI (by omega) (by omega)).mpr g1
    · have := sb k hk
      rw [ex]; exact (nI_leI (by omega) (by omega)).mpr g2
  · have hsk := sb k hk
    refine f_set hJ.1 (fun h => absurd ⟨k, hk, ey, by rw [ex]; exact (nI_leI (by omega) (by omega)).mpr g1, by rw [ex]; exact (nI_leI (by omega) (by omega)).mpr g2⟩ h) (fun k' v' hk' ey' ex' g1' g2' c' P' kk => ?_)
    have hsk' := sb k' hk'
    have ev : k' = k := (nI_eq (by omega) (by omega)).mp (ey'.symm.trans ey)
    subst ev
    have ev : v' = v := (nI_eq (by omega) (by omega)).mp (ex'.symm.trans ex)
    subst ev
    exact ⟨_, rfl, fun _ => hC _ (LQ_of w1 w2 hf hI1 (MJ_of kk hJ.2 rfl (fun _ _ _ => rfl)) (by omega) (stI_up (hs.set hk g1 g2)) hpr hb), fun z => absurd rfl z⟩
end Law1
