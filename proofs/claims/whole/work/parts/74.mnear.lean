/-! THE MODEL: nearest(..) -/
/-- n can be reached from nd by k letters -/
def rch (A : aAU) (nd : Nat) : Nat → Nat → Prop
  | 0, n => n = nd
  | k + 1, n => ∃ m l, rch A nd k m ∧ l < 26 ∧ n = A.2.1 m l
def hit (A : aAU) (nd k : Nat) : Prop := ∃ n, rch A nd k n ∧ A.2.2.1 n ≠ 0
def isNear (A : aAU) (nd : Nat) : Option Nat → Prop
  | some k => 1 ≤ k ∧ hit A nd k ∧ ∀ j, 1 ≤ j → j < k → ¬ hit A nd j
  | none => ∀ j, 1 ≤ j → ¬ hit A nd j
theorem isNear_inj {A : aAU} {nd : Nat} {x y : Option Nat} (hx : isNear A nd x) (hy : isNear A nd y) : x = y := by
  cases x with
  | none =>
    cases y with
    | none => rfl
    | some k => exact absurd hy.2.1 (hx k hy.1)
  | some j =>
    cases y with
    | none => exact absurd hx.2.1 (hy j hx.1)
    | some k =>
      rcases Nat.lt_trichotomy j k with h | h | h
      · exact absurd hx.2.1 (hy.2.2 j hx.1 h)
      · rw [h]
      · exact absurd hy.2.1 (hx.2.2 k hy.1 h)
def cntP (p : Nat → Bool) : Nat → Nat
  | 0 => 0
  | n + 1 => cntP p n + (if p n then 1 else 0)
theorem cntP_le {p : Nat → Bool} : ∀ {n : Nat}, cntP p n ≤ n
  | 0 => Nat.le_refl _
  | n + 1 => by
    unfold cntP
    have := cntP_le (p := p) (n := n)
    split <;> omega
theorem cntP_congr {p p' : Nat → Bool} : ∀ {n : Nat}, (∀ k, k < n → p' k = p k) → cntP p' n = cntP p n
  | 0, _ => rfl
  | n + 1, h => by
    unfold cntP
    rw [cntP_congr (fun k hk => h k (by omega)), h n (by omega)]
theorem cntP_up {p p' : Nat → Bool} {t : Nat} : ∀ {n : Nat}, t < n → p t = false → p' t = true → (∀ k, k ≠ t → p' k = p k) → cntP p' n = cntP p n + 1
  | 0, h, _, _, _ => absurd h (by omega)
  | n + 1, h, h1, h2, h3 => by
    unfold cntP
    by_cases e : t = n
    · subst e
      rw [cntP_congr (fun k hk => h3 k (by omega)), h1, h2]; rfl
    · rw [cntP_up (by omega) h1 h2 h3, h3 n (by omega)]
      omega
/-- the search: far, line, how many lie in it; those before k are done, of the k-th the letters before l -/
def fk (L : List Nat) (far : Nat → Nat) (j : Nat) : Nat := if j = 0 then 0 else far (L.getD j 0)
def BF (A : aAU) (nd : Nat) (far : Nat → Nat) (L : List Nat) (k l : Nat) : Prop :=
  L.getD 0 0 = nd ∧ 1 ≤ L.length ∧ L.length = cntP (fun x => decide (far x ≠ 0) || decide (x = nd)) A.1 ∧ far nd = 0
  ∧ (∀ j, j < L.length → L.getD j 0 < A.1 ∧ (j ≠ 0 → 1 ≤ far (L.getD j 0) ∧ L.getD j 0 ≠ nd) ∧ rch A nd (fk L far j) (L.getD j 0))
  ∧ (∀ i j, i ≤ j → j < L.length → fk L far i ≤ fk L far j) ∧ (k < L.length → ∀ j, j < L.length → fk L far j ≤ fk L far k + 1)
  ∧ (∀ j m, j < L.length → (j < k ∨ (j = k ∧ m < l)) → m < 26 → A.2.2.1 (A.2.1 (L.getD j 0) m) = 0 ∧ ∃ i, i < L.length ∧ L.getD i 0 = A.2.1 (L.getD j 0) m ∧ fk L far i ≤ fk L far j + 1)
  ∧ (∀ x, x < A.1 → far x ≠ 0 → ∃ i, i < L.length ∧ L.getD i 0 = x) ∧ (∀ j, j < L.length → fk L far j ≤ j)
theorem BF_cov {A : aAU} {nd : Nat} {far : Nat → Nat} {L : List Nat} {k l : Nat} (h : BF A nd far L k l) (hk : k ≤ L.length) (M : Nat) (hM : ∀ j, j < L.length → fk L far j < M → j < k) : ∀ m n, m ≤ M → rch A nd m n → (∃ i, i < L.length ∧ L.getD i 0 = n ∧ fk L far i ≤ m) ∧ (1 ≤ m → A.2.2.1 n = 0) := by
  obtain ⟨h1, h2, h3, h4, h5, h6, h7, h8, h9, h10⟩ := h
  intro m
  induction m with
  | zero =>
    intro n _ hn
    refine ⟨⟨0, by omega, ?_, Nat.zero_le _⟩, fun z => absurd z (by decide)⟩
    rw [h1]; exact hn.symm
  | succ m ih =>
    intro n hm hn
    obtain ⟨n', c, r1, r2, r3⟩ := hn
    obtain ⟨⟨i, i1, i2, i3⟩, -⟩ := ih n' (by omega) r1
    have hik := hM i i1 (by omega)
    obtain ⟨g1, j, j1, j2, j3⟩ := h8 i c i1 (Or.inl hik) r2
    rw [i2, ← r3] at g1 j2
    exact ⟨⟨j, j1, j2, by omega⟩, fun _ => g1⟩
theorem BF_no {A : aAU} {nd : Nat} {far : Nat → Nat} {L : List Nat} {k l : Nat} (h : BF A nd far L k l) (hk : k < L.length) : ∀ j, 1 ≤ j → j < fk L far k + 1 → ¬ hit A nd j := fun j h1 h2 ⟨n, r1, r2⟩ => by
  have hmono := h.2.2.2.2.2.1
  exact r2 ((BF_cov h (by omega) (fk L far k) (fun i hi hlt => Nat.lt_of_not_le (fun z => by have := hmono k i z hi; omega)) j n (by omega) r1).2 h1)
theorem BF_end {A : aAU} {nd : Nat} {far : Nat → Nat} {L : List Nat} {l : Nat} (h : BF A nd far L L.length l) : isNear A nd none := fun j h1 ⟨n, r1, r2⟩ => r2 ((BF_cov h (Nat.le_refl _) j (fun i hi _ => hi) j n (Nat.le_refl _) r1).2 h1)
theorem getD_appL {L : List Nat} {t j : Nat} (h : j < L.length) : (L ++ [t]).getD j 0 = L.getD j 0 := by
  rw [List.getD_eq_getElem?_getD, List.getD_eq_getElem?_getD, List.getElem?_append_left h]
theorem getD_appE {L : List Nat} {t : Nat} : (L ++ [t]).getD L.length 0 = t := by
  rw [List.getD_eq_getElem?_getD, List.getElem?_append_right (Nat.le_refl _), Nat.sub_self]; rfl
theorem BF_skip {A : aAU} {nd : Nat} {far : Nat → Nat} {L : List Nat} {k l : Nat} (h : BF A nd far L k l) (hk : k < L.length) (hs : A.2.2.1 (A.2.1 (L.getD k 0) l) = 0) (hx : A.2.1 (L.getD k 0) l < A.1) (hin : far (A.2.1 (L.getD k 0) l) ≠ 0 ∨ A.2.1 (L.getD k 0) l = nd) : BF A nd far L k (l + 1) := by
  obtain ⟨h1, h2, h3, h4, h5, h6, h7, h8, h9, h10⟩ := h
  refine ⟨h1, h2, h3, h4, h5, h6, h7, fun j m j1 j2 j3 => ?_, h9, h10⟩
  by_cases e : j = k ∧ m = l
  · obtain ⟨rfl, rfl⟩ := e
    refine ⟨hs, ?_⟩
    rcases hin with hin | hin
    · obtain ⟨i, i1, i2⟩ := h9 _ hx hin
      exact ⟨i, i1, i2, h7 hk i i1⟩
    · exact ⟨0, by omega, by rw [h1, hin], Nat.zero_le _⟩
  · exact h8 j m j1 (by omega) j3
theorem BF_add {A : aAU} {nd : Nat} {far : Nat → Nat} {L : List Nat} {k l : Nat} (h : BF A nd far L k l) (hk : k < L.length) (hl : l < 26) (hs : A.2.2.1 (A.2.1 (L.getD k 0) l) = 0) (hx : A.2.1 (L.getD k 0) l < A.1) (h0 : far (A.2.1 (L.getD k 0) l) = 0) (hne : A.2.1 (L.getD k 0) l ≠ nd) : BF A nd (fun x => if x = A.2.1 (L.getD k 0) l then fk L far k + 1 else far x) (L ++ [A.2.1 (L.getD k 0) l]) k (l + 1) := by
  obtain ⟨h1, h2, h3, h4, h5, h6, h7, h8, h9, h10⟩ := h
  obtain ⟨t, ht⟩ : ∃ t, t = A.2.1 (L.getD k 0) l := ⟨_, rfl⟩
  rw [← ht] at hs hx h0 hne ⊢
  have hlen : (L ++ [t]).length = L.length + 1 := by rw [List.length_append]; rfl
  have hnt : ∀ j, j < L.length → L.getD j 0 ≠ t := fun j hj e => by
    by_cases e0 : j = 0
    · rw [e0, h1] at e; exact hne e.symm
    · have := ((h5 j hj).2.1 e0).1
      rw [e] at this; omega
  have ef : ∀ j, j < L.length → fk (L ++ [t]) (fun x => if x = t then fk L far k + 1 else far x) j = fk L far j := fun j hj => by
    unfold fk
    rw [getD_appL hj]
    by_cases e0 : j = 0
    · rw [if_pos e0, if_pos e0]
    · rw [if_neg e0, if_neg e0]
      exact if_neg (hnt j hj)
  have ee : fk (L ++ [t]) (fun x => if x = t then fk L far k + 1 else far x) L.length = fk L far k + 1 := by
    have : fk (L ++ [t]) (fun x => if x = t then fk L far k + 1 else far x) L.length = if (L ++ [t]).getD L.length 0 = t then fk L far k + 1 else far ((L ++ [t]).getD L.length 0) := if_neg (by omega)
    rw [this, getD_appE, if_pos rfl]
  refine ⟨by rw [getD_appL (by omega)]; exact h1, by omega, ?_, (if_neg (fun e => hne e.symm)).trans h4, fun j hj => ?_, fun i j hij hj => ?_, fun _ j hj => ?_, fun j m j1 j2 j3 => ?_, fun x x1 x2 => ?_, fun j hj => ?_⟩
  · rw [hlen, h3]
    refine (cntP_up (t := t) hx ?_ ?_ (fun x hx => ?_)).symm
    · simp [h0, hne]
    · simp
    · simp [hx]
  · rw [hlen] at hj
    by_cases e : j = L.length
    · subst e
      rw [getD_appE, ee]
      exact ⟨hx, fun _ => ⟨by simp, hne⟩, L.getD k 0, l, (h5 k hk).2.2, hl, ht⟩
    · rw [getD_appL (by omega), ef j (by omega)]
      obtain ⟨g1, g2, g3⟩ := h5 j (by omega)
      refine ⟨g1, fun j0 => ⟨?_, (g2 j0).2⟩, g3⟩
      show 1 ≤ if L.getD j 0 = t then fk L far k + 1 else far (L.getD j 0)
      rw [if_neg (hnt j (by omega))]
      exact (g2 j0).1
  · rw [hlen] at hj
    by_cases e : j = L.length
    · subst e
      rw [ee]
      by_cases e2 : i = L.length
      · rw [e2, ee]; omega
      · rw [ef i (by omega)]; exact h7 hk i (by omega)
    · rw [ef i (by omega), ef j (by omega)]
      exact h6 i j hij (by omega)
  · rw [hlen] at hj
    rw [ef k hk]
    by_cases e : j = L.length
    · subst e; rw [ee]; omega
    · rw [ef j (by omega)]; exact h7 hk j (by omega)
  · rw [hlen] at j1
    have j4 : j < L.length := by omega
    rw [getD_appL j4, ef j j4]
    by_cases e : j = k ∧ m = l
    · obtain ⟨rfl, rfl⟩ := e
      rw [← ht]
      exact ⟨hs, L.length, by omega, getD_appE, by rw [ee]; omega⟩
    · obtain ⟨g1, i, i1, i2, i3⟩ := h8 j m j4 (by omega) j3
      exact ⟨g1, i, by omega, by rw [getD_appL i1]; exact i2, by rw [ef i i1]; exact i3⟩
  · have x2 : (if x = t then fk L far k + 1 else far x) ≠ 0 := x2
    by_cases e : x = t
    · exact ⟨L.length, by omega, by rw [getD_appE, e]⟩
    · rw [if_neg e] at x2
      obtain ⟨i, i1, i2⟩ := h9 x x1 x2
      exact ⟨i, by omega, by rw [getD_appL i1]; exact i2⟩
  · rw [hlen] at hj
    by_cases e : j = L.length
    · subst e
      rw [ee]
      have := h10 k hk
      omega
    · rw [ef j (by omega)]; exact h10 j (by omega)
theorem BF_next {A : aAU} {nd : Nat} {far : Nat → Nat} {L : List Nat} {k : Nat} (h : BF A nd far L k 26) (hk : k < L.length) : BF A nd far L (k + 1) 0 := by
  obtain ⟨h1, h2, h3, h4, h5, h6, h7, h8, h9, h10⟩ := h
  refine ⟨h1, h2, h3, h4, h5, h6, fun e j hj => ?_, fun j m j1 j2 j3 => h8 j m j1 (by omega) j3, h9, h10⟩
  have := h6 k (k + 1) (by omega) e
  have := h7 hk j hj
  omega
section MNear
variable {w : jx_W} {q : Nat} {c : Nat → Int32} {r : Nat → Nat → Int32} {K : jx_Q} {A : aAU} {nd : Nat}
def r2w (r : Nat → Nat → Int32) (F L : Nat → Int32) : Nat → Nat → Int32 := fun j => if j = 15 then F else if j = 16 then L else r j
theorem r2_15 {F L : Nat → Int32} : r2w r F L 15 = F := rfl
theorem r2_16 {F L : Nat → Int32} : r2w r F L 16 = L := rfl
theorem r2_9 {F L : Nat → Int32} : r2w r F L 9 = r 9 := rfl
theorem r2_10 {F L : Nat → Int32} : r2w r F L 10 = r 10 := rfl
theorem r2_0 {F L : Nat → Int32} : r2w r F L 0 = r 0 := rfl
theorem r2_u15 {F L Y : Nat → Int32} : rup (r2w r F L) 15 Y = r2w r Y L := by
  funext j
  unfold rup r2w
  by_cases h : j = 15
  · subst h; rfl
  · simp only [h, if_false]
theorem r2_u16 {F L Y : Nat → Int32} : rup (r2w r F L) 16 Y = r2w r F Y := by
  funext j
  unfold rup r2w
  by_cases h : j = 16
  · subst h; rfl
  · simp only [h, if_false]
theorem r2_id : r2w r (r 15) (r 16) = r := by
  funext j
  unfold r2w
  by_cases h : j = 15
  · rw [if_pos h, h]
  · rw [if_neg h]
    by_cases h2 : j = 16
    · rw [if_pos h2, h2]
    · rw [if_neg h2]
/-- how far and line lie -/
def FLn (A : aAU) (far : Nat → Nat) (L : List Nat) (F Ln : Nat → Int32) : Prop := (∀ x, x < A.1 → F x = nI (far x)) ∧ ∀ j, j < L.length → Ln j = nI (L.getD j 0)
theorem f_near_in {k n : Nat} (hA : auOk A) (hm : MA c r A) (hK : ∀ x, isNear A nd (some x) → x < 1000 → ∀ F Ln, K (mw w q c (r2w r F Ln)) (some (.int (nI x)))) (hK2 : ∀ far L F Ln, BF A nd far L (k + 1) 0 → FLn A far L F Ln → (∀ x, far x < 100) → k < L.length → zwp n_M_nearest 10 [(0, .ref q), (3, .int (nI L.length)), (4, .int 0), (5, .int (nI k))] [] 0 0 (mw w q c (r2w r F Ln)) K) : ∀ (m l : Nat), l + m = 26 → ∀ far L F Ln, BF A nd far L k l → FLn A far L F Ln → (∀ x, far x < 100) → k < L.length → L.getD k 0 = n → fk L far k < 50 → zwp n_M_nearest 7 [(0, .ref q), (3, .int (nI L.length)), (4, .int 0), (5, .int (nI k)), (6, .int (nI n)), (7, .int (nI (fk L far k))), (8, .int (nI l))] [] 0 0 (mw w q c (r2w r F Ln)) K := by
  have h49 := hA.2.1
  intro m
  induction m with
  | zero =>
    intro l hl far L F Ln hB hF hf hk hn hs
    obtain rfl : l = 26 := by omega
    exact b_M_nearest_7 ⟨fun _ => hK2 far L F Ln (BF_next hB hk) hF hf hk, fun z => absurd (by decide) z⟩
  | succ m ih =>
    intro l hl far L F Ln hB hF hf hk hn hs
    have hnA : n < A.1 := by rw [← hn]; exact (hB.2.2.2.2.1 k hk).1
    have hx := hA.2.2.1 n l hnA (by omega)
    have hle : L.length ≤ A.1 := by rw [hB.2.2.1]; exact cntP_le
    have hs64 := hA.2.2.2.1 _ hx
    refine b_M_nearest_7 ⟨fun z => absurd ((nI_leI (a := 26) (by decide) (by omega)).mp z) (by omega), fun _ => ?_⟩
    simp only [and_assoc, exists_and_left, exists_eq_left, exists_eq_left', Option.some.injEq, Value.int.injEq, Value.ref.injEq, Value.long.injEq, true_and, and_true, exists_eq, exists_true_left, mw_ob, mw_ia0, mw_ia2, mw_ia5, mw_ia6, mw_ia7, mw_ia8, mw_ia9, mw_ia10, mw_ia11, mw_ia15, mw_ia16, mF_0, mF_1, mF_2, mF_3, mF_4, mF_5, mF_6, mF_7, mF_8, mF_9, mF_10, mF_11, mF_12, mF_13, mF_14, mF_15, mF_16, mF_len, mF_s1, mF_s3, mF_s4, mF_s12, mF_s13, mF_s14, mw_uob, mw_u0, mw_u2, mw_u5, mw_u6, mw_u7, mw_u8, mw_u9, mw_u10, mw_u11, mw_u15, mw_u16, Nat.reduceLT, r2_10, r2_9]
    rw [lit_26, pk_mul, nI_add, nI_clamp (by omega), hm.2.2 n l hnA (by omega), nI_clamp (by omega), hm.2.1 _ hx]
    refine ⟨vp_in_nI (by omega) (by decide), vp_in_nI (by omega) (by decide), fun z => b_M_nearest_8 ?_, fun z => ?_⟩
    · have z : A.2.2.1 (A.2.1 n l) = 0 := (nI_eq (by omega) (b := 0) (by decide)).mp z
      have e0 : Ln 0 = nI nd := (hF.2 0 hB.2.1).trans (by rw [hB.1])
      have hnd : nd < A.1 := by have := (hB.2.2.2.2.1 0 hB.2.1).1; rw [hB.1] at this; exact this
      have hfx := hf (A.2.1 n l)
      have skip : (far (A.2.1 n l) ≠ 0 ∨ A.2.1 n l = nd) → zwp n_M_nearest 9 [(0, .ref q), (3, .int (nI L.length)), (4, .int 0), (5, .int (nI k)), (6, .int (nI n)), (7, .int (nI (fk L far k))), (8, .int (nI l))] [] 0 0 (mw w q c (r2w r F Ln)) K := fun h => by
        refine b_M_nearest_9 ?_
        rw [nI_1]
        exact ih (l + 1) (by omega) far L F Ln (BF_skip hB hk (by rw [hn]; exact z) (by rw [hn]; exact hx) (by rw [hn]; exact h)) hF hf hk hn hs
      simp only [and_assoc, exists_and_left, exists_eq_left, exists_eq_left', Option.some.injEq, Value.int.injEq, Value.ref.injEq, Value.long.injEq, true_and, and_true, exists_eq, exists_true_left, mw_ob, mw_ia0, mw_ia2, mw_ia5, mw_ia6, mw_ia7, mw_ia8, mw_ia9, mw_ia10, mw_ia11, mw_ia15, mw_ia16, mF_0, mF_1, mF_2, mF_3, mF_4, mF_5, mF_6, mF_7, mF_8, mF_9, mF_10, mF_11, mF_12, mF_13, mF_14, mF_15, mF_16, mF_len, mF_s1, mF_s3, mF_s4, mF_s12, mF_s13, mF_s14, mw_uob, mw_u0, mw_u2, mw_u5, mw_u6, mw_u7, mw_u8, mw_u9, mw_u10, mw_u11, mw_u15, mw_u16, Nat.reduceLT, r2_15, r2_16]
      rw [nI_clamp (by omega), hF.1 _ hx, show Ln (0 : Int32).toNatClampNeg = nI nd from e0]
      refine ⟨vp_in_nI (by omega) (by decide), fun y => skip (Or.inl (fun t => y (by rw [t]; rfl))), fun y => ⟨vp_in_nI (n := 0) (by decide) (by decide), fun t => skip (Or.inr ((nI_eq (by omega) (by omega)).mp t)), fun t => ?_⟩⟩
      have y : far (A.2.1 n l) = 0 := (nI_eq (by omega) (b := 0) (by decide)).mp y
      have t : A.2.1 n l ≠ nd := fun u => t (by rw [u])
      have hB2 := BF_add hB hk (by omega) (by rw [hn]; exact z) (by rw [hn]; exact hx) (by rw [hn]; exact y) (by rw [hn]; exact t)
      rw [hn] at hB2
      have hlen : (L ++ [A.2.1 n l]).length = L.length + 1 := by rw [List.length_append]; rfl
      have hle2 : (L ++ [A.2.1 n l]).length ≤ A.1 := by rw [hB2.2.2.1]; exact cntP_le
      simp only [and_assoc, exists_and_left, exists_eq_left, exists_eq_left', Option.some.injEq, Value.int.injEq, Value.ref.injEq, Value.long.injEq, true_and, and_true, exists_eq, exists_true_left, mw_ob, mw_ia0, mw_ia2, mw_ia5, mw_ia6, mw_ia7, mw_ia8, mw_ia9, mw_ia10, mw_ia11, mw_ia15, mw_ia16, mF_0, mF_1, mF_2, mF_3, mF_4, mF_5, mF_6, mF_7, mF_8, mF_9, mF_10, mF_11, mF_12, mF_13, mF_14, mF_15, mF_16, mF_len, mF_s1, mF_s3, mF_s4, mF_s12, mF_s13, mF_s14, mw_uob, mw_u0, mw_u2, mw_u5, mw_u6, mw_u7, mw_u8, mw_u9, mw_u10, mw_u11, mw_u15, mw_u16, Nat.reduceLT, r2_15, r2_16, r2_u15, r2_u16]
      rw [nI_1, nI_clamp (by omega), nI_1]
      refine ⟨vp_in_nI (by omega) (by decide), vp_in_nI (by omega) (by decide), b_M_nearest_9 ?_⟩
      rw [nI_1, ← hlen]
      have efk : fk (L ++ [A.2.1 n l]) (fun x => if x = A.2.1 n l then fk L far k + 1 else far x) k = fk L far k := by
        unfold fk
        rw [getD_appL hk]
        by_cases e : k = 0
        · rw [if_pos e, if_pos e]
        · rw [if_neg e, if_neg e]
          refine if_neg (fun u => ?_)
          have := ((hB.2.2.2.2.1 k hk).2.1 e).1
          rw [u] at this; omega
      have hn2 : (L ++ [A.2.1 n l]).getD k 0 = n := by rw [getD_appL hk]; exact hn
      have h7 := ih (l + 1) (by omega) _ _ (upd F (A.2.1 n l) (nI (fk L far k + 1))) (upd Ln L.length (nI (A.2.1 n l))) hB2 ⟨fun x hx' => ?_, fun j hj => ?_⟩ (fun x => ?_) (by omega) hn2 (by rw [efk]; exact hs)
      · rw [efk] at h7
        exact h7
      · show (if x = A.2.1 n l then _ else F x) = nI (if x = A.2.1 n l then _ else far x)
        by_cases e : x = A.2.1 n l
        · rw [if_pos e, if_pos e]
        · rw [if_neg e, if_neg e]; exact hF.1 x hx'
      · rw [hlen] at hj
        show (if j = L.length then _ else Ln j) = _
        by_cases e : j = L.length
        · rw [if_pos e, e, getD_appE]
        · rw [if_neg e, getD_appL (by omega)]; exact hF.2 j (by omega)
      · show (if x = A.2.1 n l then _ else far x) < 100
        split
        · omega
        · exact hf x
    · have z : A.2.2.1 (A.2.1 n l) ≠ 0 := fun t => z (by rw [t]; rfl)
      rw [nI_1]
      have hr : rch A nd (fk L far k + 1) (A.2.1 n l) := ⟨n, l, by rw [← hn]; exact (hB.2.2.2.2.1 k hk).2.2, by omega, rfl⟩
      exact hK _ ⟨by omega, ⟨_, hr, z⟩, fun j h1 h2 => BF_no hB hk j h1 h2⟩ (by omega) F Ln
theorem f_near_out (hA : auOk A) (hm : MA c r A) (hK : ∀ x, isNear A nd (some x) → x < 1000 → ∀ F Ln, K (mw w q c (r2w r F Ln)) (some (.int (nI x)))) (hK0 : isNear A nd none → ∀ F Ln, K (mw w q c (r2w r F Ln)) (some (.int (-9)))) : ∀ (m k : Nat), k + m = A.1 → ∀ far L F Ln (y : Int32), BF A nd far L k 0 → FLn A far L F Ln → (∀ x, far x < 100) → k ≤ L.length → (y = if k = 0 then 1 else 0) → zwp n_M_nearest 4 [(0, .ref q), (3, .int (nI L.length)), (4, .int y), (5, .int (nI k))] [] 0 0 (mw w q c (r2w r F Ln)) K := by
  have h49 := hA.2.1
  have stop : ∀ (k : Nat) (far : Nat → Nat) (L : List Nat) (F Ln : Nat → Int32) (y : Int32), BF A nd far L k 0 → k = L.length → zwp n_M_nearest 4 [(0, .ref q), (3, .int (nI L.length)), (4, .int y), (5, .int (nI k))] [] 0 0 (mw w q c (r2w r F Ln)) K := fun k far L F Ln y hB hk => by
    subst hk
    exact b_M_nearest_4 ⟨fun _ => b_M_nearest_11 (hK0 (BF_end hB) F Ln), fun z => absurd (Int32.le_refl _) z⟩
  intro m
  induction m with
  | zero =>
    intro k hk far L F Ln y hB hF hf hkl hy
    have hle : L.length ≤ A.1 := by rw [hB.2.2.1]; exact cntP_le
    exact stop k far L F Ln y hB (by omega)
  | succ m ih =>
    intro k hk far L F Ln y hB hF hf hkl hy
    have hle : L.length ≤ A.1 := by rw [hB.2.2.1]; exact cntP_le
    by_cases he : k = L.length
    · exact stop k far L F Ln y hB he
    · have hkl : k < L.length := by omega
      have hnA := (hB.2.2.2.2.1 k hkl).1
      have hfk : fk L far k < 50 := by have := hB.2.2.2.2.2.2.2.2.2 k hkl; omega
      have b6 : zwp n_M_nearest 6 [(0, .ref q), (3, .int (nI L.length)), (5, .int (nI k)), (6, .int (nI (L.getD k 0)))] [.int (nI (fk L far k))] 0 0 (mw w q c (r2w r F Ln)) K := by
        refine b_M_nearest_6 (f_near_in (nd := nd) hA hm hK (fun far2 L2 F2 Ln2 g1 g2 g3 g4 => b_M_nearest_10 ?_) 26 0 rfl far L F Ln hB hF hf hkl rfl hfk)
        rw [nI_1]
        exact ih (k + 1) (by omega) far2 L2 F2 Ln2 0 g1 g2 g3 (by omega) (by rw [if_neg (by omega)])
      refine b_M_nearest_4 ⟨fun z => absurd ((nI_leI (by omega) (by omega)).mp z) (by omega), fun _ => ?_⟩
      simp only [and_assoc, exists_and_left, exists_eq_left, exists_eq_left', Option.some.injEq, Value.int.injEq, Value.ref.injEq, Value.long.injEq, true_and, and_true, exists_eq, exists_true_left, mw_ob, mw_ia0, mw_ia2, mw_ia5, mw_ia6, mw_ia7, mw_ia8, mw_ia9, mw_ia10, mw_ia11, mw_ia15, mw_ia16, mF_0, mF_1, mF_2, mF_3, mF_4, mF_5, mF_6, mF_7, mF_8, mF_9, mF_10, mF_11, mF_12, mF_13, mF_14, mF_15, mF_16, mF_len, mF_s1, mF_s3, mF_s4, mF_s12, mF_s13, mF_s14, mw_uob, mw_u0, mw_u2, mw_u5, mw_u6, mw_u7, mw_u8, mw_u9, mw_u10, mw_u11, mw_u15, mw_u16, Nat.reduceLT, r2_16]
      rw [nI_clamp (by omega), hF.2 k hkl]
      refine ⟨vp_in_nI (by omega) (by decide), fun z => b_M_nearest_5 ?_, fun z => ?_⟩
      · have k0 : k ≠ 0 := fun t => by
          rw [hy, if_pos t] at z
          exact absurd z (by decide)
        simp only [and_assoc, exists_and_left, exists_eq_left, exists_eq_left', Option.some.injEq, Value.int.injEq, Value.ref.injEq, Value.long.injEq, true_and, and_true, exists_eq, exists_true_left, mw_ob, mw_ia0, mw_ia2, mw_ia5, mw_ia6, mw_ia7, mw_ia8, mw_ia9, mw_ia10, mw_ia11, mw_ia15, mw_ia16, mF_0, mF_1, mF_2, mF_3, mF_4, mF_5, mF_6, mF_7, mF_8, mF_9, mF_10, mF_11, mF_12, mF_13, mF_14, mF_15, mF_16, mF_len, mF_s1, mF_s3, mF_s4, mF_s12, mF_s13, mF_s14, mw_uob, mw_u0, mw_u2, mw_u5, mw_u6, mw_u7, mw_u8, mw_u9, mw_u10, mw_u11, mw_u15, mw_u16, Nat.reduceLT, r2_15]
        rw [nI_clamp (by omega), hF.1 _ hnA]
        have e : fk L far k = far (L.getD k 0) := if_neg k0
        rw [e] at b6
        exact ⟨vp_in_nI (by omega) (by decide), b6⟩
      · have k0 : k = 0 := Nat.eq_zero_of_not_pos (fun t => z (by rw [hy, if_neg (by omega)]))
        have e : fk L far k = 0 := if_pos k0
        rw [e] at b6
        exact b6
theorem f_near_zero {x2 : Int32} (hA : auOk A) (hm : MA c r A) (hK : ∀ F, (∀ x, x < A.1 → F x = 0) → zwp n_M_nearest 3 [(0, .ref q), (2, .int x2)] [] 0 0 (mw w q c (r2w r F (r 16))) K) : ∀ (m n : Nat), n + m = A.1 → ∀ F, (∀ x, x < n → F x = 0) → zwp n_M_nearest 2 [(0, .ref q), (2, .int x2), (3, .int (nI n))] [] 0 0 (mw w q c (r2w r F (r 16))) K := by
  have h49 := hA.2.1
  intro m
  induction m with
  | zero =>
    intro n hn F hF
    refine b_M_nearest_2 ?_
    simp only [and_assoc, exists_and_left, exists_eq_left, exists_eq_left', Option.some.injEq, Value.int.injEq, Value.ref.injEq, Value.long.injEq, true_and, and_true, exists_eq, exists_true_left, mw_ob, mw_ia0, mw_ia2, mw_ia5, mw_ia6, mw_ia7, mw_ia8, mw_ia9, mw_ia10, mw_ia11, mw_ia15, mw_ia16, mF_0, mF_1, mF_2, mF_3, mF_4, mF_5, mF_6, mF_7, mF_8, mF_9, mF_10, mF_11, mF_12, mF_13, mF_14, mF_15, mF_16, mF_len, mF_s1, mF_s3, mF_s4, mF_s12, mF_s13, mF_s14, mw_uob, mw_u0, mw_u2, mw_u5, mw_u6, mw_u7, mw_u8, mw_u9, mw_u10, mw_u11, mw_u15, mw_u16, Nat.reduceLT, rup_s, rup_rup]
    rw [hm.1]
    exact ⟨fun _ => hK F (fun x hx => hF x (by omega)), fun z => absurd ((nI_leI (by omega) (by omega)).mpr (by omega)) z⟩
  | succ m ih =>
    intro n hn F hF
    refine b_M_nearest_2 ?_
    simp only [and_assoc, exists_and_left, exists_eq_left, exists_eq_left', Option.some.injEq, Value.int.injEq, Value.ref.injEq, Value.long.injEq, true_and, and_true, exists_eq, exists_true_left, mw_ob, mw_ia0, mw_ia2, mw_ia5, mw_ia6, mw_ia7, mw_ia8, mw_ia9, mw_ia10, mw_ia11, mw_ia15, mw_ia16, mF_0, mF_1, mF_2, mF_3, mF_4, mF_5, mF_6, mF_7, mF_8, mF_9, mF_10, mF_11, mF_12, mF_13, mF_14, mF_15, mF_16, mF_len, mF_s1, mF_s3, mF_s4, mF_s12, mF_s13, mF_s14, mw_uob, mw_u0, mw_u2, mw_u5, mw_u6, mw_u7, mw_u8, mw_u9, mw_u10, mw_u11, mw_u15, mw_u16, Nat.reduceLT, r2_15, r2_u15]
    rw [hm.1, nI_clamp (by omega), nI_1]
    refine ⟨fun z => absurd ((nI_leI (by omega) (by omega)).mp z) (by omega), fun _ => ⟨vp_in_nI (by omega) (by decide), ih (n + 1) (by omega) _ (fun x hx => ?_)⟩⟩
    by_cases e : x = n
    · rw [e]; exact if_pos rfl
    · exact (if_neg e).trans (hF x (by omega))
theorem BF_start (hA : auOk A) (hnd : nd < A.1) : BF A nd (fun _ => 0) [nd] 0 0 := by
  refine ⟨rfl, Nat.le_refl _, ?_, rfl, fun j hj => ?_, fun i j hij hj => ?_, fun _ j hj => ?_, fun j m j1 j2 j3 => absurd j2 (by omega), fun x _ h => absurd rfl h, fun j hj => ?_⟩
  · have e := cntP_up (p := fun _ => false) (p' := fun x => decide ((0 : Nat) ≠ 0) || decide (x = nd)) (t := nd) hnd rfl (by simp) (fun k hk => by simp [hk])
    have z : ∀ n, cntP (fun _ => false) n = 0 := by
      intro n
      induction n with
      | zero => rfl
      | succ n ih => show cntP (fun _ => false) n + 0 = 0; rw [ih]
    rw [z] at e
    exact e.symm
  · have hj : j < 1 := hj
    obtain rfl : j = 0 := by omega
    exact ⟨hnd, fun z => absurd rfl z, rfl⟩
  · have hj : j < 1 := hj
    obtain rfl : j = 0 := by omega
    obtain rfl : i = 0 := by omega
    exact Nat.le_refl _
  · have hj : j < 1 := hj
    obtain rfl : j = 0 := by omega
    exact Nat.zero_le _
  · have hj : j < 1 := hj
    obtain rfl : j = 0 := by omega
    exact Nat.zero_le _
theorem f_nearest {P : Nat → Int32} {s : aSt} {past : List aSt} {bs : List Int32} {key : Int32} (hJ : MJ c r P s past bs) (hO : stOk (auOf s.1) s) (hw : wdOk s.1) (hK0 : ¬ (0 : Int32) ≤ aAsked s.2.2.2.1 key → K (mw w q c (rup r 0 P)) (some (.int (aAsked s.2.2.2.1 key)))) (hK1 : ∀ i x, i < s.2.2.2.1.length → aAsked s.2.2.2.1 key = nI i → isNear (auOf s.1) (fGet s.2.2.2.1 i).2.1.1.1.1 x → ∀ r', MJ c r' P s past bs → (∀ j, j < 15 → r' j = r j) → K (mw w q c (rup r' 0 P)) (some (.int (oM x)))) : zcall n_M_nearest [.ref q, .int key] (mw w q c (rup r 0 P)) K := by
  obtain ⟨hI, hMA⟩ := hJ
  have hA := au_ok hw
  have h49 := hA.2.1
  have hm : MA c (rup r 0 P) (auOf s.1) := hI.2.2.2.2.1
  obtain ⟨⟨k1, k2, k5, ⟨sl, k6, k7⟩, k8⟩, h2, h3, h4, h5, h6⟩ := id hI
  have hl : sl.length = s.2.2.2.1.length := k7.1
  have hl4 := k6.2.1
  refine e_M_nearest (b_M_nearest_0 ?_)
  simp only [and_assoc, exists_and_left, exists_eq_left, exists_eq_left', Option.some.injEq, Value.int.injEq, Value.ref.injEq, Value.long.injEq, true_and, and_true, exists_eq, exists_true_left, mw_ob, mw_ia0, mw_ia2, mw_ia5, mw_ia6, mw_ia7, mw_ia8, mw_ia9, mw_ia10, mw_ia11, mw_ia15, mw_ia16, mF_0, mF_1, mF_2, mF_3, mF_4, mF_5, mF_6, mF_7, mF_8, mF_9, mF_10, mF_11, mF_12, mF_13, mF_14, mF_15, mF_16, mF_len, mF_s1, mF_s3, mF_s4, mF_s12, mF_s13, mF_s14, mw_uob, mw_u0, mw_u2, mw_u5, mw_u6, mw_u7, mw_u8, mw_u9, mw_u10, mw_u11, mw_u15, mw_u16, Nat.reduceLT, rup_s, rup_rup]
  refine f_asked hI.1 ?_
  simp only [and_assoc, exists_and_left, exists_eq_left, exists_eq_left', Option.some.injEq, Value.int.injEq, Value.ref.injEq, Value.long.injEq, true_and, and_true, exists_eq, exists_true_left, mw_ob, mw_ia0, mw_ia2, mw_ia5, mw_ia6, mw_ia7, mw_ia8, mw_ia9, mw_ia10, mw_ia11, mw_ia15, mw_ia16, mF_0, mF_1, mF_2, mF_3, mF_4, mF_5, mF_6, mF_7, mF_8, mF_9, mF_10, mF_11, mF_12, mF_13, mF_14, mF_15, mF_16, mF_len, mF_s1, mF_s3, mF_s4, mF_s12, mF_s13, mF_s14, mw_uob, mw_u0, mw_u2, mw_u5, mw_u6, mw_u7, mw_u8, mw_u9, mw_u10, mw_u11, mw_u15, mw_u16, Nat.reduceLT, rup_s, rup_rup]
  refine ⟨fun z => b_M_nearest_1 ?_, fun z => hK0 z⟩
  obtain ⟨i, hi, hpl, ea⟩ | hno := aAsked_cs (l := s.2.2.2.1) (key := key) (by omega)
  case inr => exact absurd z hno
  rw [ea]
  have hs4 := slG_lt k6 (i := i) (by omega)
  have hnd : (fGet s.2.2.2.1 i).2.1.1.1.1 < (auOf s.1).1 := (hO.2.1 _ (fGet_mem hi)).2.1.1
  have e6 : P (186 + 710 * slG sl i + 6) = nI (fGet s.2.2.2.1 i).2.1.1.1.1 := (k7.2 i hi).1.1
  have done : ∀ F Ln x, isNear (auOf s.1) (fGet s.2.2.2.1 i).2.1.1.1.1 x → K (mw w q c (r2w (rup r 0 P) F Ln)) (some (.int (oM x))) := fun F Ln x hx => by
    have er : r2w (rup r 0 P) F Ln = rup (r2w (rup r 0 P) F Ln) 0 P := by
      have : r2w (rup r 0 P) F Ln 0 = P := rfl
      conv => lhs; rw [← rup_id (r := r2w (rup r 0 P) F Ln) (k := 0), this]
    rw [er]
    have eo : ∀ j, j ≠ 0 → j < 15 → r2w (rup r 0 P) F Ln j = r j := fun j j0 hj => (if_neg (by omega)).trans ((if_neg (by omega)).trans (rup_n j0))
    have e2 : ∀ j, j < 15 → rup (r2w (rup r 0 P) F Ln) 0 (r 0) j = r j := fun j hj => by
      by_cases j0 : j = 0
      · rw [j0]; exact rup_s
      · rw [rup_n j0]; exact eo j j0 hj
    have er2 : rup (r2w (rup r 0 P) F Ln) 0 P = rup (rup (r2w (rup r 0 P) F Ln) 0 (r 0)) 0 P := rup_rup.symm
    rw [er2]
    refine hK1 i x hi ea hx _ (MJ_of ⟨hI.1, h2, h3, ⟨h4.1, h4.2.1, fun i hi => ?_⟩, ⟨h5.1, fun n hn => ?_, fun n l hn hl => ?_⟩, h6⟩ hMA rfl (fun j j1 j2 => e2 j (by omega))) e2
    · rw [e2 2 (by decide)]; exact h4.2.2 i hi
    · rw [e2 9 (by decide)]; exact h5.2.1 n hn
    · rw [e2 10 (by decide)]; exact h5.2.2 n l hn hl
  have h2b := f_near_zero (w := w) (q := q) (c := c) (r := rup r 0 P) (K := K) (A := auOf s.1) (x2 := nI i) hA hm (fun F hF => b_M_nearest_3 (by
    have e00 : ∀ F Ln, r2w (rup r 0 P) F Ln = rup (r2w (rup r 0 P) F Ln) 0 P := fun F Ln => by
      have : r2w (rup r 0 P) F Ln 0 = P := rfl
      conv => lhs; rw [← rup_id (r := r2w (rup r 0 P) F Ln) (k := 0), this]
    simp only [and_assoc, exists_and_left, exists_eq_left, exists_eq_left', Option.some.injEq, Value.int.injEq, Value.ref.injEq, Value.long.injEq, true_and, and_true, exists_eq, exists_true_left, mw_ob, mw_ia0, mw_ia2, mw_ia5, mw_ia6, mw_ia7, mw_ia8, mw_ia9, mw_ia10, mw_ia11, mw_ia15, mw_ia16, mF_0, mF_1, mF_2, mF_3, mF_4, mF_5, mF_6, mF_7, mF_8, mF_9, mF_10, mF_11, mF_12, mF_13, mF_14, mF_15, mF_16, mF_len, mF_s1, mF_s3, mF_s4, mF_s12, mF_s13, mF_s14, mw_uob, mw_u0, mw_u2, mw_u5, mw_u6, mw_u7, mw_u8, mw_u9, mw_u10, mw_u11, mw_u15, mw_u16, Nat.reduceLT, r2_16]
    have hslot : ∀ K', K' (mw w q c (r2w (rup r 0 P) F (rup r 0 P 16))) (some (.int (nI (186 + 710 * slG sl i)))) → zcall n_M_slot [.ref q, .int (nI i)] (mw w q c (r2w (rup r 0 P) F (rup r 0 P 16))) K' := fun K' hk => by
      rw [e00] at hk ⊢
      exact f_slot k6 (i := i) rfl (by omega) hk
    refine hslot _ ?_
    simp only [and_assoc, exists_and_left, exists_eq_left, exists_eq_left', Option.some.injEq, Value.int.injEq, Value.ref.injEq, Value.long.injEq, true_and, and_true, exists_eq, exists_true_left, mw_ob, mw_ia0, mw_ia2, mw_ia5, mw_ia6, mw_ia7, mw_ia8, mw_ia9, mw_ia10, mw_ia11, mw_ia15, mw_ia16, mF_0, mF_1, mF_2, mF_3, mF_4, mF_5, mF_6, mF_7, mF_8, mF_9, mF_10, mF_11, mF_12, mF_13, mF_14, mF_15, mF_16, mF_len, mF_s1, mF_s3, mF_s4, mF_s12, mF_s13, mF_s14, mw_uob, mw_u0, mw_u2, mw_u5, mw_u6, mw_u7, mw_u8, mw_u9, mw_u10, mw_u11, mw_u15, mw_u16, Nat.reduceLT, r2_0, r2_16, r2_u16, rup_s]
    rw [lit_6, nI_add, nI_clamp (by omega), e6]
    refine ⟨vp_in_nI (by omega) (by decide), vp_in_nI (n := 0) (by decide) (by decide), ?_⟩
    refine f_near_out (A := auOf s.1) (nd := (fGet s.2.2.2.1 i).2.1.1.1.1) hA hm (fun x hx _ F Ln => done F Ln (some x) hx) (fun hx F Ln => done F Ln none hx) (auOf s.1).1 0 (Nat.zero_add _) (fun _ => 0) [(fGet s.2.2.2.1 i).2.1.1.1.1] F _ 1 (BF_start hA hnd) ⟨fun x hx => hF x hx, fun j hj => ?_⟩ (fun _ => by decide) (Nat.zero_le _) rfl
    have hj : j < 1 := hj
    obtain rfl : j = 0 := by omega
    rfl)) (auOf s.1).1 0 (Nat.zero_add _) (rup r 0 P 15) (fun x hx => absurd hx (Nat.not_lt_zero _))
  rw [r2_id] at h2b
  exact h2b
end MNear
