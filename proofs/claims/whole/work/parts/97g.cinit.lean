/-! CONSTRUCTORS: worlds with new cells at the end -/
def xw (w : jx_W) (L : List jx_E) : jx_W := (w.1 + L.length, w.2.1, fun a => if w.1 ≤ a ∧ a < w.1 + L.length then L[a - w.1]? else w.2.2 a)
theorem xw_1 (w : jx_W) (L : List jx_E) : (xw w L).1 = w.1 + L.length := rfl
theorem xw_at {w : jx_W} {L : List jx_E} {k : Nat} (h : k < L.length) : (xw w L).2.2 (w.1 + k) = L[k]? := by
  show (if _ then _ else _) = _
  rw [if_pos ⟨by omega, by omega⟩, Nat.add_sub_cancel_left]
theorem xw_lo {w : jx_W} {L : List jx_E} {a : Nat} (h : a < w.1) : (xw w L).2.2 a = w.2.2 a := by
  show (if _ then _ else _) = _
  rw [if_neg (by omega)]
theorem xw_al0 (w : jx_W) (e : jx_E) : jx_al w e = xw w [e] := by
  refine jx_ext rfl rfl (fun a => ?_)
  show (if a = w.1 then some e else w.2.2 a) = if w.1 ≤ a ∧ a < w.1 + 1 then [e][a - w.1]? else w.2.2 a
  by_cases h : a = w.1
  · rw [if_pos h, if_pos (by omega), h, Nat.sub_self]; rfl
  · rw [if_neg h, if_neg (by omega)]
theorem xw_al (w : jx_W) (L : List jx_E) (e : jx_E) : jx_al (xw w L) e = xw w (L ++ [e]) := by
  have hl : (L ++ [e]).length = L.length + 1 := by rw [List.length_append]; rfl
  refine jx_ext (by show w.1 + L.length + 1 = w.1 + (L ++ [e]).length; omega) rfl (fun a => ?_)
  show (if a = w.1 + L.length then some e else if w.1 ≤ a ∧ a < w.1 + L.length then L[a - w.1]? else w.2.2 a) = if w.1 ≤ a ∧ a < w.1 + (L ++ [e]).length then (L ++ [e])[a - w.1]? else w.2.2 a
  rw [hl]
  by_cases h : a = w.1 + L.length
  · rw [if_pos h, if_pos (by omega), h, Nat.add_sub_cancel_left, List.getElem?_append_right (Nat.le_refl _), Nat.sub_self]; rfl
  · rw [if_neg h]
    by_cases h2 : w.1 ≤ a ∧ a < w.1 + L.length
    · rw [if_pos h2, if_pos (by omega), List.getElem?_append_left (by omega)]
    · rw [if_neg h2, if_neg (by omega)]
theorem xw_ob0 (w : jx_W) (ci : Nat) (f0 fs : List Value) (L : List jx_E) : jx_ob (xw w (.inr (ci, f0) :: L)) w.1 ci fs ↔ fs = f0 := ob_iff (xw_at (w := w) (L := .inr (ci, f0) :: L) (k := 0) (Nat.succ_pos _))
theorem xw_up0 (w : jx_W) (e0 e : jx_E) (L : List jx_E) : jx_up (xw w (e0 :: L)) w.1 e = xw w (e :: L) := by
  refine jx_ext rfl rfl (fun a => ?_)
  show (if a = w.1 then some e else if w.1 ≤ a ∧ a < w.1 + (L.length + 1) then (e0 :: L)[a - w.1]? else w.2.2 a) = if w.1 ≤ a ∧ a < w.1 + (L.length + 1) then (e :: L)[a - w.1]? else w.2.2 a
  by_cases h : a = w.1
  · rw [if_pos h, if_pos (by omega), h, Nat.sub_self]; rfl
  · rw [if_neg h]
    by_cases h2 : w.1 ≤ a ∧ a < w.1 + (L.length + 1)
    · rw [if_pos h2, if_pos h2]
      obtain ⟨k, hk⟩ : ∃ k, a - w.1 = k + 1 := ⟨a - w.1 - 1, by omega⟩
      rw [hk]; rfl
    · rw [if_neg h2, if_neg h2]
theorem xw_uob0 (w : jx_W) (ci : Nat) (f0 fs : List Value) (L : List jx_E) : jx_uob (xw w (.inr (ci, f0) :: L)) w.1 ci fs = xw w (.inr (ci, fs) :: L) := xw_up0 w _ _ L
theorem xw_up1 (w : jx_W) (e0 e1 e : jx_E) (L : List jx_E) : jx_up (xw w (e0 :: e1 :: L)) (w.1 + 1) e = xw w (e0 :: e :: L) := by
  refine jx_ext rfl rfl (fun a => ?_)
  show (if a = w.1 + 1 then some e else if w.1 ≤ a ∧ a < w.1 + (L.length + 1 + 1) then (e0 :: e1 :: L)[a - w.1]? else w.2.2 a) = if w.1 ≤ a ∧ a < w.1 + (L.length + 1 + 1) then (e0 :: e :: L)[a - w.1]? else w.2.2 a
  by_cases h : a = w.1 + 1
  · rw [if_pos h, if_pos (by omega), h, Nat.add_sub_cancel_left]; rfl
  · rw [if_neg h]
    by_cases h2 : w.1 ≤ a ∧ a < w.1 + (L.length + 1 + 1)
    · rw [if_pos h2, if_pos h2]
      rcases Nat.eq_zero_or_pos (a - w.1) with h3 | h3
      · rw [h3]; rfl
      · obtain ⟨k, hk⟩ : ∃ k, a - w.1 = k + 2 := ⟨a - w.1 - 2, by omega⟩
        rw [hk]; rfl
    · rw [if_neg h2, if_neg h2]
theorem xw_xw (w : jx_W) (L M : List jx_E) : xw (xw w L) M = xw w (L ++ M) := by
  have hl : (L ++ M).length = L.length + M.length := List.length_append
  refine jx_ext (by show w.1 + L.length + M.length = w.1 + (L ++ M).length; omega) rfl (fun a => ?_)
  show (if w.1 + L.length ≤ a ∧ a < w.1 + L.length + M.length then M[a - (w.1 + L.length)]? else if w.1 ≤ a ∧ a < w.1 + L.length then L[a - w.1]? else w.2.2 a) = if w.1 ≤ a ∧ a < w.1 + (L ++ M).length then (L ++ M)[a - w.1]? else w.2.2 a
  rw [hl]
  by_cases h : w.1 + L.length ≤ a ∧ a < w.1 + L.length + M.length
  · rw [if_pos h, if_pos (by omega), List.getElem?_append_right (by omega), Nat.sub_sub]
  · rw [if_neg h]
    by_cases h2 : w.1 ≤ a ∧ a < w.1 + L.length
    · rw [if_pos h2, if_pos (by omega), List.getElem?_append_left (by omega)]
    · rw [if_neg h2, if_neg (by omega)]
theorem xw_uplo {w : jx_W} {a : Nat} (h : a < w.1) (e : jx_E) (L : List jx_E) : jx_up (xw w L) a e = xw (jx_up w a e) L := by
  refine jx_ext rfl rfl (fun x => ?_)
  show (if x = a then some e else if w.1 ≤ x ∧ x < w.1 + L.length then L[x - w.1]? else w.2.2 x) = if w.1 ≤ x ∧ x < w.1 + L.length then L[x - w.1]? else if x = a then some e else w.2.2 x
  by_cases h1 : x = a
  · rw [if_pos h1, if_neg (by omega), if_pos h1]
  · rw [if_neg h1, if_neg h1]
def zF : Nat → Int32 := fun _ => 0
def zR : Nat → Nat → Int32 := fun _ _ => 0
def iA (n : Nat) : jx_E := .inl (.int, n, .inl (fun _ => 0))
def bA (n : Nat) : jx_E := .inl (.byte, n, .inl (fun _ => 0))
section CInit
variable {w : jx_W} {K : jx_Q}
theorem c_SgI {x : Int32} {n : Nat} (hx : x = nI n) (hn : n ≤ 10) (hK : K (xw w [.inr (4, SgF w.1 zF), iA n, iA n, bA (40 * n)]) none) : zcall n_Sg_init [.ref w.1, .int x] (jx_al w (.inr (4, jx_born 4))) K := by
  subst hx
  rw [xw_al0]
  refine e_Sg_init (b_Sg_init_0 ?_)
  try simp only [xw_al, xw_ob0, xw_uob0, xw_1, List.cons_append, List.nil_append, List.length_cons, List.length_nil, jx_born, List.getElem?_cons_zero, List.set_cons_zero, List.set_cons_succ, Nat.reduceAdd, Nat.zero_add, Nat.reduceLT, Nat.reduceSub, and_assoc, exists_and_left, exists_eq_left, exists_eq_left', Option.some.injEq, Value.int.injEq, Value.ref.injEq, Value.long.injEq, true_and, and_true, exists_eq, exists_true_left]
  refine ⟨n, rfl, by omega, by decide, by omega, ?_⟩
  try simp only [xw_al, xw_ob0, xw_uob0, xw_1, List.cons_append, List.nil_append, List.length_cons, List.length_nil, jx_born, List.getElem?_cons_zero, List.set_cons_zero, List.set_cons_succ, Nat.reduceAdd, Nat.zero_add, Nat.reduceLT, Nat.reduceSub, and_assoc, exists_and_left, exists_eq_left, exists_eq_left', Option.some.injEq, Value.int.injEq, Value.ref.injEq, Value.long.injEq, true_and, and_true, exists_eq, exists_true_left]
  refine ⟨n, rfl, by omega, by decide, by omega, ?_⟩
  try simp only [xw_al, xw_ob0, xw_uob0, xw_1, List.cons_append, List.nil_append, List.length_cons, List.length_nil, jx_born, List.getElem?_cons_zero, List.set_cons_zero, List.set_cons_succ, Nat.reduceAdd, Nat.zero_add, Nat.reduceLT, Nat.reduceSub, and_assoc, exists_and_left, exists_eq_left, exists_eq_left', Option.some.injEq, Value.int.injEq, Value.ref.injEq, Value.long.injEq, true_and, and_true, exists_eq, exists_true_left]
  refine ⟨40 * n, by rw [lit_40, pk_mul, Nat.mul_comm]; rfl, by omega, by decide, by omega, ?_⟩
  try simp only [xw_al, xw_ob0, xw_uob0, xw_1, List.cons_append, List.nil_append, List.length_cons, List.length_nil, jx_born, List.getElem?_cons_zero, List.set_cons_zero, List.set_cons_succ, Nat.reduceAdd, Nat.zero_add, Nat.reduceLT, Nat.reduceSub, and_assoc, exists_and_left, exists_eq_left, exists_eq_left', Option.some.injEq, Value.int.injEq, Value.ref.injEq, Value.long.injEq, true_and, and_true, exists_eq, exists_true_left]
  exact hK
theorem c_AI (hK : K (xw w [.inr (0, AuF w.1 (fun _ => 1)), iA 49, iA 49, iA 49, iA 49, iA 49, iA 6, iA 1274, iA 6]) none) : zcall n_A_init [.ref w.1] (jx_al w (.inr (0, jx_born 0))) K := by
  rw [xw_al0]
  refine e_A_init (b_A_init_0 ?_)
  try simp only [xw_al, xw_ob0, xw_uob0, xw_1, List.cons_append, List.nil_append, List.length_cons, List.length_nil, jx_born, List.getElem?_cons_zero, List.set_cons_zero, List.set_cons_succ, Nat.reduceAdd, Nat.zero_add, Nat.reduceLT, Nat.reduceSub, and_assoc, exists_and_left, exists_eq_left, exists_eq_left', Option.some.injEq, Value.int.injEq, Value.ref.injEq, Value.long.injEq, true_and, and_true, exists_eq, exists_true_left]
  refine b_A_init_1 ⟨49, rfl, by decide, by decide, by decide, ?_⟩
  try simp only [xw_al, xw_ob0, xw_uob0, xw_1, List.cons_append, List.nil_append, List.length_cons, List.length_nil, jx_born, List.getElem?_cons_zero, List.set_cons_zero, List.set_cons_succ, Nat.reduceAdd, Nat.zero_add, Nat.reduceLT, Nat.reduceSub, and_assoc, exists_and_left, exists_eq_left, exists_eq_left', Option.some.injEq, Value.int.injEq, Value.ref.injEq, Value.long.injEq, true_and, and_true, exists_eq, exists_true_left]
  refine b_A_init_2 ⟨49, rfl, by decide, by decide, by decide, ?_⟩
  try simp only [xw_al, xw_ob0, xw_uob0, xw_1, List.cons_append, List.nil_append, List.length_cons, List.length_nil, jx_born, List.getElem?_cons_zero, List.set_cons_zero, List.set_cons_succ, Nat.reduceAdd, Nat.zero_add, Nat.reduceLT, Nat.reduceSub, and_assoc, exists_and_left, exists_eq_left, exists_eq_left', Option.some.injEq, Value.int.injEq, Value.ref.injEq, Value.long.injEq, true_and, and_true, exists_eq, exists_true_left]
  refine b_A_init_3 ⟨49, rfl, by decide, by decide, by decide, ?_⟩
  try simp only [xw_al, xw_ob0, xw_uob0, xw_1, List.cons_append, List.nil_append, List.length_cons, List.length_nil, jx_born, List.getElem?_cons_zero, List.set_cons_zero, List.set_cons_succ, Nat.reduceAdd, Nat.zero_add, Nat.reduceLT, Nat.reduceSub, and_assoc, exists_and_left, exists_eq_left, exists_eq_left', Option.some.injEq, Value.int.injEq, Value.ref.injEq, Value.long.injEq, true_and, and_true, exists_eq, exists_true_left]
  refine b_A_init_4 ⟨49, rfl, by decide, by decide, by decide, ?_⟩
  try simp only [xw_al, xw_ob0, xw_uob0, xw_1, List.cons_append, List.nil_append, List.length_cons, List.length_nil, jx_born, List.getElem?_cons_zero, List.set_cons_zero, List.set_cons_succ, Nat.reduceAdd, Nat.zero_add, Nat.reduceLT, Nat.reduceSub, and_assoc, exists_and_left, exists_eq_left, exists_eq_left', Option.some.injEq, Value.int.injEq, Value.ref.injEq, Value.long.injEq, true_and, and_true, exists_eq, exists_true_left]
  refine b_A_init_5 ⟨49, rfl, by decide, by decide, by decide, ?_⟩
  try simp only [xw_al, xw_ob0, xw_uob0, xw_1, List.cons_append, List.nil_append, List.length_cons, List.length_nil, jx_born, List.getElem?_cons_zero, List.set_cons_zero, List.set_cons_succ, Nat.reduceAdd, Nat.zero_add, Nat.reduceLT, Nat.reduceSub, and_assoc, exists_and_left, exists_eq_left, exists_eq_left', Option.some.injEq, Value.int.injEq, Value.ref.injEq, Value.long.injEq, true_and, and_true, exists_eq, exists_true_left]
  refine b_A_init_6 ⟨6, rfl, by decide, by decide, by decide, ?_⟩
  try simp only [xw_al, xw_ob0, xw_uob0, xw_1, List.cons_append, List.nil_append, List.length_cons, List.length_nil, jx_born, List.getElem?_cons_zero, List.set_cons_zero, List.set_cons_succ, Nat.reduceAdd, Nat.zero_add, Nat.reduceLT, Nat.reduceSub, and_assoc, exists_and_left, exists_eq_left, exists_eq_left', Option.some.injEq, Value.int.injEq, Value.ref.injEq, Value.long.injEq, true_and, and_true, exists_eq, exists_true_left]
  refine b_A_init_7 ⟨1274, rfl, by decide, by decide, by decide, ?_⟩
  try simp only [xw_al, xw_ob0, xw_uob0, xw_1, List.cons_append, List.nil_append, List.length_cons, List.length_nil, jx_born, List.getElem?_cons_zero, List.set_cons_zero, List.set_cons_succ, Nat.reduceAdd, Nat.zero_add, Nat.reduceLT, Nat.reduceSub, and_assoc, exists_and_left, exists_eq_left, exists_eq_left', Option.some.injEq, Value.int.injEq, Value.ref.injEq, Value.long.injEq, true_and, and_true, exists_eq, exists_true_left]
  refine b_A_init_8 ⟨6, rfl, by decide, by decide, by decide, ?_⟩
  try simp only [xw_al, xw_ob0, xw_uob0, xw_1, List.cons_append, List.nil_append, List.length_cons, List.length_nil, jx_born, List.getElem?_cons_zero, List.set_cons_zero, List.set_cons_succ, Nat.reduceAdd, Nat.zero_add, Nat.reduceLT, Nat.reduceSub, and_assoc, exists_and_left, exists_eq_left, exists_eq_left', Option.some.injEq, Value.int.injEq, Value.ref.injEq, Value.long.injEq, true_and, and_true, exists_eq, exists_true_left]
  exact b_A_init_9 hK
theorem c_WoI (hK : K (xw w [.inr (6, WdF w.1), iA 6, bA 48]) none) : zcall n_Wo_init [.ref w.1] (jx_al w (.inr (6, jx_born 6))) K := by
  rw [xw_al0]
  refine e_Wo_init (b_Wo_init_0 ?_)
  refine ⟨6, rfl, by decide, by decide, by decide, ?_⟩
  try simp only [xw_al, xw_ob0, xw_uob0, xw_1, List.cons_append, List.nil_append, List.length_cons, List.length_nil, jx_born, List.getElem?_cons_zero, List.set_cons_zero, List.set_cons_succ, Nat.reduceAdd, Nat.zero_add, Nat.reduceLT, Nat.reduceSub, and_assoc, exists_and_left, exists_eq_left, exists_eq_left', Option.some.injEq, Value.int.injEq, Value.ref.injEq, Value.long.injEq, true_and, and_true, exists_eq, exists_true_left]
  refine ⟨48, rfl, by decide, by decide, by decide, ?_⟩
  try simp only [xw_al, xw_ob0, xw_uob0, xw_1, List.cons_append, List.nil_append, List.length_cons, List.length_nil, jx_born, List.getElem?_cons_zero, List.set_cons_zero, List.set_cons_succ, Nat.reduceAdd, Nat.zero_add, Nat.reduceLT, Nat.reduceSub, and_assoc, exists_and_left, exists_eq_left, exists_eq_left', Option.some.injEq, Value.int.injEq, Value.ref.injEq, Value.long.injEq, true_and, and_true, exists_eq, exists_true_left]
  exact hK
theorem c_FiI (hK : K (xw w [.inr (1, FdF w.1 zF), iA 30, iA 30, iA 30, iA 30]) none) : zcall n_Fi_init [.ref w.1] (jx_al w (.inr (1, jx_born 1))) K := by
  rw [xw_al0]
  refine e_Fi_init (b_Fi_init_0 ?_)
  try simp only [xw_al, xw_ob0, xw_uob0, xw_1, List.cons_append, List.nil_append, List.length_cons, List.length_nil, jx_born, List.getElem?_cons_zero, List.set_cons_zero, List.set_cons_succ, Nat.reduceAdd, Nat.zero_add, Nat.reduceLT, Nat.reduceSub, and_assoc, exists_and_left, exists_eq_left, exists_eq_left', Option.some.injEq, Value.int.injEq, Value.ref.injEq, Value.long.injEq, true_and, and_true, exists_eq, exists_true_left]
  refine b_Fi_init_1 ?_
  try simp only [xw_al, xw_ob0, xw_uob0, xw_1, List.cons_append, List.nil_append, List.length_cons, List.length_nil, jx_born, List.getElem?_cons_zero, List.set_cons_zero, List.set_cons_succ, Nat.reduceAdd, Nat.zero_add, Nat.reduceLT, Nat.reduceSub, and_assoc, exists_and_left, exists_eq_left, exists_eq_left', Option.some.injEq, Value.int.injEq, Value.ref.injEq, Value.long.injEq, true_and, and_true, exists_eq, exists_true_left]
  refine b_Fi_init_2 ?_
  try simp only [xw_al, xw_ob0, xw_uob0, xw_1, List.cons_append, List.nil_append, List.length_cons, List.length_nil, jx_born, List.getElem?_cons_zero, List.set_cons_zero, List.set_cons_succ, Nat.reduceAdd, Nat.zero_add, Nat.reduceLT, Nat.reduceSub, and_assoc, exists_and_left, exists_eq_left, exists_eq_left', Option.some.injEq, Value.int.injEq, Value.ref.injEq, Value.long.injEq, true_and, and_true, exists_eq, exists_true_left]
  refine b_Fi_init_3 ?_
  try simp only [xw_al, xw_ob0, xw_uob0, xw_1, List.cons_append, List.nil_append, List.length_cons, List.length_nil, jx_born, List.getElem?_cons_zero, List.set_cons_zero, List.set_cons_succ, Nat.reduceAdd, Nat.zero_add, Nat.reduceLT, Nat.reduceSub, and_assoc, exists_and_left, exists_eq_left, exists_eq_left', Option.some.injEq, Value.int.injEq, Value.ref.injEq, Value.long.injEq, true_and, and_true, exists_eq, exists_true_left]
  refine b_Fi_init_4 ⟨30, rfl, by decide, by decide, by decide, ?_⟩
  try simp only [xw_al, xw_ob0, xw_uob0, xw_1, List.cons_append, List.nil_append, List.length_cons, List.length_nil, jx_born, List.getElem?_cons_zero, List.set_cons_zero, List.set_cons_succ, Nat.reduceAdd, Nat.zero_add, Nat.reduceLT, Nat.reduceSub, and_assoc, exists_and_left, exists_eq_left, exists_eq_left', Option.some.injEq, Value.int.injEq, Value.ref.injEq, Value.long.injEq, true_and, and_true, exists_eq, exists_true_left]
  refine b_Fi_init_5 ⟨30, rfl, by decide, by decide, by decide, ?_⟩
  try simp only [xw_al, xw_ob0, xw_uob0, xw_1, List.cons_append, List.nil_append, List.length_cons, List.length_nil, jx_born, List.getElem?_cons_zero, List.set_cons_zero, List.set_cons_succ, Nat.reduceAdd, Nat.zero_add, Nat.reduceLT, Nat.reduceSub, and_assoc, exists_and_left, exists_eq_left, exists_eq_left', Option.some.injEq, Value.int.injEq, Value.ref.injEq, Value.long.injEq, true_and, and_true, exists_eq, exists_true_left]
  refine b_Fi_init_6 ⟨30, rfl, by decide, by decide, by decide, ?_⟩
  try simp only [xw_al, xw_ob0, xw_uob0, xw_1, List.cons_append, List.nil_append, List.length_cons, List.length_nil, jx_born, List.getElem?_cons_zero, List.set_cons_zero, List.set_cons_succ, Nat.reduceAdd, Nat.zero_add, Nat.reduceLT, Nat.reduceSub, and_assoc, exists_and_left, exists_eq_left, exists_eq_left', Option.some.injEq, Value.int.injEq, Value.ref.injEq, Value.long.injEq, true_and, and_true, exists_eq, exists_true_left]
  refine b_Fi_init_7 ⟨30, rfl, by decide, by decide, by decide, ?_⟩
  try simp only [xw_al, xw_ob0, xw_uob0, xw_1, List.cons_append, List.nil_append, List.length_cons, List.length_nil, jx_born, List.getElem?_cons_zero, List.set_cons_zero, List.set_cons_succ, Nat.reduceAdd, Nat.zero_add, Nat.reduceLT, Nat.reduceSub, and_assoc, exists_and_left, exists_eq_left, exists_eq_left', Option.some.injEq, Value.int.injEq, Value.ref.injEq, Value.long.injEq, true_and, and_true, exists_eq, exists_true_left]
  exact b_Fi_init_8 hK
theorem c_RI {au fd : Nat} (hK : K (xw w [.inr (3, RdF w.1 au fd zF 0), iA 8, iA 8]) none) : zcall n_R_init [.ref w.1, .ref au, .ref fd] (jx_al w (.inr (3, jx_born 3))) K := by
  rw [xw_al0]
  refine e_R_init (b_R_init_0 ?_)
  refine ⟨8, rfl, by decide, by decide, by decide, ?_⟩
  try simp only [xw_al, xw_ob0, xw_uob0, xw_1, List.cons_append, List.nil_append, List.length_cons, List.length_nil, jx_born, List.getElem?_cons_zero, List.set_cons_zero, List.set_cons_succ, Nat.reduceAdd, Nat.zero_add, Nat.reduceLT, Nat.reduceSub, and_assoc, exists_and_left, exists_eq_left, exists_eq_left', Option.some.injEq, Value.int.injEq, Value.ref.injEq, Value.long.injEq, true_and, and_true, exists_eq, exists_true_left]
  refine ⟨8, rfl, by decide, by decide, by decide, ?_⟩
  try simp only [xw_al, xw_ob0, xw_uob0, xw_1, List.cons_append, List.nil_append, List.length_cons, List.length_nil, jx_born, List.getElem?_cons_zero, List.set_cons_zero, List.set_cons_succ, Nat.reduceAdd, Nat.zero_add, Nat.reduceLT, Nat.reduceSub, and_assoc, exists_and_left, exists_eq_left, exists_eq_left', Option.some.injEq, Value.int.injEq, Value.ref.injEq, Value.long.injEq, true_and, and_true, exists_eq, exists_true_left]
  exact hK
theorem c_MI (hK : zcall n_M_lays [.ref w.1] (xw w [.inr (8, mF w.1 zF), .inl (.int, 22416, .inl (upd (fun _ => 0) 56 10)), iA 40, iA 49, iA 392, iA 49, iA 49, iA 49, iA 1274, iA 9, iA 49, iA 49]) (fun w r => r = none ∧ K w none)) : zcall n_M_init [.ref w.1] (jx_al w (.inr (8, jx_born 8))) K := by
  rw [xw_al0]
  refine e_M_init (b_M_init_0 ?_)
  refine ⟨22416, rfl, by decide, by decide, by decide, ?_⟩
  try simp only [xw_al, xw_ob0, xw_uob0, xw_1, List.cons_append, List.nil_append, List.length_cons, List.length_nil, jx_born, List.getElem?_cons_zero, List.set_cons_zero, List.set_cons_succ, Nat.reduceAdd, Nat.zero_add, Nat.reduceLT, Nat.reduceSub, and_assoc, exists_and_left, exists_eq_left, exists_eq_left', Option.some.injEq, Value.int.injEq, Value.ref.injEq, Value.long.injEq, true_and, and_true, exists_eq, exists_true_left]
  refine b_M_init_1 ⟨40, rfl, by decide, by decide, by decide, ?_⟩
  try simp only [xw_al, xw_ob0, xw_uob0, xw_1, List.cons_append, List.nil_append, List.length_cons, List.length_nil, jx_born, List.getElem?_cons_zero, List.set_cons_zero, List.set_cons_succ, Nat.reduceAdd, Nat.zero_add, Nat.reduceLT, Nat.reduceSub, and_assoc, exists_and_left, exists_eq_left, exists_eq_left', Option.some.injEq, Value.int.injEq, Value.ref.injEq, Value.long.injEq, true_and, and_true, exists_eq, exists_true_left]
  refine b_M_init_2 ⟨49, rfl, by decide, by decide, by decide, ?_⟩
  try simp only [xw_al, xw_ob0, xw_uob0, xw_1, List.cons_append, List.nil_append, List.length_cons, List.length_nil, jx_born, List.getElem?_cons_zero, List.set_cons_zero, List.set_cons_succ, Nat.reduceAdd, Nat.zero_add, Nat.reduceLT, Nat.reduceSub, and_assoc, exists_and_left, exists_eq_left, exists_eq_left', Option.some.injEq, Value.int.injEq, Value.ref.injEq, Value.long.injEq, true_and, and_true, exists_eq, exists_true_left]
  refine b_M_init_3 ⟨392, rfl, by decide, by decide, by decide, ?_⟩
  try simp only [xw_al, xw_ob0, xw_uob0, xw_1, List.cons_append, List.nil_append, List.length_cons, List.length_nil, jx_born, List.getElem?_cons_zero, List.set_cons_zero, List.set_cons_succ, Nat.reduceAdd, Nat.zero_add, Nat.reduceLT, Nat.reduceSub, and_assoc, exists_and_left, exists_eq_left, exists_eq_left', Option.some.injEq, Value.int.injEq, Value.ref.injEq, Value.long.injEq, true_and, and_true, exists_eq, exists_true_left]
  refine b_M_init_4 ⟨49, rfl, by decide, by decide, by decide, ?_⟩
  try simp only [xw_al, xw_ob0, xw_uob0, xw_1, List.cons_append, List.nil_append, List.length_cons, List.length_nil, jx_born, List.getElem?_cons_zero, List.set_cons_zero, List.set_cons_succ, Nat.reduceAdd, Nat.zero_add, Nat.reduceLT, Nat.reduceSub, and_assoc, exists_and_left, exists_eq_left, exists_eq_left', Option.some.injEq, Value.int.injEq, Value.ref.injEq, Value.long.injEq, true_and, and_true, exists_eq, exists_true_left]
  refine b_M_init_5 ⟨49, rfl, by decide, by decide, by decide, ?_⟩
  try simp only [xw_al, xw_ob0, xw_uob0, xw_1, List.cons_append, List.nil_append, List.length_cons, List.length_nil, jx_born, List.getElem?_cons_zero, List.set_cons_zero, List.set_cons_succ, Nat.reduceAdd, Nat.zero_add, Nat.reduceLT, Nat.reduceSub, and_assoc, exists_and_left, exists_eq_left, exists_eq_left', Option.some.injEq, Value.int.injEq, Value.ref.injEq, Value.long.injEq, true_and, and_true, exists_eq, exists_true_left]
  refine b_M_init_6 ⟨49, rfl, by decide, by decide, by decide, ?_⟩
  try simp only [xw_al, xw_ob0, xw_uob0, xw_1, List.cons_append, List.nil_append, List.length_cons, List.length_nil, jx_born, List.getElem?_cons_zero, List.set_cons_zero, List.set_cons_succ, Nat.reduceAdd, Nat.zero_add, Nat.reduceLT, Nat.reduceSub, and_assoc, exists_and_left, exists_eq_left, exists_eq_left', Option.some.injEq, Value.int.injEq, Value.ref.injEq, Value.long.injEq, true_and, and_true, exists_eq, exists_true_left]
  refine b_M_init_7 ⟨1274, rfl, by decide, by decide, by decide, ?_⟩
  try simp only [xw_al, xw_ob0, xw_uob0, xw_1, List.cons_append, List.nil_append, List.length_cons, List.length_nil, jx_born, List.getElem?_cons_zero, List.set_cons_zero, List.set_cons_succ, Nat.reduceAdd, Nat.zero_add, Nat.reduceLT, Nat.reduceSub, and_assoc, exists_and_left, exists_eq_left, exists_eq_left', Option.some.injEq, Value.int.injEq, Value.ref.injEq, Value.long.injEq, true_and, and_true, exists_eq, exists_true_left]
  refine b_M_init_8 ⟨9, rfl, by decide, by decide, by decide, ?_⟩
  try simp only [xw_al, xw_ob0, xw_uob0, xw_1, List.cons_append, List.nil_append, List.length_cons, List.length_nil, jx_born, List.getElem?_cons_zero, List.set_cons_zero, List.set_cons_succ, Nat.reduceAdd, Nat.zero_add, Nat.reduceLT, Nat.reduceSub, and_assoc, exists_and_left, exists_eq_left, exists_eq_left', Option.some.injEq, Value.int.injEq, Value.ref.injEq, Value.long.injEq, true_and, and_true, exists_eq, exists_true_left]
  refine b_M_init_9 ⟨49, rfl, by decide, by decide, by decide, ?_⟩
  try simp only [xw_al, xw_ob0, xw_uob0, xw_1, List.cons_append, List.nil_append, List.length_cons, List.length_nil, jx_born, List.getElem?_cons_zero, List.set_cons_zero, List.set_cons_succ, Nat.reduceAdd, Nat.zero_add, Nat.reduceLT, Nat.reduceSub, and_assoc, exists_and_left, exists_eq_left, exists_eq_left', Option.some.injEq, Value.int.injEq, Value.ref.injEq, Value.long.injEq, true_and, and_true, exists_eq, exists_true_left]
  refine b_M_init_10 ⟨49, rfl, by decide, by decide, by decide, ?_⟩
  try simp only [xw_al, xw_ob0, xw_uob0, xw_1, List.cons_append, List.nil_append, List.length_cons, List.length_nil, jx_born, List.getElem?_cons_zero, List.set_cons_zero, List.set_cons_succ, Nat.reduceAdd, Nat.zero_add, Nat.reduceLT, Nat.reduceSub, and_assoc, exists_and_left, exists_eq_left, exists_eq_left', Option.some.injEq, Value.int.injEq, Value.ref.injEq, Value.long.injEq, true_and, and_true, exists_eq, exists_true_left]
  refine b_M_init_11 ?_
  try simp only [xw_al, xw_ob0, xw_uob0, xw_1, List.cons_append, List.nil_append, List.length_cons, List.length_nil, jx_born, List.getElem?_cons_zero, List.set_cons_zero, List.set_cons_succ, Nat.reduceAdd, Nat.zero_add, Nat.reduceLT, Nat.reduceSub, and_assoc, exists_and_left, exists_eq_left, exists_eq_left', Option.some.injEq, Value.int.injEq, Value.ref.injEq, Value.long.injEq, true_and, and_true, exists_eq, exists_true_left]
  refine ⟨22416, _, xw_at (k := 1) (Nat.succ_lt_succ (Nat.succ_pos _)), vp_in_nI (n := 56) (by decide) (by decide), b_M_init_12 ?_⟩
  unfold jx_uia
  rw [xw_up1]
  exact ⟨⟨_, (xw_ob0 w 8 _ _ _).mpr rfl⟩, hK⟩
theorem c_FlI {a0 b au fd : Nat} (hb : w.1 = b + 1) (ha : a0 < w.1) (ho : w.2.2 a0 = some (.inr (2, jx_born 2))) (hK : ∀ w', w'.1 = w.1 + 11 → w'.2.1 = w.2.1 → (∀ x, x < w.1 → x ≠ a0 → w'.2.2 x = w.2.2 x) → w'.2.2 a0 = some (.inr (2, FlF b zF)) → At w' (b + 1) 11 (FbC b au fd ((zF, zR), (zF, zR), (zF, 0, zR))) → K w' none) : zcall n_Fl_init [.ref a0, .ref au, .ref fd] w K := by
  refine e_Fl_init (b_Fl_init_0 ⟨by decide, by decide, by decide, by decide, c_SgI (n := 6) rfl (by decide) ⟨rfl, ?_⟩⟩)
  refine ⟨_, (xw_lo ha).trans ho, by decide, by decide, by decide, by decide, by decide, c_SgI (n := 10) rfl (by decide) ⟨rfl, ?_⟩⟩
  unfold jx_uob
  rw [xw_uplo ha, xw_xw]
  refine ⟨_, (xw_lo (w := jx_up w a0 _) ha).trans (if_pos rfl), (by show 5 < 12; decide), by decide, by decide, by decide, by decide, c_RI ⟨rfl, ?_⟩⟩
  rw [xw_uplo (w := jx_up w a0 _) ha, xw_xw]
  refine ⟨_, (xw_lo (w := jx_up (jx_up w a0 _) a0 _) ha).trans (if_pos rfl), (by show 6 < 12; decide), ?_⟩
  rw [xw_uplo (w := jx_up (jx_up w a0 _) a0 _) ha]
  refine hK _ rfl rfl (fun x hx hne => ?_) ?_ (fun j hj => ?_)
  · exact (xw_lo (w := jx_up (jx_up (jx_up w a0 _) a0 _) a0 _) hx).trans ((if_neg hne).trans ((if_neg hne).trans (if_neg hne)))
  · refine (xw_lo (w := jx_up (jx_up (jx_up w a0 _) a0 _) a0 _) ha).trans ((if_pos rfl).trans ?_)
    show some (Sum.inr (2, [.int 0, .int 0, .int 0, .int 0, .ref w.1, .ref (w.1 + 4), .ref (w.1 + 8), .int 0, .int 0, .int 0, .int 0, .int 0])) = some (Sum.inr (2, FlF b zF))
    rw [hb]; rfl
  · rw [← hb]
    refine (xw_at (w := jx_up (jx_up (jx_up w a0 _) a0 _) a0 _) hj).trans ?_
    show ([Sum.inr (4, SgF w.1 zF), iA 6, iA 6, bA 240, .inr (4, SgF (w.1 + 4) zF), iA 10, iA 10, bA 400, .inr (3, RdF (w.1 + 8) au fd zF 0), iA 8, iA 8] : List jx_E)[j]? = _
    rw [hb]
    exact lt12 (P := fun j => j < 11 → ([Sum.inr (4, SgF (b + 1) zF), iA 6, iA 6, bA 240, .inr (4, SgF (b + 1 + 4) zF), iA 10, iA 10, bA 400, .inr (3, RdF (b + 1 + 8) au fd zF 0), iA 8, iA 8] : List jx_E)[j]? = FbC b au fd ((zF, zR), (zF, zR), (zF, 0, zR)) j) (by omega) (fun _ => rfl) (fun _ => rfl) (fun _ => rfl) (fun _ => rfl) (fun _ => rfl) (fun _ => rfl) (fun _ => rfl) (fun _ => rfl) (fun _ => rfl) (fun _ => rfl) (fun _ => rfl) (fun h => absurd h (by decide)) hj
end CInit
