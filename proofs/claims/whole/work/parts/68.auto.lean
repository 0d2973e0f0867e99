/-! THE AUTOMATON's MATHEMATICS: sequences of letters, their order, the nodes -/
def encA : Nat → List Nat → Nat
  | a, [] => a
  | a, x :: t => encA (27 * a + x + 1) t
def enc (l : List Nat) : Nat := encA 0 l
def lOk (l : List Nat) : Prop := ∀ x ∈ l, x < 26
theorem encA_app {a : Nat} {l m : List Nat} : encA a (l ++ m) = encA (encA a l) m := by
  induction l generalizing a with
  | nil => rfl
  | cons x t ih => exact ih
theorem enc_snoc {l : List Nat} {x : Nat} : enc (l ++ [x]) = 27 * enc l + x + 1 := by
  unfold enc
  rw [encA_app]; rfl
theorem encA_ge {a : Nat} {l : List Nat} : a * 27 ^ l.length ≤ encA a l := by
  induction l generalizing a with
  | nil => show a * 1 ≤ a; omega
  | cons x t ih =>
    refine Nat.le_trans ?_ (ih (a := 27 * a + x + 1))
    rw [List.length_cons, Nat.pow_succ, Nat.mul_comm (27 ^ t.length) 27, ← Nat.mul_assoc]
    exact Nat.mul_le_mul_right _ (by omega)
theorem encA_lt {a : Nat} {l : List Nat} (h : lOk l) : encA a l < (a + 1) * 27 ^ l.length := by
  induction l generalizing a with
  | nil => show a < (a + 1) * 1; omega
  | cons x t ih =>
    have hx : x < 26 := h x (List.mem_cons_self ..)
    refine Nat.lt_of_lt_of_le (ih (a := 27 * a + x + 1) (fun y hy => h y (List.mem_cons_of_mem _ hy))) ?_
    rw [List.length_cons, Nat.pow_succ, Nat.mul_comm (27 ^ t.length) 27, ← Nat.mul_assoc]
    exact Nat.mul_le_mul_right _ (by omega)
theorem enc_len {l m : List Nat} (hl : lOk l) (h : l.length < m.length) : enc l < enc m := by
  match m, h with
  | y :: t, h =>
    have h1 := encA_lt (a := 0) hl
    have h2 := encA_ge (a := 27 * 0 + y + 1) (l := t)
    have h3 : 27 ^ l.length ≤ 27 ^ t.length := Nat.pow_le_pow_right (by decide) (by rw [List.length_cons] at h; omega)
    have h4 : 1 * 27 ^ t.length ≤ (27 * 0 + y + 1) * 27 ^ t.length := Nat.mul_le_mul_right _ (by omega)
    show encA 0 l < encA (27 * 0 + y + 1) t
    omega
theorem encA_inj {l m : List Nat} : ∀ {a b : Nat}, l.length = m.length → lOk l → lOk m → encA a l = encA b m → a = b ∧ l = m := by
  induction l generalizing m with
  | nil =>
    intro a b h _ _ e
    match m, h with
    | [], _ => exact ⟨e, rfl⟩
  | cons x t ih =>
    intro a b h h1 h2 e
    match m, h with
    | y :: u, h =>
      have hx : x < 26 := h1 x (List.mem_cons_self ..)
      have hy : y < 26 := h2 y (List.mem_cons_self ..)
      obtain ⟨e1, e2⟩ := ih (m := u) (by simpa using h) (fun z hz => h1 z (List.mem_cons_of_mem _ hz)) (fun z hz => h2 z (List.mem_cons_of_mem _ hz)) e
      have e3 : x = y := by omega
      exact ⟨by omega, by rw [e2, e3]⟩
theorem enc_inj {l m : List Nat} (hl : lOk l) (hm : lOk m) (e : enc l = enc m) : l = m := by
  rcases Nat.lt_trichotomy l.length m.length with h | h | h
  · have := enc_len hl h; omega
  · exact (encA_inj h hl hm e).2
  · have := enc_len hm h; omega
theorem getD_split {l : List Nat} {i : Nat} (h : i < l.length) : l = l.take i ++ l.getD i 0 :: l.drop (i + 1) := by
  have e : l.getD i 0 = l[i] := by rw [List.getD_eq_getElem?_getD, List.getElem?_eq_getElem h]; rfl
  rw [e, ← List.drop_eq_getElem_cons h, List.take_append_drop]
theorem getD_ext {a b : List Nat} (h : a.length = b.length) (e : ∀ i, i < a.length → a.getD i 0 = b.getD i 0) : a = b := by
  refine List.ext_getElem h (fun i h1 h2 => ?_)
  have := e i h1
  rw [List.getD_eq_getElem?_getD, List.getD_eq_getElem?_getD, List.getElem?_eq_getElem h1, List.getElem?_eq_getElem h2] at this
  exact this
theorem lOk_getD {l : List Nat} (h : lOk l) (i : Nat) : l.getD i 0 < 26 := by
  rw [List.getD_eq_getElem?_getD]
  cases e : l[i]? with
  | none => show 0 < 26; decide
  | some x => exact h x (List.mem_of_getElem? e)
theorem enc_diff {a b : List Nat} {i : Nat} (ha : lOk a) (h : a.length = b.length) (hi : i < a.length) (e : ∀ j, j < i → a.getD j 0 = b.getD j 0) (hlt : a.getD i 0 < b.getD i 0) : enc a < enc b := by
  have hb : i < b.length := by omega
  have ep : a.take i = b.take i := by
    refine List.ext_getElem (by rw [List.length_take, List.length_take, h]) (fun j h1 h2 => ?_)
    rw [List.length_take] at h1 h2
    rw [List.getElem_take, List.getElem_take]
    have := e j (by omega)
    rw [List.getD_eq_getElem?_getD, List.getD_eq_getElem?_getD, List.getElem?_eq_getElem (by omega), List.getElem?_eq_getElem (by omega)] at this
    exact this
  have e1 : enc a = encA (27 * enc (a.take i) + a.getD i 0 + 1) (a.drop (i + 1)) := by
    conv => lhs; rw [getD_split hi]
    unfold enc
    rw [encA_app]; rfl
  have e2 : enc b = encA (27 * enc (a.take i) + b.getD i 0 + 1) (b.drop (i + 1)) := by
    conv => lhs; rw [getD_split hb]
    unfold enc
    rw [encA_app, ep]; rfl
  have l1 := encA_lt (a := 27 * enc (a.take i) + a.getD i 0 + 1) (l := a.drop (i + 1)) (fun x hx => ha x (List.mem_of_mem_drop hx))
  have l2 := encA_ge (a := 27 * enc (a.take i) + b.getD i 0 + 1) (l := b.drop (i + 1))
  rw [List.length_drop] at l1 l2
  rw [← h] at l2
  have l3 : (27 * enc (a.take i) + a.getD i 0 + 1 + 1) * 27 ^ (a.length - (i + 1)) ≤ (27 * enc (a.take i) + b.getD i 0 + 1) * 27 ^ (a.length - (i + 1)) := Nat.mul_le_mul_right _ (by omega)
  rw [e1, e2]
  omega
/-- lists of nodes -/
abbrev aNL : Type := List (List Nat)
def nGet (N : aNL) (i : Nat) : List Nat := N.getD i []
def srt (N : aNL) : Prop := N.Pairwise (fun a b => enc a < enc b)
def posL (x : List Nat) : aNL → Nat
  | [] => 0
  | y :: t => if enc y < enc x then posL x t + 1 else 0
def insN (x : List Nat) (N : aNL) : aNL := if posL x N < N.length ∧ nGet N (posL x N) = x then N else N.take (posL x N) ++ x :: N.drop (posL x N)
def insW (u : List Nat) (N : aNL) : Nat → aNL
  | 0 => N
  | n + 1 => insN (u.take (n + 1)) (insW u N n)
def nodesK (wd : Nat → List Nat) : Nat → aNL
  | 0 => [[]]
  | v + 1 => insW (wd v) (nodesK wd v) (wd v).length
def nodesOf (wd : Nat → List Nat) : aNL := nodesK wd 6
theorem posL_le {x : List Nat} : ∀ {N : aNL}, posL x N ≤ N.length
  | [] => Nat.le_refl _
  | y :: t => by
    unfold posL
    split
    · exact Nat.succ_le_succ posL_le
    · exact Nat.zero_le _
theorem posL_lt {x : List Nat} : ∀ {N : aNL} {i : Nat}, i < posL x N → enc (nGet N i) < enc x
  | [], i, h => absurd h (Nat.not_lt_zero _)
  | y :: t, i, h => by
    unfold posL at h
    split at h
    · rename_i hy
      match i, h with
      | 0, _ => exact hy
      | i + 1, h => exact posL_lt (N := t) (by omega)
    · exact absurd h (Nat.not_lt_zero _)
theorem posL_at {x : List Nat} : ∀ {N : aNL}, posL x N < N.length → ¬ enc (nGet N (posL x N)) < enc x
  | [], h => absurd h (Nat.not_lt_zero _)
  | y :: t, h => by
    unfold posL at h ⊢
    split
    · rename_i hy
      rw [if_pos hy] at h
      exact posL_at (N := t) (by rw [List.length_cons] at h; omega)
    · assumption
theorem nGet_mem {N : aNL} {i : Nat} (h : i < N.length) : nGet N i ∈ N := by
  unfold nGet
  rw [List.getD_eq_getElem?_getD, List.getElem?_eq_getElem h]
  exact List.getElem_mem h
theorem nGet_of {N : aNL} {x : List Nat} (h : x ∈ N) : ∃ i, i < N.length ∧ nGet N i = x := by
  obtain ⟨i, hi, e⟩ := List.getElem_of_mem h
  refine ⟨i, hi, ?_⟩
  unfold nGet
  rw [List.getD_eq_getElem?_getD, List.getElem?_eq_getElem hi]
  exact e
theorem srt_lt {N : aNL} (h : srt N) {i j : Nat} (hij : i < j) (hj : j < N.length) : enc (nGet N i) < enc (nGet N j) := by
  have := List.pairwise_iff_getElem.mp h i j (by omega) hj hij
  unfold nGet
  rw [List.getD_eq_getElem?_getD, List.getD_eq_getElem?_getD, List.getElem?_eq_getElem hj, List.getElem?_eq_getElem (by omega)]
  exact this
theorem srt_inj {N : aNL} (h : srt N) {i j : Nat} (hi : i < N.length) (hj : j < N.length) (e : nGet N i = nGet N j) : i = j := by
  rcases Nat.lt_trichotomy i j with h1 | h1 | h1
  · have := srt_lt h h1 hj
    rw [e] at this; omega
  · exact h1
  · have := srt_lt h h1 hi
    rw [e] at this; omega
theorem insG {N : aNL} {x : List Nat} {p i : Nat} (hp : p ≤ N.length) : nGet (N.take p ++ x :: N.drop p) i = if i < p then nGet N i else if i = p then x else nGet N (i - 1) := by
  unfold nGet
  rw [List.getD_eq_getElem?_getD]
  have hl : (N.take p).length = p := by rw [List.length_take]; omega
  by_cases h1 : i < p
  · rw [if_pos h1, List.getElem?_append_left (by omega), List.getElem?_take, if_pos h1, List.getD_eq_getElem?_getD]
  · rw [if_neg h1, List.getElem?_append_right (by omega), hl]
    by_cases h2 : i = p
    · rw [if_pos h2, h2, Nat.sub_self]; rfl
    · rw [if_neg h2, show i - p = (i - 1 - p) + 1 by omega, List.getElem?_cons_succ, List.getElem?_drop, show p + (i - 1 - p) = i - 1 by omega, List.getD_eq_getElem?_getD]
theorem insN_mem {x z : List Nat} {N : aNL} : z ∈ insN x N ↔ z = x ∨ z ∈ N := by
  unfold insN
  split
  · rename_i h
    constructor
    · exact Or.inr
    · rintro (e | e)
      · rw [e, ← h.2]; exact nGet_mem h.1
      · exact e
  · rw [List.mem_append, List.mem_cons]
    conv => rhs; rw [← List.take_append_drop (posL x N) N, List.mem_append]
    constructor
    · rintro (h | h | h)
      · exact Or.inr (Or.inl h)
      · exact Or.inl h
      · exact Or.inr (Or.inr h)
    · rintro (h | h | h)
      · exact Or.inr (Or.inl h)
      · exact Or.inl h
      · exact Or.inr (Or.inr h)
theorem insN_len {x : List Nat} {N : aNL} : N.length ≤ (insN x N).length ∧ (insN x N).length ≤ N.length + 1 := by
  unfold insN
  split
  · omega
  · have := posL_le (x := x) (N := N)
    rw [List.length_append, List.length_cons, List.length_take, List.length_drop]
    omega
theorem insN_srt {x : List Nat} {N : aNL} (hx : lOk x) (hN : ∀ z ∈ N, lOk z) (h : srt N) : srt (insN x N) := by
  unfold insN
  split
  · exact h
  · rename_i hne
    have hp := posL_le (x := x) (N := N)
    refine List.pairwise_iff_getElem.mpr (fun i j hi hj hij => ?_)
    have key : enc (nGet (N.take (posL x N) ++ x :: N.drop (posL x N)) i) < enc (nGet (N.take (posL x N) ++ x :: N.drop (posL x N)) j) := by
      rw [List.length_append, List.length_cons, List.length_take, List.length_drop] at hi hj
      have hge : ∀ k, posL x N ≤ k → k < N.length → enc x < enc (nGet N k) := fun k h1 h2 => by
        have h3 := posL_at (x := x) (N := N) (by omega)
        have h4 : enc x ≠ enc (nGet N (posL x N)) := fun e => hne ⟨by omega, (enc_inj hx (hN _ (nGet_mem (by omega))) e).symm⟩
        by_cases h5 : k = posL x N
        · rw [h5]; omega
        · have := srt_lt h (i := posL x N) (j := k) (by omega) h2
          omega
      rw [insG hp, insG hp]
      by_cases a1 : i < posL x N
      · rw [if_pos a1]
        by_cases a2 : j < posL x N
        · rw [if_pos a2]; exact srt_lt h hij (by omega)
        · rw [if_neg a2]
          by_cases a3 : j = posL x N
          · rw [if_pos a3]; exact posL_lt a1
          · rw [if_neg a3]; exact Nat.lt_trans (posL_lt a1) (hge _ (by omega) (by omega))
      · rw [if_neg a1]
        by_cases a2 : i = posL x N
        · rw [if_pos a2, if_neg (by omega), if_neg (by omega)]
          exact hge _ (by omega) (by omega)
        · rw [if_neg a2, if_neg (by omega), if_neg (by omega)]
          exact srt_lt h (by omega) (by omega)
    unfold nGet at key
    rw [List.getD_eq_getElem?_getD, List.getD_eq_getElem?_getD, List.getElem?_eq_getElem hi, List.getElem?_eq_getElem hj] at key
    exact key
/-- words as they may be -/
def wdOk (wd : Nat → List Nat) : Prop := ∀ v, v < 6 → (wd v).length ≤ 8 ∧ lOk (wd v)
theorem lOk_take {l : List Nat} {n : Nat} (h : lOk l) : lOk (l.take n) := fun x hx => h x (List.mem_of_mem_take hx)
theorem lOk_drop {l : List Nat} {n : Nat} (h : lOk l) : lOk (l.drop n) := fun x hx => h x (List.mem_of_mem_drop hx)
/-- what a list of nodes is while it grows -/
def nlOk (N : aNL) : Prop := srt N ∧ (∀ z ∈ N, lOk z ∧ z.length ≤ 8) ∧ [] ∈ N
theorem insN_ok {x : List Nat} {N : aNL} (hx : lOk x) (h8 : x.length ≤ 8) (h : nlOk N) : nlOk (insN x N) :=
  ⟨insN_srt hx (fun z hz => (h.2.1 z hz).1) h.1, fun z hz => (insN_mem.mp hz).elim (fun e => by rw [e]; exact ⟨hx, h8⟩) (h.2.1 z), insN_mem.mpr (Or.inr h.2.2)⟩
theorem insW_ok {u : List Nat} {N : aNL} (hu : lOk u) (h8 : u.length ≤ 8) (h : nlOk N) : ∀ n, nlOk (insW u N n)
  | 0 => h
  | n + 1 => insN_ok (lOk_take hu) (by rw [List.length_take]; omega) (insW_ok hu h8 h n)
theorem insW_len {u : List Nat} {N : aNL} : ∀ n, (insW u N n).length ≤ N.length + n
  | 0 => Nat.le_refl _
  | n + 1 => by
    have h1 := insW_len (u := u) (N := N) n
    have h2 := (insN_len (x := u.take (n + 1)) (N := insW u N n)).2
    show (insN (u.take (n + 1)) (insW u N n)).length ≤ _
    omega
theorem insW_mem {u z : List Nat} {N : aNL} : ∀ n, z ∈ insW u N n ↔ z ∈ N ∨ ∃ k, 1 ≤ k ∧ k ≤ n ∧ z = u.take k
  | 0 => ⟨Or.inl, fun h => h.elim id (fun ⟨k, a, b, _⟩ => absurd b (by omega))⟩
  | n + 1 => by
    show z ∈ insN (u.take (n + 1)) (insW u N n) ↔ _
    rw [insN_mem, insW_mem n]
    constructor
    · rintro (h | h | ⟨k, a, b, c⟩)
      · exact Or.inr ⟨n + 1, by omega, Nat.le_refl _, h⟩
      · exact Or.inl h
      · exact Or.inr ⟨k, a, by omega, c⟩
    · rintro (h | ⟨k, a, b, c⟩)
      · exact Or.inr (Or.inl h)
      · by_cases e : k = n + 1
        · exact Or.inl (by rw [← e]; exact c)
        · exact Or.inr (Or.inr ⟨k, a, by omega, c⟩)
theorem nodesK_ok {wd : Nat → List Nat} (h : wdOk wd) : ∀ v, v ≤ 6 → nlOk (nodesK wd v) ∧ (nodesK wd v).length ≤ 1 + 8 * v
  | 0, _ => ⟨⟨List.pairwise_singleton _ _, fun z hz => by rw [List.mem_singleton.mp hz]; exact ⟨fun x hx => (by cases hx), Nat.zero_le _⟩, List.mem_singleton.mpr rfl⟩, Nat.le_refl _⟩
  | v + 1, hv => by
    obtain ⟨h1, h2⟩ := nodesK_ok h v (by omega)
    obtain ⟨w1, w2⟩ := h v (by omega)
    refine ⟨insW_ok w2 w1 h1 _, ?_⟩
    have := insW_len (u := wd v) (N := nodesK wd v) (wd v).length
    show (insW (wd v) (nodesK wd v) (wd v).length).length ≤ _
    omega
theorem nodesK_mem {wd : Nat → List Nat} {z : List Nat} : ∀ v, z ∈ nodesK wd v ↔ z = [] ∨ ∃ u, u < v ∧ ∃ k, 1 ≤ k ∧ k ≤ (wd u).length ∧ z = (wd u).take k
  | 0 => ⟨fun h => Or.inl (List.mem_singleton.mp h), fun h => h.elim (fun e => List.mem_singleton.mpr e) (fun ⟨u, a, _⟩ => absurd a (Nat.not_lt_zero _))⟩
  | v + 1 => by
    show z ∈ insW (wd v) (nodesK wd v) (wd v).length ↔ _
    rw [insW_mem, nodesK_mem v]
    constructor
    · rintro ((h | ⟨u, a, b⟩) | ⟨k, a⟩)
      · exact Or.inl h
      · exact Or.inr ⟨u, by omega, b⟩
      · exact Or.inr ⟨v, by omega, k, a⟩
    · rintro (h | ⟨u, a, b⟩)
      · exact Or.inl (Or.inl h)
      · by_cases e : u = v
        · rw [e] at b; exact Or.inr b
        · exact Or.inl (Or.inr ⟨u, by omega, b⟩)
theorem nGet0 {N : aNL} (h : nlOk N) : nGet N 0 = [] := by
  obtain ⟨i, hi, e⟩ := nGet_of h.2.2
  rcases Nat.eq_zero_or_pos i with h0 | h0
  · rw [← h0]; exact e
  · have := srt_lt h.1 h0 hi
    rw [e] at this
    exact absurd this (Nat.not_lt_zero _)
theorem nGet_pos {N : aNL} (h : nlOk N) {i : Nat} (hi : i < N.length) (h0 : 0 < i) : nGet N i ≠ [] := fun e => by
  have := srt_inj h.1 hi (by omega) (e.trans (nGet0 h).symm)
  omega
/-- the node of a sequence -/
def nIx (N : aNL) (x : List Nat) : Nat → Nat → Option Nat
  | 0, _ => none
  | n + 1, i => if nGet N i = x then some i else nIx N x n (i + 1)
def nodeIx (N : aNL) (x : List Nat) : Option Nat := nIx N x N.length 0
theorem nIx_some {N : aNL} {x : List Nat} : ∀ {n i k : Nat}, nIx N x n i = some k → i ≤ k ∧ k < i + n ∧ nGet N k = x
  | 0, i, k, h => by cases h
  | n + 1, i, k, h => by
    unfold nIx at h
    split at h
    · cases h; exact ⟨Nat.le_refl _, by omega, by assumption⟩
    · have := nIx_some h
      exact ⟨by omega, by omega, this.2.2⟩
theorem nIx_none {N : aNL} {x : List Nat} : ∀ {n i k : Nat}, nIx N x n i = none → i ≤ k → k < i + n → nGet N k ≠ x
  | 0, i, k, _, h1, h2 => absurd h2 (by omega)
  | n + 1, i, k, h, h1, h2 => by
    unfold nIx at h
    split at h
    · cases h
    · by_cases e : k = i
      · rw [e]; assumption
      · exact nIx_none h (by omega) (by omega)
theorem nodeIx_lt {N : aNL} {x : List Nat} {k : Nat} (h : nodeIx N x = some k) : k < N.length ∧ nGet N k = x := by
  have := nIx_some h
  exact ⟨by omega, this.2.2⟩
theorem nodeIx_of {N : aNL} {x : List Nat} (h : x ∈ N) : ∃ k, nodeIx N x = some k := by
  cases e : nodeIx N x with
  | some k => exact ⟨k, rfl⟩
  | none =>
    obtain ⟨i, hi, ei⟩ := nGet_of h
    exact absurd ei (nIx_none e (Nat.zero_le _) (by omega))
theorem nodeIx_at {N : aNL} (hN : srt N) {k : Nat} (h : k < N.length) : nodeIx N (nGet N k) = some k := by
  obtain ⟨j, hj⟩ := nodeIx_of (nGet_mem h)
  obtain ⟨h1, h2⟩ := nodeIx_lt hj
  rw [hj, srt_inj hN h1 h h2]
theorem nodeIx_no {N : aNL} {x : List Nat} : nodeIx N x = none ↔ x ∉ N := by
  constructor
  · intro h hx
    obtain ⟨k, hk⟩ := nodeIx_of hx
    rw [h] at hk; cases hk
  · intro h
    cases e : nodeIx N x with
    | none => rfl
    | some k => exact absurd (by rw [← (nodeIx_lt e).2]; exact nGet_mem (nodeIx_lt e).1) h
/-- the last n letters -/
def sfx (x : List Nat) (n : Nat) : List Nat := x.drop (x.length - n)
def lgst (N : aNL) (x : List Nat) : Nat → Nat
  | 0 => 0
  | n + 1 => match nodeIx N (sfx x (n + 1)) with
    | some k => k
    | none => lgst N x n
theorem lgst_lt {N : aNL} {x : List Nat} (hN : 1 ≤ N.length) : ∀ n, lgst N x n < N.length
  | 0 => hN
  | n + 1 => by
    unfold lgst
    split
    · rename_i k e; exact (nodeIx_lt e).1
    · exact lgst_lt hN n
def endsW (u x : List Nat) : Bool := decide (u.length ≠ 0) && (decide (u.length ≤ x.length) && decide (sfx x u.length = u))
def setK (wd : Nat → List Nat) (x : List Nat) : Nat → Nat
  | 0 => 0
  | v + 1 => setK wd x v ||| (if endsW (wd v) x then 2 ^ v else 0)
theorem setK_lt {wd : Nat → List Nat} {x : List Nat} : ∀ {v : Nat}, v ≤ 6 → setK wd x v < 64
  | 0, _ => by show 0 < 64; decide
  | v + 1, h => by
    refine Nat.or_lt_two_pow (n := 6) (setK_lt (by omega)) ?_
    split
    · exact Nat.pow_lt_pow_right (by decide) (by omega)
    · decide
theorem setK_bit {wd : Nat → List Nat} {x : List Nat} : ∀ {v u : Nat}, (setK wd x v).testBit u = (decide (u < v) && endsW (wd u) x)
  | 0, u => by
    show (0 : Nat).testBit u = _
    rw [Nat.zero_testBit]
    rfl
  | v + 1, u => by
    show (setK wd x v ||| _).testBit u = _
    rw [Nat.testBit_or, setK_bit (v := v)]
    by_cases h : u = v
    · subst h
      rw [decide_eq_false (Nat.lt_irrefl _), decide_eq_true (Nat.lt_succ_self _), Bool.false_and, Bool.false_or, Bool.true_and]
      cases e : endsW (wd u) x with
      | true => rw [if_pos rfl, Nat.testBit_two_pow_self]
      | false => rw [if_neg (by decide), Nat.zero_testBit]
    · have e2 : (if endsW (wd v) x = true then 2 ^ v else 0).testBit u = false := by
        split
        · rw [Nat.testBit_two_pow_of_ne (by omega)]
        · rw [Nat.zero_testBit]
      rw [e2, Bool.or_false]
      congr 1
      exact decide_eq_decide.mpr (by omega)
def auNx (N : aNL) (n l : Nat) : Nat := lgst N (nGet N n ++ [l]) (min 8 ((nGet N n).length + 1))
def auFa (N : aNL) (n : Nat) : Nat := lgst N (nGet N n) ((nGet N n).length - 1)
def auPa (N : aNL) (n : Nat) : Nat := (nodeIx N ((nGet N n).take ((nGet N n).length - 1))).getD 0
def auOf (wd : Nat → List Nat) : aAU := ((nodesOf wd).length, auNx (nodesOf wd), fun n => setK wd (nGet (nodesOf wd) n) 6, fun v => (wd v).length)
theorem nodes_ok {wd : Nat → List Nat} (h : wdOk wd) : nlOk (nodesOf wd) ∧ (nodesOf wd).length ≤ 49 := nodesK_ok h 6 (Nat.le_refl _)
theorem nl_pos {N : aNL} (h : nlOk N) : 1 ≤ N.length := by
  obtain ⟨i, hi, -⟩ := nGet_of h.2.2
  omega
theorem endsW_len {u x : List Nat} (h : endsW u x = true) : 1 ≤ u.length ∧ u.length ≤ x.length ∧ sfx x u.length = u := by
  unfold endsW at h
  simp only [Bool.and_eq_true, decide_eq_true_eq] at h
  exact ⟨by omega, h.2.1, h.2.2⟩
theorem lgst_len {N : aNL} {x : List Nat} (hN : nlOk N) : ∀ n, (nGet N (lgst N x n)).length ≤ n
  | 0 => by
    show (nGet N 0).length ≤ 0
    rw [nGet0 hN]; exact Nat.le_refl _
  | n + 1 => by
    unfold lgst
    split
    · rename_i k e
      rw [(nodeIx_lt e).2]
      unfold sfx
      rw [List.length_drop]; omega
    · exact Nat.le_trans (lgst_len hN n) (Nat.le_succ n)
theorem au_ok {wd : Nat → List Nat} (h : wdOk wd) : auOk (auOf wd) := by
  obtain ⟨h1, h2⟩ := nodes_ok h
  have hp := nl_pos h1
  refine ⟨hp, h2, fun n l _ _ => lgst_lt hp _, fun n _ => setK_lt (Nat.le_refl _), ?_, fun v hv => (h v hv).1, fun n v _ hv hb => ?_, fun n => (nGet (nodesOf wd) n).length, ?_, ?_, fun n l _ _ => ?_, fun n v _ hv hb => ?_⟩
  · show setK wd (nGet (nodesOf wd) 0) 6 = 0
    rw [nGet0 h1]
    refine Nat.eq_of_testBit_eq (fun u => ?_)
    rw [setK_bit, Nat.zero_testBit]
    cases e : endsW (wd u) [] with
    | false => rw [Bool.and_false]
    | true =>
      have := endsW_len e
      rw [List.length_nil] at this
      omega
  · have hb : (setK wd (nGet (nodesOf wd) n) 6).testBit v = true := hb
    rw [setK_bit] at hb
    simp only [Bool.and_eq_true] at hb
    exact (endsW_len hb.2).1
  · show (nGet (nodesOf wd) 0).length ≤ 0
    rw [nGet0 h1]; exact Nat.le_refl _
  · show (nGet (nodesOf wd) 0).length = 0
    rw [nGet0 h1]; rfl
  · show (nGet (nodesOf wd) (auNx (nodesOf wd) n l)).length ≤ (nGet (nodesOf wd) n).length + 1
    exact Nat.le_trans (lgst_len h1 _) (Nat.min_le_right _ _)
  · have hb : (setK wd (nGet (nodesOf wd) n) 6).testBit v = true := hb
    rw [setK_bit] at hb
    simp only [Bool.and_eq_true] at hb
    exact (endsW_len hb.2).2.1
