/-! CONSTRUCTORS: a state -/
def zX : cFl := (zF, (zF, zR), (zF, zR), (zF, 0, zR))
def SIk (w : jx_W) (s au : Nat) (V : jx_W) (k : Nat) : Prop := V.1 = s + 11 + 12 * k ∧ V.2.1 = w.2.1 ∧ (∀ x, x < s ∨ (s < x ∧ x < s + 6) → V.2.2 x = w.2.2 x) ∧ V.2.2 s = some (.inr (5, StF s zF)) ∧ At V (s + 6) 3 (WdC (s + 6) zR) ∧ V.2.2 (s + 9) = some (.inl (.int, 3, .inl (upd zF 2 10))) ∧ (∃ f : Nat → Option Nat, V.2.2 (s + 10) = some (.inl (.object (jx_nm 2), 4, .inr (.inr (.inr (.inr f))))) ∧ ∀ j, j < k → f j = some (s + 11 + 12 * j)) ∧ ∀ j, j < k → FAt V (s + 11 + 12 * j) 0 au (s + 1) zX
section CInit2
variable {w : jx_W} {K : jx_Q}
theorem c_StI_loop {s au : Nat} (hK : ∀ V, SIk w s au V 4 → K V none) : ∀ (m k : Nat), k + m = 4 → ∀ V, SIk w s au V k → zwp n_St_init 8 [(0, .ref s), (1, .ref au), (2, .ref (s + 1)), (3, .int (nI k))] [] (12 * m) (891 * m) V K := by
  intro m
  induction m with
  | zero =>
    intro k hk V hV
    obtain rfl : k = 4 := by omega
    exact b_St_init_8 ⟨fun _ => b_St_init_10 (hK V hV), fun z => absurd (by decide) z⟩
  | succ m ih =>
    intro k hk V hV
    obtain ⟨v1, v2, v3, v4, v5, v6, ⟨f, v7, v8⟩, v9⟩ := hV
    refine b_St_init_8 ⟨fun z => absurd ((nI_leI (a := 4) (by decide) (by omega)).mp z) (by omega), fun _ => ⟨_, s + 10, v4, rfl, by omega, by omega, by omega, by omega, ?_⟩⟩
    refine c_FlI (b := V.1) rfl (Nat.lt_succ_self _) (if_pos rfl) (fun w' c1 c2 c3 c4 c5 => ⟨rfl, 4, f, _, ?_, c4, vin4 (by omega), b_St_init_9 ?_⟩)
    · have lo : ∀ x, x < V.1 → w'.2.2 x = V.2.2 x := fun x hx => (c3 x (by show x < V.1 + 1; omega) (by omega)).trans (if_neg (by omega))
      exact (lo (s + 10) (by omega)).trans v7
    · have lo : ∀ x, x < V.1 → w'.2.2 x = V.2.2 x := fun x hx => (c3 x (by show x < V.1 + 1; omega) (by omega)).trans (if_neg (by omega))
      rw [nI_1, show 12 * (m + 1) - 1 - 11 = 12 * m by omega, show 891 * (m + 1) - 12 - 879 = 891 * m by omega, nI_clamp (by omega)]
      have up : ∀ x, x ≠ s + 10 → (jx_ura w' (s + 10) (jx_nm 2) 4 (va_up f k (some V.1))).2.2 x = w'.2.2 x := fun x hx => if_neg hx
      have hl : ∀ x, x < V.1 → x ≠ s + 10 → (jx_ura w' (s + 10) (jx_nm 2) 4 (va_up f k (some V.1))).2.2 x = V.2.2 x := fun x hx hne => (up x hne).trans (lo x hx)
      refine ih (k + 1) (by omega) _ ⟨?_, c2.trans v2, fun x hx => (hl x (by omega) (by omega)).trans (v3 x hx), (hl s (by omega) (by omega)).trans v4, fun j hj => (hl _ (by omega) (by omega)).trans (v5 j hj), (hl _ (by omega) (by omega)).trans v6, ⟨_, if_pos rfl, fun j hj => ?_⟩, fun j hj => ?_⟩
      · show w'.1 = _
        rw [c1]
        show V.1 + 1 + 11 = _
        omega
      · by_cases e : j = k
        · rw [e, va_up_self, v1]
        · rw [va_up_ne _ _ e]; exact v8 j (by omega)
      · by_cases e : j = k
        · rw [e, ← v1]
          exact ⟨(up _ (by omega)).trans c4, fun i hi => (up _ (by omega)).trans (c5 i hi)⟩
        · obtain ⟨a1, a2⟩ := v9 j (by omega)
          exact ⟨(hl _ (by omega) (by omega)).trans a1, fun i hi => (hl _ (by omega) (by omega)).trans (a2 i hi)⟩
theorem c_StI_tail {s au : Nat} {U : jx_W} (hK : ∀ V, SIk w s au V 4 → K V none) (us : U.2.2 s = some (.inr (5, StF s zF))) (ul : ∀ x, x ≠ s → U.2.2 x = w.2.2 x) (u1 : U.1 = s + 6) (u2 : U.2.1 = w.2.1) : zwp n_St_init 6 [(0, .ref s), (1, .ref au), (2, .ref (s + 1))] [] 48 3564 (xw U [.inr (6, WdF (s + 6)), iA 6, bA 48, iA 3, .inl (.object (jx_nm 2), 4, .inr (.inr (.inr (.inr (fun _ => none)))))]) K := by
  have c : ∀ k, k < 5 → (xw U [.inr (6, WdF (s + 6)), iA 6, bA 48, iA 3, .inl (.object (jx_nm 2), 4, .inr (.inr (.inr (.inr (fun _ => none)))))]).2.2 (s + 6 + k) = ([.inr (6, WdF (s + 6)), iA 6, bA 48, iA 3, .inl (.object (jx_nm 2), 4, .inr (.inr (.inr (.inr (fun _ => none)))))] : List jx_E)[k]? := fun k hk => by
    rw [← u1]; exact xw_at hk
  have l : ∀ x, x < s + 6 → (xw U [.inr (6, WdF (s + 6)), iA 6, bA 48, iA 3, .inl (.object (jx_nm 2), 4, .inr (.inr (.inr (.inr (fun _ => none)))))]).2.2 x = U.2.2 x := fun x hx => xw_lo (by omega)
  have n1 : (xw U [.inr (6, WdF (s + 6)), iA 6, bA 48, iA 3, .inl (.object (jx_nm 2), 4, .inr (.inr (.inr (.inr (fun _ => none)))))]).1 = s + 11 := by
    show U.1 + 5 = _
    omega
  have n2 : (xw U [.inr (6, WdF (s + 6)), iA 6, bA 48, iA 3, .inl (.object (jx_nm 2), 4, .inr (.inr (.inr (.inr (fun _ => none)))))]).2.1 = w.2.1 := u2
  revert c l n1 n2
  generalize xw U [.inr (6, WdF (s + 6)), iA 6, bA 48, iA 3, .inl (.object (jx_nm 2), 4, .inr (.inr (.inr (.inr (fun _ => none)))))] = V
  intro c l n1 n2
  have e2 : (2 : Int32).toNatClampNeg = 2 := by decide
  refine b_St_init_6 ⟨_, s + 9, (l s (by omega)).trans us, rfl, 3, fun _ => 0, c 3 (by decide), vp_in_nI (n := 2) (by decide) (by decide), b_St_init_7 ?_⟩
  rw [e2]
  refine c_StI_loop hK 4 0 rfl _ ⟨n1, n2, fun x hx => ?_, ?_, fun j hj => ?_, if_pos rfl, ⟨(fun _ => none : Nat → Option Nat), ?_, fun j hj => absurd hj (Nat.not_lt_zero j)⟩, fun j hj => absurd hj (Nat.not_lt_zero j)⟩
  · exact (if_neg (by omega)).trans ((l x (by omega)).trans (ul x (by omega)))
  · exact (if_neg (by omega)).trans ((l s (by omega)).trans us)
  · refine (if_neg (by omega)).trans ((c j (by omega)).trans ?_)
    obtain rfl | rfl | rfl : j = 0 ∨ j = 1 ∨ j = 2 := by omega
    · rfl
    · rfl
    · rfl
  · exact (if_neg (by omega)).trans (c 4 (by decide))
theorem c_StI {s au : Nat} (hw : w.1 = s + 6) (ho : w.2.2 s = some (.inr (5, jx_born 5))) (hK : ∀ V, SIk w s au V 4 → K V none) : zcall n_St_init [.ref s, .ref au, .ref (s + 1)] w K := by
  have hs : s < w.1 := by omega
  refine e_St_init (b_St_init_0 ⟨by decide, by decide, by decide, by decide, c_WoI ⟨rfl, ?_⟩⟩)
  refine ⟨_, (xw_lo hs).trans ho, by decide, ?_⟩
  unfold jx_uob
  rw [xw_uplo hs]
  refine b_St_init_1 ⟨3, rfl, by decide, by decide, by decide, ?_⟩
  rw [xw_al]
  refine ⟨_, (xw_lo (w := jx_up w s _) hs).trans (if_pos rfl), (by show 1 < 6; decide), ?_⟩
  unfold jx_uob
  rw [xw_uplo (w := jx_up w s _) hs]
  refine b_St_init_2 ⟨4, rfl, by decide, by decide, by decide, ?_⟩
  rw [xw_al]
  refine ⟨_, (xw_lo (w := jx_up (jx_up w s _) s _) hs).trans (if_pos rfl), (by show 3 < 6; decide), ?_⟩
  unfold jx_uob
  rw [xw_uplo (w := jx_up (jx_up w s _) s _) hs]
  refine b_St_init_3 ⟨_, (xw_lo (w := jx_up (jx_up (jx_up w s _) s _) s _) hs).trans (if_pos rfl), (by show 4 < 6; decide), ?_⟩
  unfold jx_uob
  rw [xw_uplo (w := jx_up (jx_up (jx_up w s _) s _) s _) hs]
  refine b_St_init_4 ⟨_, (xw_lo (w := jx_up (jx_up (jx_up (jx_up w s _) s _) s _) s _) hs).trans (if_pos rfl), (by show 5 < 6; decide), ?_⟩
  unfold jx_uob
  rw [xw_uplo (w := jx_up (jx_up (jx_up (jx_up w s _) s _) s _) s _) hs]
  refine b_St_init_5 ⟨_, (xw_lo (w := jx_up (jx_up (jx_up (jx_up (jx_up w s _) s _) s _) s _) s _) hs).trans (if_pos rfl), (by show 2 < 6; decide), ?_⟩
  unfold jx_uob
  rw [xw_uplo (w := jx_up (jx_up (jx_up (jx_up (jx_up w s _) s _) s _) s _) s _) hs]
  have hrw : ∀ (U : jx_W) (L : List jx_E), L = [.inr (6, WdF (s + 6)), iA 6, bA 48, iA 3, .inl (.object (jx_nm 2), 4, .inr (.inr (.inr (.inr (fun _ => none)))))] → U.2.2 s = some (.inr (5, StF s zF)) → (∀ x, x ≠ s → U.2.2 x = w.2.2 x) → U.1 = s + 6 → U.2.1 = w.2.1 → zwp n_St_init 6 [(0, .ref s), (1, .ref au), (2, .ref (s + 1))] [] 48 3564 (xw U L) K := fun U L e a1 a2 a3 a4 => by
    rw [e]; exact c_StI_tail hK a1 a2 a3 a4
  refine hrw _ _ ?_ ?_ (fun x hx => (if_neg hx).trans ((if_neg hx).trans ((if_neg hx).trans ((if_neg hx).trans ((if_neg hx).trans (if_neg hx)))))) hw rfl
  · show ([.inr (6, WdF w.1), iA 6, bA 48, iA 3, .inl (.object (jx_nm 2), 4, .inr (.inr (.inr (.inr (fun _ => none)))))] : List jx_E) = _
    rw [hw]
  · refine (if_pos rfl).trans ?_
    show some (Sum.inr (5, [Value.ref w.1, Value.ref (w.1 + 3), Value.ref (s + 1), Value.ref (w.1 + 4), Value.int 0, Value.int 0])) = _
    rw [hw]; rfl
end CInit2
