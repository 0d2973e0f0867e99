/-! THE CLASS: a state: its object, settings, the order of its flows -/
def StF (s : Nat) (c : Nat → Int32) : List Value := [.ref (s + 6), .ref (s + 9), .ref (s + 1), .ref (s + 10), .int (c 4), .int (c 5)]
theorem StF_0 (s : Nat) (c : Nat → Int32) : (StF s c)[0]? = some (.ref (s + 6)) := rfl
theorem StF_1 (s : Nat) (c : Nat → Int32) : (StF s c)[1]? = some (.ref (s + 9)) := rfl
theorem StF_2 (s : Nat) (c : Nat → Int32) : (StF s c)[2]? = some (.ref (s + 1)) := rfl
theorem StF_3 (s : Nat) (c : Nat → Int32) : (StF s c)[3]? = some (.ref (s + 10)) := rfl
theorem StF_4 (s : Nat) (c : Nat → Int32) : (StF s c)[4]? = some (.int (c 4)) := rfl
theorem StF_5 (s : Nat) (c : Nat → Int32) : (StF s c)[5]? = some (.int (c 5)) := rfl
theorem StF_s4 (s : Nat) (c : Nat → Int32) (x : Int32) : (StF s c).set 4 (.int x) = StF s (upd c 4 x) := rfl
theorem StF_s5 (s : Nat) (c : Nat → Int32) (x : Int32) : (StF s c).set 5 (.int x) = StF s (upd c 5 x) := rfl
theorem StF_len (s : Nat) (c : Nat → Int32) : (StF s c).length = 6 := rfl
def ShC (se : Nat → Int32) (f : Nat → Option Nat) : Nat → Option jx_E
  | 0 => some (.inl (.int, 3, .inl se))
  | 1 => some (.inl (.object (jx_nm 2), 4, .inr (.inr (.inr (.inr f)))))
  | _ => none
def SoC (s : Nat) (c : Nat → Int32) : Nat → Option jx_E := fun _ => some (.inr (5, StF s c))
def Shw (W : jx_W) (s : Nat) (c se : Nat → Int32) (f : Nat → Option Nat) : jx_W := bw (bw W (s + 9) 2 (ShC se f)) s 1 (SoC s c)
def HAt (W : jx_W) (s : Nat) (c se : Nat → Int32) (f : Nat → Option Nat) : Prop := W.2.2 s = some (.inr (5, StF s c)) ∧ At W (s + 9) 2 (ShC se f)
section Sh
variable (W : jx_W) (s : Nat) (c se : Nat → Int32) (f : Nat → Option Nat)
theorem Shw_at : HAt (Shw W s c se f) s c se f := ⟨bw_at (k := 0) (by decide), At_out At_bw (by omega)⟩
theorem Shw_ob (fs : List Value) : jx_ob (Shw W s c se f) s 5 fs ↔ fs = StF s c := ob_iff (bw_at (k := 0) (by decide))
theorem Shw_uob (c' : Nat → Int32) : jx_uob (Shw W s c se f) s 5 (StF s c') = Shw W s c' se f := (bw_up (k := 0) (by decide)).trans (bw_congr (fun j h => by
  obtain rfl : j = 0 := by omega
  rfl))
theorem Shw_9 (n : Nat) (g : Nat → Int32) : jx_ia (Shw W s c se f) (s + 9) n g ↔ n = 3 ∧ g = se := ia_iff ((Shw_at W s c se f).2 0 (by decide))
theorem Shw_g9 : (Shw W s c se f).2.2 (s + 9) = some (.inl (.int, 3, .inl se)) := (Shw_at W s c se f).2 0 (by decide)
theorem Shw_10 (n : Nat) (g : Nat → Option Nat) : jx_ra (Shw W s c se f) (s + 10) (jx_nm 2) n g ↔ n = 4 ∧ g = f := ra_iff ((Shw_at W s c se f).2 1 (by decide))
theorem Shw_v9 (g : Nat → Int32) : jx_up (Shw W s c se f) (s + 9) (.inl (.int, 3, .inl g)) = Shw W s c g f := by
  unfold Shw
  rw [bw_up_out (by omega)]
  congr 1
  refine (bw_up (k := 0) (by decide)).trans (bw_congr (fun j h => ?_))
  obtain rfl | rfl : j = 0 ∨ j = 1 := by omega
  · rfl
  · rfl
theorem Shw_u9 (g : Nat → Int32) : jx_uia (Shw W s c se f) (s + 9) 3 g = Shw W s c g f := Shw_v9 W s c se f g
theorem Shw_u10 (g : Nat → Option Nat) : jx_ura (Shw W s c se f) (s + 10) (jx_nm 2) 4 g = Shw W s c se g := by
  show jx_up (bw (bw W (s + 9) 2 (ShC se f)) s 1 (SoC s c)) (s + 9 + 1) _ = _
  unfold Shw
  rw [bw_up_out (by omega)]
  congr 1
  refine (bw_up (k := 1) (by decide)).trans (bw_congr (fun j h => ?_))
  obtain rfl | rfl : j = 0 ∨ j = 1 := by omega
  · rfl
  · rfl
end Sh
theorem Shw_eq {W : jx_W} {s : Nat} {c se : Nat → Int32} {f : Nat → Option Nat} (h : HAt W s c se f) : Shw W s c se f = W := by
  unfold Shw
  rw [bw_self h.2]
  refine bw_self (fun j hj => ?_)
  obtain rfl : j = 0 := by omega
  exact h.1
theorem Shw_same {W : jx_W} {s : Nat} {c se c' se' : Nat → Int32} {f f' : Nat → Option Nat} : Shw (Shw W s c se f) s c' se' f' = Shw W s c' se' f' := by
  unfold Shw
  rw [bw_comm (b := s) (n := 1) (b' := s + 9) (n' := 2) (by omega), bw_same, bw_same]
theorem HAt_out {W : jx_W} {s : Nat} {c se : Nat → Int32} {f : Nat → Option Nat} {b n : Nat} {C : Nat → Option jx_E} (h : HAt W s c se f) (h1 : b + n ≤ s ∨ s < b) (h2 : b + n ≤ s + 9 ∨ s + 11 ≤ b) : HAt (bw W b n C) s c se f := ⟨(bw_out (by omega)).trans h.1, At_out h.2 (by omega)⟩
/-- nothing changes but in the n cells from b on -/
def Fr (W W' : jx_W) (b n : Nat) : Prop := W'.1 = W.1 ∧ W'.2.1 = W.2.1 ∧ ∀ x, x < b ∨ b + n ≤ x → W'.2.2 x = W.2.2 x
theorem Fr.rf {W : jx_W} {b n : Nat} : Fr W W b n := ⟨rfl, rfl, fun _ _ => rfl⟩
theorem Fr.tr {W W1 W2 : jx_W} {b n : Nat} (h : Fr W W1 b n) (h' : Fr W1 W2 b n) : Fr W W2 b n := ⟨h'.1.trans h.1, h'.2.1.trans h.2.1, fun x hx => (h'.2.2 x hx).trans (h.2.2 x hx)⟩
theorem Fr.bw {W W1 : jx_W} {b n b' n' : Nat} {C : Nat → Option jx_E} (h : Fr W W1 b n) (h1 : b ≤ b') (h2 : b' + n' ≤ b + n) : Fr W (bw W1 b' n' C) b n := ⟨h.1, h.2.1, fun x hx => (bw_out (by omega)).trans (h.2.2 x hx)⟩
theorem Fr.wide {W W1 : jx_W} {b n b' n' : Nat} (h : Fr W W1 b' n') (h1 : b ≤ b') (h2 : b' + n' ≤ b + n) : Fr W W1 b n := ⟨h.1, h.2.1, fun x hx => h.2.2 x (by omega)⟩
theorem At.fr {W W' : jx_W} {b n b' n' : Nat} {C : Nat → Option jx_E} (h : At W b' n' C) (hf : Fr W W' b n) (hd : b' + n' ≤ b ∨ b + n ≤ b') : At W' b' n' C := fun j hj => (hf.2.2 _ (by omega)).trans (h j hj)
/-- the data of a state: ints, settings, order, finds, words, flows -/
abbrev cSt : Type := (Nat → Int32) × (Nat → Int32) × (Nat → Option Nat) × cSg × (Nat → Nat → Int32) × (Nat → cFl)
def SAt (W : jx_W) (s au : Nat) (Y : cSt) : Prop := HAt W s Y.1 Y.2.1 Y.2.2.1 ∧ At W (s + 1) 5 (FdC (s + 1) Y.2.2.2.1.1 Y.2.2.2.1.2) ∧ At W (s + 6) 3 (WdC (s + 6) Y.2.2.2.2.1) ∧ ∀ k, k < 4 → FAt W (s + 11 + 12 * k) 0 au (s + 1) (Y.2.2.2.2.2 k)
def OD (s : Nat) (f : Nat → Option Nat) (od : Nat → Nat) : Prop := (∀ i, i < 4 → od i < 4) ∧ (∀ i j, i < 4 → j < 4 → od i = od j → i = j) ∧ ∀ i, i < 4 → f i = some (s + 11 + 12 * od i)
def STr (s : Nat) (od : Nat → Nat) (Y : cSt) (st : aSt) : Prop := WDr Y.2.2.2.2.1 st.1 ∧ (Y.2.1 0 = nI st.2.1.1 ∧ Y.2.1 1 = nI st.2.1.2.1 ∧ Y.2.1 2 = nI st.2.1.2.2) ∧ FDr Y.2.2.2.1.1 Y.2.2.2.1.2 st.2.2.1 ∧ (Y.1 4 = nI st.2.2.2.1.length ∧ st.2.2.2.1.length ≤ 4) ∧ Y.1 5 = nI st.2.2.2.2 ∧ OD s Y.2.2.1 od ∧ ∀ i, i < st.2.2.2.1.length → ∃ f0, FWr f0 (Y.2.2.2.2.2 (od i)) (fGet st.2.2.2.1 i).1 (fGet st.2.2.2.1 i).2.1 (fGet st.2.2.2.1 i).2.2
theorem FAt.out {W : jx_W} {a au fd : Nat} {X : cFl} {b n : Nat} {C : Nat → Option jx_E} (h : FAt W a 0 au fd X) (hd : b + n ≤ a ∨ a + 12 ≤ b) : FAt (bw W b n C) a 0 au fd X := FAt_out h (by omega) (by omega)
theorem FAt.fr {W W' : jx_W} {a au fd : Nat} {X : cFl} {b n : Nat} (h : FAt W a 0 au fd X) (hf : Fr W W' b n) (hd : b + n ≤ a ∨ a + 12 ≤ b) : FAt W' a 0 au fd X := ⟨(hf.2.2 _ (by omega)).trans h.1, h.2.fr hf (by omega)⟩
theorem SAt.fr {W W' : jx_W} {s au : Nat} {Y : cSt} {b n : Nat} (h : SAt W s au Y) (hf : Fr W W' b n) (hd : b + n ≤ s ∨ s + 59 ≤ b) : SAt W' s au Y := ⟨⟨(hf.2.2 _ (by omega)).trans h.1.1, h.1.2.fr hf (by omega)⟩, h.2.1.fr hf (by omega), h.2.2.1.fr hf (by omega), fun k hk => (h.2.2.2 k hk).fr hf (by omega)⟩
/-- the head changes -/
theorem SAt.head {W : jx_W} {s au : Nat} {Y : cSt} {c se : Nat → Int32} {f : Nat → Option Nat} (h : SAt W s au Y) : SAt (Shw W s c se f) s au (c, se, f, Y.2.2.2) := ⟨Shw_at W s c se f, At_out (At_out h.2.1 (by omega)) (by omega), At_out (At_out h.2.2.1 (by omega)) (by omega), fun k hk => ((h.2.2.2 k hk).out (by omega)).out (by omega)⟩
theorem Fr_head {W : jx_W} {s : Nat} {c se : Nat → Int32} {f : Nat → Option Nat} : Fr W (Shw W s c se f) s 59 := ((Fr.rf.bw (by omega) (by omega)).bw (by omega) (by omega))
/-- a flow and the finds change -/
theorem SAt.flow {W : jx_W} {s au k : Nat} {Y : cSt} {fc : Nat → Int32} {fr : Nat → Nat → Int32} {X : cFl} (h : SAt W s au Y) (hk : k < 4) : SAt (Flw (Fdw W (s + 1) fc fr) (s + 11 + 12 * k) 0 au (s + 1) X) s au (Y.1, Y.2.1, Y.2.2.1, (fc, fr), Y.2.2.2.2.1, fun j => if j = k then X else Y.2.2.2.2.2 j) := by
  obtain ⟨h1, h2, h3, h4⟩ := h
  refine ⟨HAt_out (HAt_out (HAt_out h1 (by omega) (by omega)) (by omega) (by omega)) (by omega) (by omega), At_out (At_out At_bw (by omega)) (by omega), At_out (At_out (At_out h3 (by omega)) (by omega)) (by omega), fun j hj => ?_⟩
  show FAt _ _ _ _ _ (if j = k then X else Y.2.2.2.2.2 j)
  by_cases e : j = k
  · rw [if_pos e, e]; exact Flw_at
  · rw [if_neg e]
    exact (((h4 j hj).out (by omega)).out (by omega)).out (by omega)
theorem Fr_flow {W : jx_W} {s au k : Nat} {fc : Nat → Int32} {fr : Nat → Nat → Int32} {X : cFl} (hk : k < 4) : Fr W (Flw (Fdw W (s + 1) fc fr) (s + 11 + 12 * k) 0 au (s + 1) X) s 59 := (((Fr.rf.bw (by omega) (by omega)).bw (by omega) (by omega)).bw (by omega) (by omega))
theorem SAt.flow1 {W : jx_W} {s au k : Nat} {Y : cSt} {X : cFl} (h : SAt W s au Y) (hk : k < 4) : SAt (Flw W (s + 11 + 12 * k) 0 au (s + 1) X) s au (Y.1, Y.2.1, Y.2.2.1, Y.2.2.2.1, Y.2.2.2.2.1, fun j => if j = k then X else Y.2.2.2.2.2 j) := by
  have := SAt.flow (fc := Y.2.2.2.1.1) (fr := Y.2.2.2.1.2) (X := X) h hk
  rw [Fdw_eq h.2.1] at this
  exact this
theorem Fr_flow1 {W : jx_W} {s au k : Nat} {X : cFl} (hk : k < 4) : Fr W (Flw W (s + 11 + 12 * k) 0 au (s + 1) X) s 59 := ((Fr.rf.bw (by omega) (by omega)).bw (by omega) (by omega))
theorem SAt.words {W : jx_W} {s au : Nat} {Y : cSt} {r : Nat → Nat → Int32} (h : SAt W s au Y) : SAt (Wdw W (s + 6) r) s au (Y.1, Y.2.1, Y.2.2.1, Y.2.2.2.1, r, Y.2.2.2.2.2) := by
  obtain ⟨h1, h2, h3, h4⟩ := h
  exact ⟨HAt_out h1 (by omega) (by omega), At_out h2 (by omega), At_bw, fun j hj => (h4 j hj).out (by omega)⟩
theorem SAt.finds {W : jx_W} {s au : Nat} {Y : cSt} {c : Nat → Int32} {r : Nat → Nat → Int32} (h : SAt W s au Y) : SAt (Fdw W (s + 1) c r) s au (Y.1, Y.2.1, Y.2.2.1, (c, r), Y.2.2.2.2.1, Y.2.2.2.2.2) := by
  obtain ⟨h1, h2, h3, h4⟩ := h
  exact ⟨HAt_out h1 (by omega) (by omega), At_bw, At_out h3 (by omega), fun j hj => (h4 j hj).out (by omega)⟩
section CState
variable {W : jx_W} {s au : Nat} {Y : cSt} {K : jx_Q} {st : aSt} {od : Nat → Nat}
theorem SAt_fl (h : SAt W s au Y) {k : Nat} (hk : k < 4) (fs : List Value) : jx_ob W (s + 11 + 12 * k) 2 fs ↔ fs = FlF (s + 11 + 12 * k + 0) (Y.2.2.2.2.2 k).1 := ob_iff (h.2.2.2 k hk).1
theorem c_placeOf {key : Int32} (hW : SAt W s au Y) (hS : STr s od Y st) (hK : K W (some (.int (oC (aPlace st.2.2.2.1 key))))) : zcall n_St_placeOf [.ref s, .int key] W K := by
  obtain ⟨t1, t2, t3, ⟨t4, t4b⟩, t5, ⟨o1, o2, o3⟩, t7⟩ := hS
  have loop : ∀ (m i : Nat), i + m = st.2.2.2.1.length → K W (some (.int (oC (aPl (fun i => (fGet st.2.2.2.1 i).1.1) key m i)))) → zwp n_St_placeOf 1 [(0, .ref s), (1, .int key), (2, .int (nI i))] [] 0 0 W K := by
    intro m
    induction m with
    | zero =>
      intro i hi hk
      rw [← Shw_eq hW.1] at hk ⊢
      refine b_St_placeOf_1 ?_
      simp only [Shw_ob, StF_4, and_assoc, exists_and_left, exists_eq_left, exists_eq_left', Option.some.injEq, Value.int.injEq, Value.ref.injEq, Value.long.injEq, true_and, and_true, exists_eq, exists_true_left]
      rw [t4]
      exact ⟨fun _ => b_St_placeOf_3 hk, fun z => absurd ((nI_leI (by omega) (by omega)).mpr (by omega)) z⟩
    | succ m ih =>
      intro i hi hk
      have hi4 : i < 4 := by omega
      obtain ⟨f0, g⟩ := t7 i (by omega)
      have hkey : (Y.2.2.2.2.2 (od i)).1 0 = (fGet st.2.2.2.1 i).1.1 := g.1
      have hob := SAt_fl hW (o1 i hi4)
      have b2 : (fGet st.2.2.2.1 i).1.1 ≠ key → zwp n_St_placeOf 2 [(0, .ref s), (1, .int key), (2, .int (nI i))] [] 0 0 W K := fun hne => by
        refine b_St_placeOf_2 ?_
        rw [nI_1]
        refine ih (i + 1) (by omega) ?_
        have e : aPl (fun i => (fGet st.2.2.2.1 i).1.1) key (m + 1) i = aPl (fun i => (fGet st.2.2.2.1 i).1.1) key m (i + 1) := if_neg hne
        rw [← e]; exact hk
      have hk1 : (fGet st.2.2.2.1 i).1.1 = key → K W (some (.int (nI i))) := fun he => by
        have e : aPl (fun i => (fGet st.2.2.2.1 i).1.1) key (m + 1) i = some i := if_pos he
        rw [e] at hk
        exact hk
      rw [← Shw_eq hW.1] at b2 hk1 hob ⊢
      refine b_St_placeOf_1 ?_
      simp only [Shw_ob, StF_4, StF_3, Shw_10, and_assoc, exists_and_left, exists_eq_left, exists_eq_left', Option.some.injEq, Value.int.injEq, Value.ref.injEq, Value.long.injEq, true_and, and_true, exists_eq, exists_true_left]
      rw [t4, nI_clamp (by omega), o3 i hi4]
      refine ⟨fun z => absurd ((nI_leI (by omega) (by omega)).mp z) (by omega), fun _ => ⟨fun z => absurd ((nI_leI (a := 4) (by decide) (by omega)).mp z) (by omega), fun _ => ⟨vp_in_nI hi4 (by decide), _, rfl, ?_⟩⟩⟩
      simp only [hob, FlF_0, and_assoc, exists_and_left, exists_eq_left, exists_eq_left', Option.some.injEq, Value.int.injEq, Value.ref.injEq, Value.long.injEq, true_and, and_true, exists_eq, exists_true_left]
      rw [hkey]
      exact ⟨fun z => b2 z, fun z => hk1 z⟩
  exact e_St_placeOf (b_St_placeOf_0 (loop st.2.2.2.1.length 0 (Nat.zero_add _) hK))
/-- the order behind a move to the end -/
def mvO (od : Nat → Nat) (i n : Nat) : Nat → Nat := fun j => if j = n - 1 then od i else if i ≤ j ∧ j < n - 1 then od (j + 1) else od j
theorem c_movedToEnd {x : Int32} {i n : Nat} (hW : SAt W s au Y) (hO : OD s Y.2.2.1 od) (hc : Y.1 4 = nI n) (hn : n ≤ 4) (hi : i < n) (hx : x = nI i) (hK : ∀ f', OD s f' (mvO od i n) → K (Shw W s Y.1 Y.2.1 f') (some (.ref (s + 11 + 12 * od i)))) : zcall n_St_movedToEnd [.ref s, .int x] W K := by
  subst hx
  obtain ⟨o1, o2, o3⟩ := id hO
  have hob : ∀ f k, k < 4 → ∀ fs, jx_ob (Shw W s Y.1 Y.2.1 f) (s + 11 + 12 * k) 2 fs ↔ fs = FlF (s + 11 + 12 * k + 0) (Y.2.2.2.2.2 k).1 := fun f k hk fs => SAt_fl (hW.head (c := Y.1) (se := Y.2.1) (f := f)) hk fs
  have loop : ∀ (m j : Nat), j + 1 + m = n → i ≤ j → ∀ f, (∀ k, k < 4 → f k = some (s + 11 + 12 * (if i ≤ k ∧ k < j then od (k + 1) else od k))) → zwp n_St_movedToEnd 1 [(0, .ref s), (2, .ref (s + 11 + 12 * od i)), (3, .int (nI j)), (4, .int (nI (j + 1)))] [] 0 0 (Shw W s Y.1 Y.2.1 f) K := by
    intro m
    induction m with
    | zero =>
      intro j hj hij f hf
      have en : n = j + 1 := by omega
      refine b_St_movedToEnd_1 ?_
      simp only [Shw_ob, StF_4, and_assoc, exists_and_left, exists_eq_left, exists_eq_left', Option.some.injEq, Value.int.injEq, Value.ref.injEq, Value.long.injEq, true_and, and_true, exists_eq, exists_true_left]
      rw [hc]
      refine ⟨fun _ => b_St_movedToEnd_2 ?_, fun z => absurd ((nI_leI (by omega) (by omega)).mpr (by omega)) z⟩
      simp only [Shw_ob, StF_3, Shw_10, hob f _ (o1 i (by omega)), Shw_u10, and_assoc, exists_and_left, exists_eq_left, exists_eq_left', Option.some.injEq, Value.int.injEq, Value.ref.injEq, Value.long.injEq, true_and, and_true, exists_eq, exists_true_left]
      rw [nI_clamp (by omega)]
      refine ⟨vp_in_nI (by omega) (by decide), hK _ ⟨fun k hk => ?_, fun a b ha hb e => ?_, fun k hk => ?_⟩⟩
      · unfold mvO
        split
        · exact o1 i (by omega)
        · split
          · exact o1 _ (by omega)
          · exact o1 k hk
      · have key : ∀ k, k < 4 → ∃ t, t < 4 ∧ mvO od i n k = od t ∧ t = (if k = n - 1 then i else if i ≤ k ∧ k < n - 1 then k + 1 else k) := fun k hk => by
          refine ⟨_, ?_, ?_, rfl⟩
          · split
            · omega
            · split <;> omega
          · unfold mvO
            split
            · rfl
            · split <;> rfl
        obtain ⟨ta, a1, a2, a3⟩ := key a ha
        obtain ⟨tb, b1, b2, b3⟩ := key b hb
        rw [a2, b2] at e
        have := o2 ta tb a1 b1 e
        rw [a3, b3] at this
        split at this <;> split at this <;> (try split at this) <;> (try split at this) <;> omega
      · show (if k = j then some (s + 11 + 12 * od i) else f k) = some (s + 11 + 12 * mvO od i n k)
        unfold mvO
        have e1 : n - 1 = j := by omega
        rw [e1]
        by_cases e : k = j
        · rw [if_pos e, if_pos e]
        · rw [if_neg e, if_neg e, hf k hk]
    | succ m ih =>
      intro j hj hij f hf
      have hj4 : j + 1 < 4 := by omega
      have ej : f (j + 1) = some (s + 11 + 12 * od (j + 1)) := by rw [hf (j + 1) hj4, if_neg (by omega)]
      refine b_St_movedToEnd_1 ?_
      simp only [Shw_ob, StF_4, StF_3, Shw_10, Shw_u10, and_assoc, exists_and_left, exists_eq_left, exists_eq_left', Option.some.injEq, Value.int.injEq, Value.ref.injEq, Value.long.injEq, true_and, and_true, exists_eq, exists_true_left]
      rw [hc, nI_clamp (by omega), ej, lit_1, pk_sub (by omega), nI_clamp (by omega), nI_add]
      refine ⟨fun z => absurd ((nI_leI (by omega) (by omega)).mp z) (by omega), fun _ => ⟨fun z => absurd ((nI_leI (a := 4) (by decide) (by omega)).mp z) (by omega), fun _ => ⟨vp_in_nI hj4 (by decide), _, rfl, ?_⟩⟩⟩
      simp only [hob f _ (o1 (j + 1) hj4), and_assoc, exists_and_left, exists_eq_left, exists_eq_left', Option.some.injEq, Value.int.injEq, Value.ref.injEq, Value.long.injEq, true_and, and_true, exists_eq, exists_true_left]
      refine ⟨vp_in_nI (by omega) (by decide), ih (j + 1) (by omega) (by omega) _ (fun k hk => ?_)⟩
      show (if k = j + 1 - 1 then some (s + 11 + 12 * od (j + 1)) else f k) = _
      by_cases e : k = j
      · rw [if_pos (by omega), if_pos (by omega), e]
      · rw [if_neg (by omega), hf k hk]
        by_cases e2 : i ≤ k ∧ k < j
        · rw [if_pos e2, if_pos (by omega)]
        · rw [if_neg e2, if_neg (by omega)]
  rw [← Shw_eq hW.1]
  refine e_St_movedToEnd (b_St_movedToEnd_0 ?_)
  simp only [Shw_ob, StF_3, Shw_10, and_assoc, exists_and_left, exists_eq_left, exists_eq_left', Option.some.injEq, Value.int.injEq, Value.ref.injEq, Value.long.injEq, true_and, and_true, exists_eq, exists_true_left]
  rw [nI_clamp (by omega), o3 i (by omega), nI_1]
  refine ⟨vp_in_nI (show i < 4 by omega) (by decide), _, rfl, loop (n - (i + 1)) i (by omega) (Nat.le_refl _) _ (fun k hk => ?_)⟩
  rw [o3 k hk, if_neg (by omega)]
theorem mvO_last {i n : Nat} (hn : 0 < n) : mvO od i n (n - 1) = od i := if_pos rfl
theorem mvO_lt {i n j : Nat} (hj : j < n - 1) : mvO od i n j = if j < i then od j else od (j + 1) := by
  unfold mvO
  rw [if_neg (by omega)]
  by_cases h : j < i
  · rw [if_neg (by omega), if_pos h]
  · rw [if_pos (by omega), if_neg h]
theorem c_stRemove {x : Int32} {i : Nat} (hW : SAt W s au Y) (hS : STr s od Y st) (hi : i < st.2.2.2.1.length) (hx : x = nI i) (hK : ∀ c' f', c' 5 = Y.1 5 → STr s (mvO od i st.2.2.2.1.length) (c', Y.2.1, f', Y.2.2.2) (st.1, st.2.1, st.2.2.1, st.2.2.2.1.eraseIdx i, st.2.2.2.2) → K (Shw W s c' Y.2.1 f') none) : zcall n_St_remove [.ref s, .int x] W K := by
  obtain ⟨t1, t2, t3, ⟨t4, t4b⟩, t5, hO, t7⟩ := hS
  refine e_St_remove (b_St_remove_0 ⟨⟨_, hW.1.1⟩, c_movedToEnd hW hO t4 t4b hi hx (fun f' g => ⟨_, rfl, ?_⟩)⟩)
  simp only [Shw_ob, StF_4, StF_s4, StF_len, Shw_uob, Nat.reduceLT, and_assoc, exists_and_left, exists_eq_left, exists_eq_left', Option.some.injEq, Value.int.injEq, Value.ref.injEq, Value.long.injEq, true_and, and_true, exists_eq, exists_true_left]
  rw [t4, lit_1, pk_sub (by omega)]
  have hl : (st.2.2.2.1.eraseIdx i).length = st.2.2.2.1.length - 1 := List.length_eraseIdx_of_lt hi
  refine hK _ _ rfl ⟨t1, t2, t3, ⟨by show nI (st.2.2.2.1.length - 1) = nI (st.2.2.2.1.eraseIdx i).length; rw [hl], by show (st.2.2.2.1.eraseIdx i).length ≤ 4; omega⟩, t5, g, fun j hj => ?_⟩
  have hj : j < (st.2.2.2.1.eraseIdx i).length := hj
  rw [hl] at hj
  show ∃ f0, FWr f0 (Y.2.2.2.2.2 (mvO od i st.2.2.2.1.length j)) (fGet (st.2.2.2.1.eraseIdx i) j).1 (fGet (st.2.2.2.1.eraseIdx i) j).2.1 (fGet (st.2.2.2.1.eraseIdx i) j).2.2
  rw [mvO_lt hj, fGet_erase]
  by_cases e : j < i
  · rw [if_pos e, if_pos e]; exact t7 j (by omega)
  · rw [if_neg e, if_neg e]; exact t7 (j + 1) (by omega)
end CState
