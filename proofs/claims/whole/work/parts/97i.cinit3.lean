/-! CONSTRUCTORS: the class's object -/
def s0 : aSt := ((fun _ => []), (0, 0, 10), [], [], 0)
def SB (V : jx_W) (s au : Nat) : Prop := ∃ f, SAt V s au (zF, upd zF 2 10, f, (zF, zR), zR, fun _ => zX) ∧ OD s f (fun i => i)
theorem SB_fr {V V' : jx_W} {s au : Nat} (h : SB V s au) (e : ∀ x, s ≤ x → x < s + 59 → V'.2.2 x = V.2.2 x) : SB V' s au := by
  obtain ⟨f, ⟨⟨a1, a2⟩, a3, a4, a5⟩, ho⟩ := h
  exact ⟨f, ⟨⟨(e _ (by omega) (by omega)).trans a1, fun j hj => (e _ (by omega) (by omega)).trans (a2 j hj)⟩, fun j hj => (e _ (by omega) (by omega)).trans (a3 j hj), fun j hj => (e _ (by omega) (by omega)).trans (a4 j hj), fun k hk => ⟨(e _ (by omega) (by omega)).trans (a5 k hk).1, fun j hj => (e _ (by omega) (by omega)).trans ((a5 k hk).2 j hj)⟩⟩, ho⟩
theorem SB_ob {V : jx_W} {s au : Nat} (h : SB V s au) : jx_ob V s 5 (StF s zF) := by
  obtain ⟨f, ⟨⟨a1, -⟩, -⟩, -⟩ := h
  exact a1
theorem STr_0 {s : Nat} {f : Nat → Option Nat} (h : OD s f (fun i => i)) : STr s (fun i => i) (zF, upd zF 2 10, f, (zF, zR), zR, fun _ => zX) s0 :=
  ⟨⟨fun v _ => ⟨rfl, Nat.zero_le _, fun i hi => absurd hi (Nat.not_lt_zero _)⟩, fun i _ => (by show fits .byte (.int 0) = true; decide)⟩, ⟨rfl, rfl, rfl⟩, ⟨rfl, rfl, rfl, ⟨0, Nat.zero_le _, rfl, rfl⟩, fun i j hi _ => absurd hi (by show ¬ i < 0; omega)⟩, ⟨rfl, Nat.zero_le _⟩, rfl, h, fun i hi => absurd hi (Nat.not_lt_zero _)⟩
theorem c_newSt {V : jx_W} {K : jx_Q} {au : Nat} {P1 P2 : Prop} (h1 : P1) (h2 : P2) (hK : ∀ V', V'.1 = V.1 + 59 → V'.2.1 = V.2.1 → (∀ x, x < V.1 → V'.2.2 x = V.2.2 x) → SB V' V.1 au → K V' none) : zcall n_Fi_init [.ref ((jx_al V (.inr (5, jx_born 5))).1)] (jx_al (jx_al V (.inr (5, jx_born 5))) (.inr (1, jx_born 1))) (fun w103 r104 => r104 = none ∧ P1 ∧ P2 ∧ zcall n_St_init [.ref V.1, .ref au, .ref ((jx_al V (.inr (5, jx_born 5))).1)] w103 K) := by
  refine c_FiI ⟨rfl, h1, h2, c_StI rfl ((xw_lo (w := jx_al V _) (Nat.lt_succ_self _)).trans (if_pos rfl)) (fun U hU => ?_)⟩
  obtain ⟨v1, v2, v3, v4, v5, v6, ⟨f, v7, v8⟩, v9⟩ := hU
  have lo : ∀ x, x < V.1 → (xw (jx_al V (.inr (5, jx_born 5))) [.inr (1, FdF (jx_al V (.inr (5, jx_born 5))).1 zF), iA 30, iA 30, iA 30, iA 30]).2.2 x = V.2.2 x := fun x hx => (xw_lo (w := jx_al V _) (Nat.lt_succ_of_lt hx)).trans (if_neg (by omega))
  refine hK U v1 v2 (fun x hx => (v3 x (Or.inl hx)).trans (lo x hx)) ⟨f, ⟨⟨v4, fun j hj => ?_⟩, fun j hj => ?_, v5, v9⟩, fun i hi => hi, fun i j _ _ e => e, v8⟩
  · obtain rfl | rfl : j = 0 ∨ j = 1 := by omega
    · exact v6
    · exact v7
  · refine (v3 _ (Or.inr ⟨by omega, by omega⟩)).trans ((xw_at (w := jx_al V (.inr (5, jx_born 5))) (L := [.inr (1, FdF (jx_al V (.inr (5, jx_born 5))).1 zF), iA 30, iA 30, iA 30, iA 30]) (k := j) hj).trans ?_)
    obtain rfl | rfl | rfl | rfl | rfl : j = 0 ∨ j = 1 ∨ j = 2 ∨ j = 3 ∨ j = 4 := by omega
    · rfl
    · rfl
    · rfl
    · rfl
    · rfl
section CInit3
variable {w : jx_W} {K : jx_Q} {t : Nat}
/-- the class's object while it is made -/
def TB (w : jx_W) (t : Nat) (V : jx_W) (m : Nat) (fs : List Value) : Prop := V.1 = t + m ∧ V.2.1 = w.2.1 ∧ (∀ x, x < t → V.2.2 x = w.2.2 x) ∧ V.2.2 t = some (.inr (7, fs))
theorem nodes0 : nodesOf (fun _ => []) = [[]] := by decide
theorem wdOk0 : wdOk (fun _ => []) := fun v _ => ⟨Nat.zero_le _, fun x hx => (by cases hx)⟩
theorem AUx0 : AUx (fun _ => 1) zR (fun _ => []) := by
  unfold AUx
  have hN : nodesOf (fun _ => []) = [[]] := nodes0
  have hl : (nodesOf (fun _ => [])).length = 1 := by rw [hN]; rfl
  rw [hl]
  refine ⟨by rw [hl]; rfl, fun i hi => ?_, fun i l hi hl2 h => ?_, fun i l hi hl2 h => absurd hi (by rw [hl]; omega), fun v _ => rfl⟩
  · rw [hl] at hi
    obtain rfl : i = 0 := by omega
    rw [hN]
    exact ⟨rfl, by decide, fun z => absurd rfl z⟩
  · obtain rfl : i = 0 := by omega
    rw [nx_zero wdOk0 (by rw [hN]; simp)]; rfl
theorem c_T_loop (hK : ∀ V, TB w t V 383 (TF t 0 0 (t + 11)) → (∃ pf : Nat → Option Nat, V.2.2 (t + 146) = some (.inl (.object (jx_nm 5), 4, .inr (.inr (.inr (.inr pf))))) ∧ ∀ i, i < 4 → pf i = some (t + 147 + 59 * i)) → (∀ i, i < 4 → SB V (t + 147 + 59 * i) (t + 2)) → (∀ x, t < x → x < t + 146 → V.2.2 x = w.2.2 x) → K V none) (hw : w.1 = t + 147) (h0 : w.2.2 t = some (.inr (7, TF t 0 0 (t + 11)))) : ∀ (m k : Nat), k + m = 4 → ∀ V, TB w t V (147 + 59 * k) (TF t 0 0 (t + 11)) → (∃ pf : Nat → Option Nat, V.2.2 (t + 146) = some (.inl (.object (jx_nm 5), 4, .inr (.inr (.inr (.inr pf))))) ∧ ∀ i, i < k → pf i = some (t + 147 + 59 * i)) → (∀ i, i < k → SB V (t + 147 + 59 * i) (t + 2)) → (∀ x, t < x → x < t + 146 → V.2.2 x = w.2.2 x) → zwp n_T_init 9 [(0, .ref t), (1, .int (nI k))] [] (59 * m) (3761 * m) V K := by
  intro m
  induction m with
  | zero =>
    intro k hk V h1 h2 h3 h4
    obtain rfl : k = 4 := by omega
    exact b_T_init_9 ⟨fun _ => b_T_init_11 (hK V h1 h2 h3 h4), fun z => absurd (by decide) z⟩
  | succ m ih =>
    intro k hk V ⟨b1, b2, b3, b4⟩ ⟨pf, h2, h2b⟩ h3 h4
    refine b_T_init_9 ⟨fun z => absurd ((nI_leI (a := 4) (by decide) (by omega)).mp z) (by omega), fun _ => ⟨_, t + 146, b4, rfl, by omega, by omega, _, t + 2, (if_neg (by omega)).trans b4, rfl, by omega, by omega, by omega, by omega, ?_⟩⟩
    refine c_newSt (by omega) (by omega) (fun V' c1 c2 c3 c4 => ⟨rfl, 4, pf, _, (c3 _ (by omega)).trans h2, SB_ob c4, vin4 (by omega), b_T_init_10 ?_⟩)
    · rw [nI_1, nI_clamp (by omega), show 59 * (m + 1) - 1 - 1 - 4 - 53 = 59 * m by omega, show 3761 * (m + 1) - 6 - 8 - 120 - 3627 = 3761 * m by omega]
      have up : ∀ x, x ≠ t + 146 → (jx_ura V' (t + 146) (jx_nm 5) 4 (va_up pf k (some V.1))).2.2 x = V'.2.2 x := fun x hx => if_neg hx
      refine ih (k + 1) (by omega) _ ⟨?_, c2.trans b2, fun x hx => (up x (by omega)).trans ((c3 x (by omega)).trans (b3 x hx)), (up t (by omega)).trans ((c3 t (by omega)).trans b4)⟩ ⟨_, if_pos rfl, fun i hi => ?_⟩ (fun i hi => ?_) (fun x hx1 hx2 => (up x (by omega)).trans ((c3 x (by omega)).trans (h4 x hx1 hx2)))
      · show V'.1 = _
        omega
      · by_cases e : i = k
        · rw [e, va_up_self, b1, Nat.add_assoc]
        · rw [va_up_ne _ _ e]; exact h2b i (by omega)
      · by_cases e : i = k
        · rw [e, show t + 147 + 59 * k = V.1 by omega]
          exact SB_fr c4 (fun x hx1 hx2 => up x (by omega))
        · exact SB_fr (h3 i (by omega)) (fun x hx1 hx2 => (up x (by omega)).trans (c3 x (by omega)))
theorem c_TInit (hw : w.1 = t + 1) (h0 : w.2.2 t = some (.inr (7, jx_born 7))) (hK : ∀ V, V.1 = t + 383 → V.2.1 = w.2.1 → (∀ x, x < t → V.2.2 x = w.2.2 x) → TI V t s0 [] [] 0 → K V none) : zcall n_T_init [.ref t] w K := by
  refine e_T_init (b_T_init_0 ⟨40, rfl, by decide, by decide, by decide, _, (if_neg (by omega)).trans h0, by decide, ?_⟩)
  -- the text
  obtain ⟨V1, hV1⟩ : ∃ V1, V1 = jx_uob (jx_al w (.inl (.byte, 40, .inl (fun _ => 0)))) t 7 ((jx_born 7).set 0 (.ref w.1)) := ⟨_, rfl⟩
  have p1 : TB w t V1 2 [.ref (t + 1), .int 0, .null, .null, .null, .null, .null, .int 0] := by
    rw [hV1]
    refine ⟨by show w.1 + 1 = _; omega, rfl, fun x hx => (if_neg (by omega)).trans (if_neg (by omega)), (if_pos rfl).trans ?_⟩
    rw [hw]; rfl
  have x1 : V1.2.2 (t + 1) = some (.inl (.byte, 40, .inl zF)) := by
    rw [hV1]
    exact (if_neg (by omega)).trans (if_pos hw.symm)
  rw [← hV1]
  clear hV1
  refine b_T_init_1 ⟨_, p1.2.2.2, by show 1 < 8; decide, ?_⟩
  obtain ⟨V2, hV2⟩ : ∃ V2, V2 = jx_uob V1 t 7 (([.ref (t + 1), .int 0, .null, .null, .null, .null, .null, .int 0] : List Value).set 1 (.int 0)) := ⟨_, rfl⟩
  have p2 : TB w t V2 2 [.ref (t + 1), .int 0, .null, .null, .null, .null, .null, .int 0] := by
    rw [hV2]
    exact ⟨p1.1, p1.2.1, fun x hx => (if_neg (by omega)).trans (p1.2.2.1 x hx), if_pos rfl⟩
  have x2 : V2.2.2 (t + 1) = some (.inl (.byte, 40, .inl zF)) := by
    rw [hV2]
    exact (if_neg (by omega)).trans x1
  rw [← hV2]
  clear hV2 p1 x1
  -- the automaton
  have e2 := p2.1
  refine b_T_init_2 ⟨by decide, by decide, by decide, by decide, c_AI ⟨rfl, _, (xw_lo (by omega)).trans p2.2.2.2, by show 2 < 8; decide, ?_⟩⟩
  obtain ⟨V3, hV3⟩ : ∃ V3, V3 = jx_uob (xw V2 [.inr (0, AuF V2.1 (fun _ => 1)), iA 49, iA 49, iA 49, iA 49, iA 49, iA 6, iA 1274, iA 6]) t 7 (([.ref (t + 1), .int 0, .null, .null, .null, .null, .null, .int 0] : List Value).set 2 (.ref V2.1)) := ⟨_, rfl⟩
  have p3 : TB w t V3 11 [.ref (t + 1), .int 0, .ref (t + 2), .null, .null, .null, .null, .int 0] := by
    rw [hV3]
    refine ⟨by show V2.1 + 9 = _; omega, p2.2.1, fun x hx => (if_neg (by omega)).trans ((xw_lo (by omega)).trans (p2.2.2.1 x hx)), (if_pos rfl).trans ?_⟩
    rw [e2]; rfl
  have x3 : V3.2.2 (t + 1) = some (.inl (.byte, 40, .inl zF)) := by
    rw [hV3]
    exact (if_neg (by omega)).trans ((xw_lo (by omega)).trans x2)
  have a3 : At V3 (t + 2) 9 (AuC (t + 2) (fun _ => 1) zR) := fun j hj => by
    rw [hV3]
    refine (if_neg (by omega)).trans ?_
    rw [← e2]
    refine (xw_at (L := [.inr (0, AuF V2.1 (fun _ => 1)), iA 49, iA 49, iA 49, iA 49, iA 49, iA 6, iA 1274, iA 6]) hj).trans ?_
    exact lt12 (P := fun j => j < 9 → ([.inr (0, AuF V2.1 (fun _ => 1)), iA 49, iA 49, iA 49, iA 49, iA 49, iA 6, iA 1274, iA 6] : List jx_E)[j]? = AuC V2.1 (fun _ => 1) zR j) (by omega) (fun _ => rfl) (fun _ => rfl) (fun _ => rfl) (fun _ => rfl) (fun _ => rfl) (fun _ => rfl) (fun _ => rfl) (fun _ => rfl) (fun _ => rfl) (fun h => absurd h (by decide)) (fun h => absurd h (by decide)) (fun h => absurd h (by decide)) hj
  rw [← hV3]
  clear hV3 p2 x2 e2
  -- now
  have e3 := p3.1
  refine b_T_init_3 ⟨by decide, by decide, _, t + 2, (if_neg (by omega)).trans p3.2.2.2, rfl, by decide, by decide, by decide, by decide, c_newSt (by decide) (by decide) (fun W4 c1 c2 c3 c4 => ⟨rfl, _, (c3 t (by omega)).trans p3.2.2.2, by show 3 < 8; decide, ?_⟩)⟩
  obtain ⟨V4, hV4⟩ : ∃ V4, V4 = jx_uob W4 t 7 (([.ref (t + 1), .int 0, .ref (t + 2), .null, .null, .null, .null, .int 0] : List Value).set 3 (.ref V3.1)) := ⟨_, rfl⟩
  have p4 : TB w t V4 70 [.ref (t + 1), .int 0, .ref (t + 2), .ref (t + 11), .null, .null, .null, .int 0] := by
    rw [hV4]
    refine ⟨by show W4.1 = _; omega, c2.trans p3.2.1, fun x hx => (if_neg (by omega)).trans ((c3 x (by omega)).trans (p3.2.2.1 x hx)), (if_pos rfl).trans ?_⟩
    rw [e3]; rfl
  have l4 : ∀ x, t < x → x < t + 11 → V4.2.2 x = V3.2.2 x := fun x h1 h2 => by
    rw [hV4]
    exact (if_neg (by omega)).trans (c3 x (by omega))
  have s4 : SB V4 (t + 11) (t + 2) := by
    rw [← e3]
    exact SB_fr c4 (fun x h1 h2 => by rw [hV4]; exact if_neg (by omega))
  rw [← hV4]
  clear hV4 c1 c2 c3 c4
  -- the trial
  have e4 := p4.1
  refine b_T_init_4 ⟨by decide, by decide, _, t + 2, (if_neg (by omega)).trans p4.2.2.2, rfl, by decide, by decide, by decide, by decide, c_newSt (by decide) (by decide) (fun W5 c1 c2 c3 c4 => ⟨rfl, _, (c3 t (by omega)).trans p4.2.2.2, by show 4 < 8; decide, ?_⟩)⟩
  obtain ⟨V5, hV5⟩ : ∃ V5, V5 = jx_uob W5 t 7 (([.ref (t + 1), .int 0, .ref (t + 2), .ref (t + 11), .null, .null, .null, .int 0] : List Value).set 4 (.ref V4.1)) := ⟨_, rfl⟩
  have p5 : TB w t V5 129 [.ref (t + 1), .int 0, .ref (t + 2), .ref (t + 11), .ref (t + 70), .null, .null, .int 0] := by
    rw [hV5]
    refine ⟨by show W5.1 = _; omega, c2.trans p4.2.1, fun x hx => (if_neg (by omega)).trans ((c3 x (by omega)).trans (p4.2.2.1 x hx)), (if_pos rfl).trans ?_⟩
    rw [e4]; rfl
  have l5 : ∀ x, t < x → x < t + 70 → V5.2.2 x = V4.2.2 x := fun x h1 h2 => by
    rw [hV5]
    exact (if_neg (by omega)).trans (c3 x (by omega))
  have s5 : SB V5 (t + 70) (t + 2) := by
    rw [← e4]
    exact SB_fr c4 (fun x h1 h2 => by rw [hV5]; exact if_neg (by omega))
  rw [← hV5]
  clear hV5 c1 c2 c3 c4
  -- the rehearsal
  have e5 := p5.1
  refine b_T_init_5 ⟨by decide, by decide, _, t + 2, (if_neg (by omega)).trans p5.2.2.2, rfl, by decide, by decide, by decide, by decide, c_FiI ⟨rfl, by decide, by decide, ?_⟩⟩
  refine c_FlI (b := t + 134) (by show V5.1 + 1 + 5 = _; omega) (by show V5.1 < V5.1 + 1 + 5; omega) ((xw_lo (w := jx_al V5 _) (Nat.lt_succ_self _)).trans (if_pos rfl)) (fun W6 c1 c2 c3 c4 c5 => ?_)
  have lo6 : ∀ x, x < V5.1 → W6.2.2 x = V5.2.2 x := fun x hx => (c3 x (by show x < V5.1 + 1 + 5; omega) (by omega)).trans ((xw_lo (w := jx_al V5 _) (by show x < V5.1 + 1; omega)).trans (if_neg (by omega)))
  refine ⟨rfl, _, (lo6 t (by omega)).trans p5.2.2.2, by show 5 < 8; decide, ?_⟩
  obtain ⟨V6, hV6⟩ : ∃ V6, V6 = jx_uob W6 t 7 (([.ref (t + 1), .int 0, .ref (t + 2), .ref (t + 11), .ref (t + 70), .null, .null, .int 0] : List Value).set 5 (.ref V5.1)) := ⟨_, rfl⟩
  have c1 : W6.1 = V5.1 + 1 + 5 + 11 := c1
  have p6 : TB w t V6 146 [.ref (t + 1), .int 0, .ref (t + 2), .ref (t + 11), .ref (t + 70), .ref (t + 129), .null, .int 0] := by
    rw [hV6]
    refine ⟨by show W6.1 = _; omega, c2.trans p5.2.1, fun x hx => (if_neg (by omega)).trans ((lo6 x (by omega)).trans (p5.2.2.1 x hx)), (if_pos rfl).trans ?_⟩
    rw [e5]; rfl
  have l6 : ∀ x, t < x → x < t + 129 → V6.2.2 x = V5.2.2 x := fun x h1 h2 => by
    rw [hV6]
    exact (if_neg (by omega)).trans (lo6 x (by omega))
  have r6 : FAt V6 (t + 129) 5 (t + 2) (t + 130) zX := by
    rw [hV6]
    refine ⟨(if_neg (by omega)).trans (by have := c4; rw [e5] at this; exact this), fun j hj => (if_neg (by omega)).trans ?_⟩
    have := c5 j hj
    rw [show (jx_al V5 (.inr (2, jx_born 2))).1 = t + 130 from (by show V5.1 + 1 = _; omega)] at this
    exact this
  have f6 : At V6 (t + 130) 5 (FdC (t + 130) zF zR) := fun j hj => by
    rw [hV6]
    refine (if_neg (by omega)).trans ?_
    have e6 : (jx_al V5 (.inr (2, jx_born 2))).1 = t + 130 := by show V5.1 + 1 = _; omega
    refine (c3 _ (by show t + 130 + j < V5.1 + 1 + 5; omega) (by omega)).trans ?_
    rw [← e6]
    refine (xw_at (w := jx_al V5 (.inr (2, jx_born 2))) (L := [.inr (1, FdF (jx_al V5 (.inr (2, jx_born 2))).1 zF), iA 30, iA 30, iA 30, iA 30]) (k := j) hj).trans ?_
    obtain rfl | rfl | rfl | rfl | rfl : j = 0 ∨ j = 1 ∨ j = 2 ∨ j = 3 ∨ j = 4 := by omega
    · rfl
    · rfl
    · rfl
    · rfl
    · rfl
  rw [← hV6]
  clear hV6 c1 c2 c3 c4 c5 lo6
  -- the past
  have e6 := p6.1
  refine b_T_init_6 ⟨4, rfl, by decide, by decide, by decide, _, (if_neg (by omega)).trans p6.2.2.2, by show 6 < 8; decide, ?_⟩
  obtain ⟨V7, hV7⟩ : ∃ V7, V7 = jx_uob (jx_al V6 (.inl (.object (jx_nm 5), 4, .inr (.inr (.inr (.inr (fun _ => none))))))) t 7 (([.ref (t + 1), .int 0, .ref (t + 2), .ref (t + 11), .ref (t + 70), .ref (t + 129), .null, .int 0] : List Value).set 6 (.ref V6.1)) := ⟨_, rfl⟩
  have p7 : TB w t V7 147 (TF t 0 0 (t + 11)) := by
    rw [hV7]
    refine ⟨by show V6.1 + 1 = _; omega, p6.2.1, fun x hx => (if_neg (by omega)).trans ((if_neg (by omega)).trans (p6.2.2.1 x hx)), (if_pos rfl).trans ?_⟩
    rw [e6]; rfl
  have l7 : ∀ x, t < x → x < t + 146 → V7.2.2 x = V6.2.2 x := fun x h1 h2 => by
    rw [hV7]
    exact (if_neg (by omega)).trans (if_neg (by omega))
  have a7 : V7.2.2 (t + 146) = some (.inl (.object (jx_nm 5), 4, .inr (.inr (.inr (.inr (fun _ => none)))))) := by
    rw [hV7]
    exact (if_neg (by omega)).trans (if_pos e6.symm)
  rw [← hV7]
  clear hV7
  refine b_T_init_7 ⟨_, p7.2.2.2, by show 7 < 8; decide, b_T_init_8 ?_⟩
  have e7 : jx_uob V7 t 7 ((TF t 0 0 (t + 11)).set 7 (.int 0)) = V7 := jx_ext rfl rfl (fun a => by
    show (if a = t then some (.inr (7, TF t 0 0 (t + 11))) else V7.2.2 a) = V7.2.2 a
    by_cases h : a = t
    · rw [if_pos h, h]; exact p7.2.2.2.symm
    · rw [if_neg h])
  rw [e7]
  refine c_T_loop (w := V7) (fun V q1 q2 q3 q4 => ?_) p7.1 p7.2.2.2 4 0 rfl V7 ⟨p7.1, rfl, fun _ _ => rfl, p7.2.2.2⟩ ⟨_, a7, fun i hi => absurd hi (Nat.not_lt_zero i)⟩ (fun i hi => absurd hi (Nat.not_lt_zero i)) (fun _ _ _ => rfl)
  obtain ⟨pf, q2, q2b⟩ := q2
  have L6 : ∀ x, t < x → x < t + 146 → V.2.2 x = V6.2.2 x := fun x h1 h2 => (q4 x h1 h2).trans (l7 x h1 h2)
  have L5 : ∀ x, t < x → x < t + 129 → V.2.2 x = V5.2.2 x := fun x h1 h2 => (L6 x h1 (by omega)).trans (l6 x h1 h2)
  have L4 : ∀ x, t < x → x < t + 70 → V.2.2 x = V4.2.2 x := fun x h1 h2 => (L5 x h1 (by omega)).trans (l5 x h1 h2)
  have L3 : ∀ x, t < x → x < t + 11 → V.2.2 x = V3.2.2 x := fun x h1 h2 => (L4 x h1 (by omega)).trans (l4 x h1 h2)
  have SBs : ∀ k, k < 6 → SB V (sa t k) (t + 2) := fun k hk => by
    unfold sa
    by_cases h0 : k = 0
    · rw [if_pos h0]; exact SB_fr s4 (fun x h1 h2 => L4 x (by omega) (by omega))
    · rw [if_neg h0]
      by_cases h5 : k = 5
      · rw [if_pos h5]; exact SB_fr s5 (fun x h1 h2 => L5 x (by omega) (by omega))
      · rw [if_neg h5]; exact q3 (k - 1) (by omega)
  let g : Nat → Nat → Option Nat := fun k => if h : k < 6 then Classical.choose (SBs k h) else fun _ => none
  have hg : ∀ k, k < 6 → SAt V (sa t k) (t + 2) (zF, upd zF 2 10, g k, (zF, zR), zR, fun _ => zX) ∧ OD (sa t k) (g k) (fun i => i) := fun k hk => by
    have : g k = Classical.choose (SBs k hk) := dif_pos hk
    rw [this]
    exact Classical.choose_spec (SBs k hk)
  refine hK V q1.1 (q1.2.1.trans p7.2.1) (fun x hx => (q1.2.2.1 x hx).trans (p7.2.2.1 x hx)) ⟨0, fun i => i + 1, pf, zF, fun _ => 1, zR, fun k => (zF, upd zF 2 10, g k, (zF, zR), zR, fun _ => zX), zX, zF, zR, ⟨⟨fun j hj => ?_, fun j hj => ?_⟩, fun j hj => (L3 _ (by omega) (by omega)).trans (a3 j hj), fun k hk => (hg k hk).1, ⟨(L6 _ (by omega) (by omega)).trans r6.1, fun j hj => (L6 _ (by omega) (by omega)).trans (r6.2 j hj)⟩, fun j hj => (L6 _ (by omega) (by omega)).trans (f6 j hj)⟩, ⟨by decide, fun i hi => absurd hi (Nat.not_lt_zero _)⟩, AUx0, ⟨by decide, fun i hi => ⟨by show i + 1 < 5; omega, by show i + 1 ≠ 0; omega, ?_⟩, fun i j _ _ e => by have e : i + 1 = j + 1 := e; omega⟩, ⟨_, STr_0 (hg 0 (by decide)).2⟩, ⟨by decide, fun i hi => absurd hi (Nat.not_lt_zero _)⟩, fun k hk => ⟨_, (hg k hk).2⟩, [], ⟨rfl, rfl, rfl, ⟨0, Nat.zero_le _, rfl, rfl⟩, fun i j hi _ => absurd hi (by show ¬ i < 0; omega)⟩, Nat.le_refl _⟩
  · obtain rfl | rfl : j = 0 ∨ j = 1 := by omega
    · exact q1.2.2.2
    · exact (L3 _ (by omega) (by omega)).trans x3
  · obtain rfl : j = 0 := by omega
    exact q2
  · rw [q2b i hi]
    show some (t + 147 + 59 * i) = some (sa t (i + 1))
    unfold sa
    rw [if_neg (by omega), if_neg (by omega), Nat.add_sub_cancel]
end CInit3
