/-! THE MODEL: segments(..) -/
def lgS (g : Nat → Int32) (n o : Nat) (bs : List Int32) (i : Nat) : Nat → Int32 := cpb (upd (upd g (290 + 42 * n) (nI o)) (291 + 42 * n) (nI bs.length)) (292 + 42 * n) bs i
def lgT (g : Nat → Int32) (n o : Nat) (bs : List Int32) : Nat → Int32 := upd (lgS g n o bs bs.length) 21 (nI (n + 1))
theorem lgT_o {g : Nat → Int32} {n o : Nat} {bs : List Int32} {i : Nat} (h : i < 290 + 42 * n) (h2 : i ≠ 21) : lgT g n o bs i = g i := (if_neg h2).trans ((if_neg (by omega)).trans ((if_neg (by omega)).trans (if_neg (by omega))))
theorem lgT_pc {g : Nat → Int32} {n o : Nat} {bs : List Int32} : PC (lgT g n o bs) (290 + 42 * n) (o, bs) := by
  refine ⟨?_, ?_, fun j hj => ?_⟩
  · exact (if_neg (by omega)).trans ((if_neg (by omega)).trans ((if_neg (by omega)).trans (if_pos rfl)))
  · exact (if_neg (by omega)).trans ((if_neg (by omega)).trans (if_pos (by omega)))
  · have hj : j < bs.length := hj
    refine (if_neg (by omega)).trans ((if_pos (by omega)).trans ?_)
    rw [show 290 + 42 * n + 2 + j - (292 + 42 * n) = j by omega]
theorem lgT_ok {g : Nat → Int32} {f : aFlow} {o : Nat} {bs : List Int32} (h : MFl g f) (hl : f.2.2.length < 10) (hp : aOk (o, bs)) : MFl (lgT g f.2.2.length o bs) (f.1, f.2.1, f.2.2 ++ [(o, bs)]) :=
  ⟨MFs_congr h.1 (fun i hi h2 => lgT_o (by omega) h2), ML_add h.2 hl hp rfl (fun i h1 h2 => lgT_o h2 (by omega)) lgT_pc⟩
section MSeg2
variable {w : jx_W} {q : Nat} {c : Nat → Int32} {r : Nat → Nat → Int32} {K : jx_Q} {P : Nat → Int32} {A : aAU}
/-- the last block: the flow at slot s handles what is typed -/
theorem f_seg8 {f0 s o : Nat} {x : Int32} {f : aFlow} {fh : List aFd} {bs : List Int32} (hs : s < 4) (hb : c 12 = nI (186 + 710 * s)) (h14 : c 14 = nI f0) (hA : auOk A) (hky : kyOk f.1) (hm : MA c r A) (hW : PWd P A) (hO : fOk A f.2.1) (hn6 : f.2.1.2.2.1.length < 6) (hp : aOk (o, bs)) (hx : x = nI o) (hT : MT c r bs) (hH : HF P fh) (hF : MFl (fun k => P (186 + 710 * s + k)) f)
    (hK : ∀ c' P', HF P' (afh (aOn A f fh (o, bs))) → MFl (fun k => P' (186 + 710 * s + k)) (f.1, plug (aOn A f fh (o, bs)) [] 0, f.2.2) → c' 14 = nI (f0 ||| afm (aOn A f fh (o, bs))) → c' 13 = nI ((afh (aOn A f fh (o, bs))).length - fh.length) → fh.length ≤ (afh (aOn A f fh (o, bs))).length → CFr c c' → (∀ i, (i < 62 ∨ i = 65 ∨ (186 ≤ i ∧ i < 186 + 710 * s) ∨ (186 + 710 * s + 710 ≤ i ∧ i < 3026) ∨ 3736 ≤ i) → P' i = P i) → K (mw w q c' (rup r 0 P')) none) :
    zwp n_M_segments 8 [(0, .ref q), (2, .int x)] [] 0 0 (mw w q c (rup r 0 P)) K := by
  have h40 := hT.2.1
  refine b_M_segments_8 ?_
  simp only [and_assoc, exists_and_left, exists_eq_left, exists_eq_left', Option.some.injEq, Value.int.injEq, Value.ref.injEq, Value.long.injEq, true_and, and_true, exists_eq, exists_true_left, mw_ob, mw_ia0, mw_ia2, mw_ia5, mw_ia6, mw_ia7, mw_ia8, mw_ia9, mw_ia10, mw_ia11, mw_ia15, mw_ia16, mF_0, mF_1, mF_2, mF_3, mF_4, mF_5, mF_6, mF_7, mF_8, mF_9, mF_10, mF_11, mF_12, mF_13, mF_14, mF_15, mF_16, mF_len, mF_s1, mF_s3, mF_s4, mF_s12, mF_s13, mF_s14, mw_uob, mw_u0, mw_u2, mw_u5, mw_u6, mw_u7, mw_u8, mw_u9, mw_u10, mw_u11, mw_u15, mw_u16, Nat.reduceLT, rup_s, rup_rup]
  refine f_handlesText (f0 := f0) (n0 := 4294967296 + fh.length) (ky := f.1) (F := plug f.2.1 fh 0) (A := A) (bs := bs) hs (c := upd c 13 0) hb hA hky hm hW (fOk_plug hO) hn6 hp hx hT (MFw_of (MFs_plug hF.1) hH ?_ (Nat.le_refl _) ?_) (fun c' P' g' m1 m2 m3 m4 => ?_)
  · rw [show f0 ||| afm (plug f.2.1 fh 0) = f0 from Nat.or_zero _]
    exact h14
  · show (0 : Int32) = nI (4294967296 + fh.length - (4294967296 + fh.length))
    rw [Nat.sub_self]; rfl
  · simp only [and_assoc, exists_and_left, exists_eq_left, exists_eq_left', Option.some.injEq, Value.int.injEq, Value.ref.injEq, Value.long.injEq, true_and, and_true, exists_eq, exists_true_left, mw_ob, mw_ia0, mw_ia2, mw_ia5, mw_ia6, mw_ia7, mw_ia8, mw_ia9, mw_ia10, mw_ia11, mw_ia15, mw_ia16, mF_0, mF_1, mF_2, mF_3, mF_4, mF_5, mF_6, mF_7, mF_8, mF_9, mF_10, mF_11, mF_12, mF_13, mF_14, mF_15, mF_16, mF_len, mF_s1, mF_s3, mF_s4, mF_s12, mF_s13, mF_s14, mw_uob, mw_u0, mw_u2, mw_u5, mw_u6, mw_u7, mw_u8, mw_u9, mw_u10, mw_u11, mw_u15, mw_u16, Nat.reduceLT, rup_s, rup_rup]
    have eo : ∀ i, (i < 62 ∨ i = 65 ∨ (186 ≤ i ∧ i < 186 + 710 * s) ∨ (186 + 710 * s + 710 ≤ i ∧ i < 3026) ∨ 3736 ≤ i) → pgf P' (186 + 710 * s) 710 g' i = P i := fun i hi => by
      rw [pgf_out (by omega), m3 i (by omega)]
      exact if_neg (by omega)
    obtain ⟨k1, k2⟩ := id m1
    refine hK c' _ (HF_congr k1.2.2.2.2.1 (fun i a1 a2 a3 => pgf_out (by omega))) (MFl_congr ⟨MFs_plug (MFw_s m1), ML_congr hF.2 m4.1 (fun i hi _ => m4.2 i hi)⟩ (fun i hi => pgf_in hi)) k1.2.2.2.2.2.2.2.1 (k1.2.2.2.2.2.2.2.2.2.trans (by rw [Nat.add_sub_add_left]; rfl)) (Nat.le_of_add_le_add_left k1.2.2.2.2.2.2.2.2.1) (fun i a1 a2 => (m2 i a1 a2).trans (if_neg a1)) eo
theorem f_seg6 {b n o : Nat} {x : Int32} {g : Nat → Int32} {bs : List Int32} (hf : b + 710 ≤ 22416) (hn : n < 10) (hT : MT c r bs) (hK : zwp n_M_segments 7 [(0, .ref q), (2, .int x)] [] 0 0 (mw w q c (rup r 0 (pgf P b 710 (lgS g n o bs bs.length)))) K) : ∀ (m i : Nat), i + m = bs.length → zwp n_M_segments 6 [(0, .ref q), (2, .int x), (5, .int (nI (b + 290 + 42 * n))), (6, .int (nI i))] [] 0 0 (mw w q c (rup r 0 (pgf P b 710 (lgS g n o bs i)))) K := by
  intro m
  have h40 := hT.2.1
  induction m with
  | zero =>
    intro i hi
    obtain rfl : i = bs.length := by omega
    refine b_M_segments_6 ?_
    simp only [and_assoc, exists_and_left, exists_eq_left, exists_eq_left', Option.some.injEq, Value.int.injEq, Value.ref.injEq, Value.long.injEq, true_and, and_true, exists_eq, exists_true_left, mw_ob, mw_ia0, mw_ia2, mw_ia5, mw_ia6, mw_ia7, mw_ia8, mw_ia9, mw_ia10, mw_ia11, mw_ia15, mw_ia16, mF_0, mF_1, mF_2, mF_3, mF_4, mF_5, mF_6, mF_7, mF_8, mF_9, mF_10, mF_11, mF_12, mF_13, mF_14, mF_15, mF_16, mF_len, mF_s1, mF_s3, mF_s4, mF_s12, mF_s13, mF_s14, mw_uob, mw_u0, mw_u2, mw_u5, mw_u6, mw_u7, mw_u8, mw_u9, mw_u10, mw_u11, mw_u15, mw_u16, Nat.reduceLT, rup_s, rup_rup]
    rw [hT.1]
    exact ⟨fun _ => hK, fun z => absurd ((nI_leI (by omega) (by omega)).mpr (Nat.le_refl _)) z⟩
  | succ m ih =>
    intro i hi
    refine b_M_segments_6 ?_
    simp only [and_assoc, exists_and_left, exists_eq_left, exists_eq_left', Option.some.injEq, Value.int.injEq, Value.ref.injEq, Value.long.injEq, true_and, and_true, exists_eq, exists_true_left, mw_ob, mw_ia0, mw_ia2, mw_ia5, mw_ia6, mw_ia7, mw_ia8, mw_ia9, mw_ia10, mw_ia11, mw_ia15, mw_ia16, mF_0, mF_1, mF_2, mF_3, mF_4, mF_5, mF_6, mF_7, mF_8, mF_9, mF_10, mF_11, mF_12, mF_13, mF_14, mF_15, mF_16, mF_len, mF_s1, mF_s3, mF_s4, mF_s12, mF_s13, mF_s14, mw_uob, mw_u0, mw_u2, mw_u5, mw_u6, mw_u7, mw_u8, mw_u9, mw_u10, mw_u11, mw_u15, mw_u16, Nat.reduceLT, rup_s, rup_rup]
    rw [hT.1, rup_n (j := 2) (by decide), lit_2, nI_add, nI_add, nI_clamp (by omega), nI_clamp (by omega), hT.2.2 i (by omega), pgf_upd (k := 292 + 42 * n + i) (by omega) (by omega), nI_1]
    have es : upd (lgS g n o bs i) (292 + 42 * n + i) (bs.getD i 0) = lgS g n o bs (i + 1) := cpb_step
    rw [es]
    exact ⟨fun z => absurd ((nI_leI (by omega) (by omega)).mp z) (by omega), fun _ => ⟨vp_in_nI (by omega) (by decide), vp_in_nI (by omega) (by decide), ih (i + 1) (by omega)⟩⟩
/-- block 5 with what it is given -/
theorem f_seg5 {b o : Nat} {x v : Int32} {f : aFlow} {bs : List Int32} (hf : b + 710 ≤ 22416) (hb : c 12 = nI b) (hx : x = nI o) (hp : aOk (o, bs)) (hT : MT c r bs) (hF : MFl (fun k => P (b + k)) f) (hv : f.2.2.length < 10 → v = nI f.2.2.length)
    (hK : ∀ P', MFl (fun k => P' (b + k)) (f.1, f.2.1, aLog f.2.2 (o, bs)) → (∀ i, i < b ∨ b + 710 ≤ i → P' i = P i) → zwp n_M_segments 8 [(0, .ref q), (2, .int x)] [] 0 0 (mw w q c (rup r 0 P')) K) :
    zwp n_M_segments 5 [(0, .ref q), (2, .int x)] [.int v, .int 42, .int (nI (b + 290))] 0 0 (mw w q c (rup r 0 P)) K := by
  have h40 := hT.2.1
  have h10 := hF.2.2.1
  have e21 : P (b + 21) = nI f.2.2.length := hF.2.1
  refine b_M_segments_5 ?_
  simp only [and_assoc, exists_and_left, exists_eq_left, exists_eq_left', Option.some.injEq, Value.int.injEq, Value.ref.injEq, Value.long.injEq, true_and, and_true, exists_eq, exists_true_left, mw_ob, mw_ia0, mw_ia2, mw_ia5, mw_ia6, mw_ia7, mw_ia8, mw_ia9, mw_ia10, mw_ia11, mw_ia15, mw_ia16, mF_0, mF_1, mF_2, mF_3, mF_4, mF_5, mF_6, mF_7, mF_8, mF_9, mF_10, mF_11, mF_12, mF_13, mF_14, mF_15, mF_16, mF_len, mF_s1, mF_s3, mF_s4, mF_s12, mF_s13, mF_s14, mw_uob, mw_u0, mw_u2, mw_u5, mw_u6, mw_u7, mw_u8, mw_u9, mw_u10, mw_u11, mw_u15, mw_u16, Nat.reduceLT, rup_s, rup_rup]
  refine p_of hb (i := 21) rfl (by omega) ?_
  simp only [and_assoc, exists_and_left, exists_eq_left, exists_eq_left', Option.some.injEq, Value.int.injEq, Value.ref.injEq, Value.long.injEq, true_and, and_true, exists_eq, exists_true_left, mw_ob, mw_ia0, mw_ia2, mw_ia5, mw_ia6, mw_ia7, mw_ia8, mw_ia9, mw_ia10, mw_ia11, mw_ia15, mw_ia16, mF_0, mF_1, mF_2, mF_3, mF_4, mF_5, mF_6, mF_7, mF_8, mF_9, mF_10, mF_11, mF_12, mF_13, mF_14, mF_15, mF_16, mF_len, mF_s1, mF_s3, mF_s4, mF_s12, mF_s13, mF_s14, mw_uob, mw_u0, mw_u2, mw_u5, mw_u6, mw_u7, mw_u8, mw_u9, mw_u10, mw_u11, mw_u15, mw_u16, Nat.reduceLT, rup_s, rup_rup]
  rw [e21]
  refine ⟨fun z => ?_, fun z => ?_⟩
  · have z := (nI_leI (a := 10) (by decide) (by omega)).mp z
    rw [aLog, if_neg (by omega)] at hK
    exact hK P hF (fun _ _ => rfl)
  · have z : f.2.2.length < 10 := Nat.lt_of_not_le (fun y => z ((nI_leI (a := 10) (by decide) (by omega)).mpr y))
    rw [aLog, if_pos z] at hK
    rw [hv z, hx, hT.1, lit_42, pk_mul, nI_add, nI_1, nI_clamp (by omega), nI_clamp (by omega)]
    refine ⟨vp_in_nI (by omega) (by decide), vp_in_nI (by omega) (by decide), ?_⟩
    have eP : upd (upd P (b + 290 + 42 * f.2.2.length) (nI o)) (b + 290 + 42 * f.2.2.length + 1) (nI bs.length) = pgf P b 710 (lgS (fun k => P (b + k)) f.2.2.length o bs 0) := by
      have e0 : P = pgf P b 710 (fun k => P (b + k)) := pgf_id.symm
      have e1 : upd (pgf P b 710 (fun k => P (b + k))) (b + 290 + 42 * f.2.2.length) (nI o) = pgf P b 710 (upd (fun k => P (b + k)) (290 + 42 * f.2.2.length) (nI o)) := pgf_upd (by omega) (by omega)
      rw [← e0] at e1
      rw [e1, pgf_upd (k := 291 + 42 * f.2.2.length) (by omega) (by omega)]
      refine pgf_congr (fun k hk => ?_)
      exact (if_neg (by omega)).symm
    rw [eP]
    refine f_seg6 hf z hT (b_M_segments_7 ?_) bs.length 0 (Nat.zero_add _)
    simp only [and_assoc, exists_and_left, exists_eq_left, exists_eq_left', Option.some.injEq, Value.int.injEq, Value.ref.injEq, Value.long.injEq, true_and, and_true, exists_eq, exists_true_left, mw_ob, mw_ia0, mw_ia2, mw_ia5, mw_ia6, mw_ia7, mw_ia8, mw_ia9, mw_ia10, mw_ia11, mw_ia15, mw_ia16, mF_0, mF_1, mF_2, mF_3, mF_4, mF_5, mF_6, mF_7, mF_8, mF_9, mF_10, mF_11, mF_12, mF_13, mF_14, mF_15, mF_16, mF_len, mF_s1, mF_s3, mF_s4, mF_s12, mF_s13, mF_s14, mw_uob, mw_u0, mw_u2, mw_u5, mw_u6, mw_u7, mw_u8, mw_u9, mw_u10, mw_u11, mw_u15, mw_u16, Nat.reduceLT, rup_s, rup_rup]
    refine f_adds hb (i := 21) rfl (by decide) hf ?_
    simp only [and_assoc, exists_and_left, exists_eq_left, exists_eq_left', Option.some.injEq, Value.int.injEq, Value.ref.injEq, Value.long.injEq, true_and, and_true, exists_eq, exists_true_left, mw_ob, mw_ia0, mw_ia2, mw_ia5, mw_ia6, mw_ia7, mw_ia8, mw_ia9, mw_ia10, mw_ia11, mw_ia15, mw_ia16, mF_0, mF_1, mF_2, mF_3, mF_4, mF_5, mF_6, mF_7, mF_8, mF_9, mF_10, mF_11, mF_12, mF_13, mF_14, mF_15, mF_16, mF_len, mF_s1, mF_s3, mF_s4, mF_s12, mF_s13, mF_s14, mw_uob, mw_u0, mw_u2, mw_u5, mw_u6, mw_u7, mw_u8, mw_u9, mw_u10, mw_u11, mw_u15, mw_u16, Nat.reduceLT, rup_s, rup_rup]
    have el : lgS (fun k => P (b + k)) f.2.2.length o bs bs.length 21 + 1 = nI (f.2.2.length + 1) := by
      have : lgS (fun k => P (b + k)) f.2.2.length o bs bs.length 21 = P (b + 21) := (if_neg (by omega)).trans ((if_neg (by omega)).trans (if_neg (by omega)))
      rw [this, e21, nI_1]
    rw [el]
    have hk := hK (pgf P b 710 (lgT (fun k => P (b + k)) f.2.2.length o bs)) (MFl_congr (lgT_ok hF z hp) (fun k hk => pgf_in hk)) (fun i hi => pgf_out hi)
    rw [hx] at hk
    exact hk
/-- block 3: the flow at slot s comes last, keeps the segment, handles it -/
theorem f_seg3 {f0 s o : Nat} {x y : Int32} {f : aFlow} {fh : List aFd} {bs : List Int32} {sl : List Nat} {l : List aFlow} (hs : s < 4) (hb : c 12 = nI (186 + 710 * s)) (h14 : c 14 = nI f0) (hA : auOk A) (hky : kyOk f.1) (hm : MA c r A) (hW : PWd P A) (hO : fOk A f.2.1) (hn6 : f.2.1.2.2.1.length < 6) (hp : aOk (o, bs)) (hx : x = nI o) (hy : y = nI s) (hT : MT c r bs) (hH : HF P fh) (hF : MFl (fun k => P (186 + 710 * s + k)) f) (hS : SL P sl) (h4 : sl.length < 4) (hfr : ∀ i, i < sl.length → slG sl i ≠ s) (hL : FLs P sl l)
    (hK : ∀ c' P', HF P' (afh (aOn A f fh (o, bs))) → SL P' (sl ++ [s]) → FLs P' (sl ++ [s]) (l ++ [(f.1, plug (aOn A f fh (o, bs)) [] 0, aLog f.2.2 (o, bs))]) → c' 14 = nI (f0 ||| afm (aOn A f fh (o, bs))) → c' 13 = nI ((afh (aOn A f fh (o, bs))).length - fh.length) → fh.length ≤ (afh (aOn A f fh (o, bs))).length → CFr c c' → (∀ i, (i < 57 ∨ i = 65 ∨ 3736 ≤ i) → P' i = P i) → K (mw w q c' (rup r 0 P')) none) :
    zwp n_M_segments 3 [(0, .ref q), (2, .int x), (4, .int y)] [] 0 0 (mw w q c (rup r 0 P)) K := by
  have h10 := hF.2.2.1
  have e57 : P (57 : Int32).toNatClampNeg = nI sl.length := hS.1
  have e57b : ∀ v, upd P (58 + sl.length) v (57 : Int32).toNatClampNeg = nI sl.length := fun v => (if_neg (show ¬ 57 = 58 + sl.length by omega)).trans hS.1
  refine b_M_segments_3 ?_
  simp only [and_assoc, exists_and_left, exists_eq_left, exists_eq_left', Option.some.injEq, Value.int.injEq, Value.ref.injEq, Value.long.injEq, true_and, and_true, exists_eq, exists_true_left, mw_ob, mw_ia0, mw_ia2, mw_ia5, mw_ia6, mw_ia7, mw_ia8, mw_ia9, mw_ia10, mw_ia11, mw_ia15, mw_ia16, mF_0, mF_1, mF_2, mF_3, mF_4, mF_5, mF_6, mF_7, mF_8, mF_9, mF_10, mF_11, mF_12, mF_13, mF_14, mF_15, mF_16, mF_len, mF_s1, mF_s3, mF_s4, mF_s12, mF_s13, mF_s14, mw_uob, mw_u0, mw_u2, mw_u5, mw_u6, mw_u7, mw_u8, mw_u9, mw_u10, mw_u11, mw_u15, mw_u16, Nat.reduceLT, rup_s, rup_rup]
  rw [e57, lit_58, nI_add, nI_clamp (by omega), e57b, nI_1, hy, hb, lit_290, nI_add]
  refine ⟨vp_in_nI (n := 57) (by decide) (by decide), vp_in_nI (by omega) (by decide), ?_⟩
  obtain ⟨P1, hP1⟩ : ∃ P1, P1 = upd (upd P (58 + sl.length) (nI s)) (57 : Int32).toNatClampNeg (nI (sl.length + 1)) := ⟨_, rfl⟩
  rw [← hP1]
  have o1 : ∀ i, i ≠ 57 → i ≠ 58 + sl.length → P1 i = P i := fun i a1 a2 => by
    rw [hP1]
    exact (if_neg (show ¬ i = 57 from a1)).trans (if_neg a2)
  have o57 : P1 57 = nI (sl.length + 1) := by rw [hP1]; rfl
  have on : P1 (58 + sl.length) = nI s := by
    rw [hP1]
    exact (if_neg (show ¬ 58 + sl.length = 57 by omega)).trans (if_pos rfl)
  have hF1 : MFl (fun k => P1 (186 + 710 * s + k)) f := MFl_congr hF (fun k hk => o1 _ (by omega) (by omega))
  have hS1 := SL_app hS h4 hs hfr o57 on (fun i hi => o1 _ (by omega) (by omega))
  have e21 : P1 (186 + 710 * s + 21) = nI f.2.2.length := hF1.2.1
  have h5 : ∀ v, (f.2.2.length < 10 → v = nI f.2.2.length) → zwp n_M_segments 5 [(0, .ref q), (2, .int x)] [.int v, .int 42, .int (nI (186 + 710 * s + 290))] 0 0 (mw w q c (rup r 0 P1)) K := fun v hv => by
    refine f_seg5 (o := o) (bs := bs) (by omega) hb hx hp hT hF1 hv (fun P2 a1 a2 => ?_)
    have o2 : ∀ i, i < 186 → P2 i = P1 i := fun i hi => a2 i (by omega)
    refine f_seg8 (f0 := f0) (f := (f.1, f.2.1, aLog f.2.2 (o, bs))) (fh := fh) hs hb h14 hA hky hm (fun v hv => ?_) hO hn6 hp hx hT (HF_congr hH (fun i b1 b2 b3 => ?_)) a1 (fun c' P' k1 k2 k3 k4 k5 k6 k7 => ?_)
    · rw [o2 _ (by omega), o1 _ (by omega) (by omega)]
      exact hW v hv
    · rw [o2 _ (by omega), o1 _ (by omega) (by omega)]
    · refine hK c' P' k1 ?_ ?_ k3 k4 k5 k6 (fun i hi => ?_)
      · obtain ⟨s1, s2, s3, s4, s5⟩ := hS1
        have hl : (sl ++ [s]).length = sl.length + 1 := by rw [List.length_append]; rfl
        have es : ∀ i, i < 62 → P' i = P1 i := fun i hi => (k7 i (by omega)).trans (o2 i (by omega))
        exact ⟨(es _ (by decide)).trans s1, s2, s3, s4, fun i hi => (es _ (by omega)).trans (s5 i hi)⟩
      · refine FLs_app hS hL hs hfr (fun k b1 b2 b3 => ?_) k2
        rw [k7 k (by omega), a2 k (by omega), o1 k (by omega) (by omega)]
      · by_cases h3 : 3736 ≤ i
        · rw [k7 i (by omega), a2 i (by omega), o1 i (by omega) (by omega)]
        · rw [k7 i (by omega), a2 i (by omega), o1 i (by omega) (by omega)]
  refine ⟨vp_in_nI (n := 57) (by decide) (by decide), vp_in_nI (n := 57) (by decide) (by decide), ?_⟩
  refine p_of hb (i := 21) rfl (by omega) ?_
  simp only [and_assoc, exists_and_left, exists_eq_left, exists_eq_left', Option.some.injEq, Value.int.injEq, Value.ref.injEq, Value.long.injEq, true_and, and_true, exists_eq, exists_true_left, mw_ob, mw_ia0, mw_ia2, mw_ia5, mw_ia6, mw_ia7, mw_ia8, mw_ia9, mw_ia10, mw_ia11, mw_ia15, mw_ia16, mF_0, mF_1, mF_2, mF_3, mF_4, mF_5, mF_6, mF_7, mF_8, mF_9, mF_10, mF_11, mF_12, mF_13, mF_14, mF_15, mF_16, mF_len, mF_s1, mF_s3, mF_s4, mF_s12, mF_s13, mF_s14, mw_uob, mw_u0, mw_u2, mw_u5, mw_u6, mw_u7, mw_u8, mw_u9, mw_u10, mw_u11, mw_u15, mw_u16, Nat.reduceLT, rup_s, rup_rup]
  rw [e21]
  refine ⟨fun z => b_M_segments_4 (h5 9 (fun y => absurd ((nI_leI (a := 10) (by decide) (by omega)).mp z) (by omega))), fun z => ?_⟩
  refine p_of hb (i := 21) rfl (by omega) ?_
  simp only [and_assoc, exists_and_left, exists_eq_left, exists_eq_left', Option.some.injEq, Value.int.injEq, Value.ref.injEq, Value.long.injEq, true_and, and_true, exists_eq, exists_true_left, mw_ob, mw_ia0, mw_ia2, mw_ia5, mw_ia6, mw_ia7, mw_ia8, mw_ia9, mw_ia10, mw_ia11, mw_ia15, mw_ia16, mF_0, mF_1, mF_2, mF_3, mF_4, mF_5, mF_6, mF_7, mF_8, mF_9, mF_10, mF_11, mF_12, mF_13, mF_14, mF_15, mF_16, mF_len, mF_s1, mF_s3, mF_s4, mF_s12, mF_s13, mF_s14, mw_uob, mw_u0, mw_u2, mw_u5, mw_u6, mw_u7, mw_u8, mw_u9, mw_u10, mw_u11, mw_u15, mw_u16, Nat.reduceLT, rup_s, rup_rup]
  rw [e21]
  exact h5 _ (fun _ => rfl)
end MSeg2
