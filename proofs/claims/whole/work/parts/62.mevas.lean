/-! THE MODEL: replay(..), evasions(..) -/
def aReplayN (A : aAU) (fh : List aFd) (f : aFlow) (pol : Nat) : Nat := afm (aRp A (kyP f.1 pol) fh f.2.2 f.2.2.length)
def rpAll (A : aAU) (s : aSt) : Prop := ∀ f ∈ s.2.2.2.1, ∀ pol, pol ≤ 3 → rpOk A (kyP f.1 pol) s.2.2.1 f.2.2
def aEvO (A : aAU) (fh : List aFd) (f : aFlow) : Nat → Int32
  | 0 => 0
  | k + 1 => aEvO A fh f k ||| nI (aReplayN A fh f k)
def aEvA (A : aAU) (fh : List aFd) (f : aFlow) : Nat → Int32
  | 0 => -1
  | k + 1 => aEvA A fh f k &&& nI (aReplayN A fh f k)
def aEvas (A : aAU) (s : aSt) (key : Int32) : Int32 := if (0 : Int32) ≤ aAsked s.2.2.2.1 key then aEvO A s.2.2.1 (fGet s.2.2.2.1 (aAsked s.2.2.2.1 key).toNatClampNeg) 4 &&& (aEvA A s.2.2.1 (fGet s.2.2.2.1 (aAsked s.2.2.2.1 key).toNatClampNeg) 4 ^^^ -1) else aAsked s.2.2.2.1 key
section MEvas
variable {w : jx_W} {q : Nat} {c : Nat → Int32} {r : Nat → Nat → Int32} {K : jx_Q} {P : Nat → Int32} {A : aAU} {s : aSt} {past : List aSt} {bs : List Int32}
theorem f_replay {key x : Int32} (hI : MI c r P A s past bs) (hO : stOk A s) (hA : auOk A) (hR : rpAll A s) (hK : ∀ c' P', MI c' r P' A s past bs → K (mw w q c' (rup r 0 P')) (some (.int (aAsk s 0 3 key x (fun f k => nI (aReplayN A s.2.2.1 f k)))))) : zcall n_M_replay [.ref q, .int key, .int x] (mw w q c (rup r 0 P)) K := by
  obtain ⟨⟨k1, k2, k5, ⟨sl, k6, k7⟩, k8⟩, h2, h3, h4, h5, h6⟩ := id hI
  have hl : sl.length = s.2.2.2.1.length := k7.1
  have hl4 := k6.2.1
  unfold aAsk at hK
  refine e_M_replay (b_M_replay_0 (s_M_in (fun a1 a2 => ?_) (fun a => ?_)))
  · rw [if_pos ⟨a1, a2⟩] at hK
    obtain ⟨k, hk, rfl⟩ := rng_nI (hi := 3) (by decide) ⟨a1, a2⟩
    simp only [and_assoc, exists_and_left, exists_eq_left, exists_eq_left', Option.some.injEq, Value.int.injEq, Value.ref.injEq, Value.long.injEq, true_and, and_true, exists_eq, exists_true_left, mw_ob, mw_ia0, mw_ia2, mw_ia5, mw_ia6, mw_ia7, mw_ia8, mw_ia9, mw_ia10, mw_ia11, mw_ia15, mw_ia16, mF_0, mF_1, mF_2, mF_3, mF_4, mF_5, mF_6, mF_7, mF_8, mF_9, mF_10, mF_11, mF_12, mF_13, mF_14, mF_15, mF_16, mF_len, mF_s1, mF_s3, mF_s4, mF_s12, mF_s13, mF_s14, mw_uob, mw_u0, mw_u2, mw_u5, mw_u6, mw_u7, mw_u8, mw_u9, mw_u10, mw_u11, mw_u15, mw_u16, Nat.reduceLT, rup_s, rup_rup]
    refine if0 (f_asked hI.1 ?_)
    simp only [and_assoc, exists_and_left, exists_eq_left, exists_eq_left', Option.some.injEq, Value.int.injEq, Value.ref.injEq, Value.long.injEq, true_and, and_true, exists_eq, exists_true_left, mw_ob, mw_ia0, mw_ia2, mw_ia5, mw_ia6, mw_ia7, mw_ia8, mw_ia9, mw_ia10, mw_ia11, mw_ia15, mw_ia16, mF_0, mF_1, mF_2, mF_3, mF_4, mF_5, mF_6, mF_7, mF_8, mF_9, mF_10, mF_11, mF_12, mF_13, mF_14, mF_15, mF_16, mF_len, mF_s1, mF_s3, mF_s4, mF_s12, mF_s13, mF_s14, mw_uob, mw_u0, mw_u2, mw_u5, mw_u6, mw_u7, mw_u8, mw_u9, mw_u10, mw_u11, mw_u15, mw_u16, Nat.reduceLT, rup_s, rup_rup]
    refine b_M_replay_2 ⟨fun z => b_M_replay_3 ?_, fun z => b_M_replay_4 ?_⟩
    · rw [if_pos z] at hK
      obtain ⟨i, hi, hpl, ea⟩ | hno := aAsked_cs (l := s.2.2.2.1) (key := key) (by omega)
      case inr => exact absurd z hno
      rw [ea, nI_clamp (by omega), nI_clamp (by omega)] at hK
      rw [ea]
      simp only [and_assoc, exists_and_left, exists_eq_left, exists_eq_left', Option.some.injEq, Value.int.injEq, Value.ref.injEq, Value.long.injEq, true_and, and_true, exists_eq, exists_true_left, mw_ob, mw_ia0, mw_ia2, mw_ia5, mw_ia6, mw_ia7, mw_ia8, mw_ia9, mw_ia10, mw_ia11, mw_ia15, mw_ia16, mF_0, mF_1, mF_2, mF_3, mF_4, mF_5, mF_6, mF_7, mF_8, mF_9, mF_10, mF_11, mF_12, mF_13, mF_14, mF_15, mF_16, mF_len, mF_s1, mF_s3, mF_s4, mF_s12, mF_s13, mF_s14, mw_uob, mw_u0, mw_u2, mw_u5, mw_u6, mw_u7, mw_u8, mw_u9, mw_u10, mw_u11, mw_u15, mw_u16, Nat.reduceLT, rup_s, rup_rup]
      refine f_replays (i := i) (pol := k) hI hO hA hi rfl rfl hk (hR _ (fGet_mem hi) k hk) (fun c' P' m => ?_)
      simp only [and_assoc, exists_and_left, exists_eq_left, exists_eq_left', Option.some.injEq, Value.int.injEq, Value.ref.injEq, Value.long.injEq, true_and, and_true, exists_eq, exists_true_left, mw_ob, mw_ia0, mw_ia2, mw_ia5, mw_ia6, mw_ia7, mw_ia8, mw_ia9, mw_ia10, mw_ia11, mw_ia15, mw_ia16, mF_0, mF_1, mF_2, mF_3, mF_4, mF_5, mF_6, mF_7, mF_8, mF_9, mF_10, mF_11, mF_12, mF_13, mF_14, mF_15, mF_16, mF_len, mF_s1, mF_s3, mF_s4, mF_s12, mF_s13, mF_s14, mw_uob, mw_u0, mw_u2, mw_u5, mw_u6, mw_u7, mw_u8, mw_u9, mw_u10, mw_u11, mw_u15, mw_u16, Nat.reduceLT, rup_s, rup_rup]
      exact b_M_replay_4 (hK c' P' m)
    · rw [if_neg z] at hK
      exact hK c P hI
  · rw [if_neg (show ¬ ((0 : Int32) ≤ x ∧ x ≤ nI 3) from a)] at hK
    simp only [and_assoc, exists_and_left, exists_eq_left, exists_eq_left', Option.some.injEq, Value.int.injEq, Value.ref.injEq, Value.long.injEq, true_and, and_true, exists_eq, exists_true_left, mw_ob, mw_ia0, mw_ia2, mw_ia5, mw_ia6, mw_ia7, mw_ia8, mw_ia9, mw_ia10, mw_ia11, mw_ia15, mw_ia16, mF_0, mF_1, mF_2, mF_3, mF_4, mF_5, mF_6, mF_7, mF_8, mF_9, mF_10, mF_11, mF_12, mF_13, mF_14, mF_15, mF_16, mF_len, mF_s1, mF_s3, mF_s4, mF_s12, mF_s13, mF_s14, mw_uob, mw_u0, mw_u2, mw_u5, mw_u6, mw_u7, mw_u8, mw_u9, mw_u10, mw_u11, mw_u15, mw_u16, Nat.reduceLT, rup_s, rup_rup]
    exact if1 (b_M_replay_1 (b_M_replay_2 ⟨fun z => absurd z (by decide), fun _ => b_M_replay_4 (hK c P hI)⟩))
theorem f_evas_loop {i : Nat} (hO : stOk A s) (hA : auOk A) (hR : rpAll A s) (hi : i < s.2.2.2.1.length) (hK : ∀ c' P', MI c' r P' A s past bs → K (mw w q c' (rup r 0 P')) (some (.int (aEvO A s.2.2.1 (fGet s.2.2.2.1 i) 4 &&& (aEvA A s.2.2.1 (fGet s.2.2.2.1 i) 4 ^^^ -1))))) : ∀ (m k : Nat), k + m = 4 → ∀ c P, MI c r P A s past bs → zwp n_M_evasions 2 [(0, .ref q), (2, .int (nI i)), (3, .int (aEvO A s.2.2.1 (fGet s.2.2.2.1 i) k)), (4, .int (aEvA A s.2.2.1 (fGet s.2.2.2.1 i) k)), (5, .int (nI k))] [] 0 0 (mw w q c (rup r 0 P)) K := by
  intro m
  induction m with
  | zero =>
    intro k hk c P hI
    obtain rfl : k = 4 := by omega
    exact b_M_evasions_2 ⟨fun _ => b_M_evasions_3 (hK c P hI), fun z => absurd (by decide) z⟩
  | succ m ih =>
    intro k hk c P hI
    refine b_M_evasions_2 ⟨fun z => absurd ((nI_ltI (a := 3) (by decide) (by omega)).mp z) (by omega), fun _ => ?_⟩
    simp only [and_assoc, exists_and_left, exists_eq_left, exists_eq_left', Option.some.injEq, Value.int.injEq, Value.ref.injEq, Value.long.injEq, true_and, and_true, exists_eq, exists_true_left, mw_ob, mw_ia0, mw_ia2, mw_ia5, mw_ia6, mw_ia7, mw_ia8, mw_ia9, mw_ia10, mw_ia11, mw_ia15, mw_ia16, mF_0, mF_1, mF_2, mF_3, mF_4, mF_5, mF_6, mF_7, mF_8, mF_9, mF_10, mF_11, mF_12, mF_13, mF_14, mF_15, mF_16, mF_len, mF_s1, mF_s3, mF_s4, mF_s12, mF_s13, mF_s14, mw_uob, mw_u0, mw_u2, mw_u5, mw_u6, mw_u7, mw_u8, mw_u9, mw_u10, mw_u11, mw_u15, mw_u16, Nat.reduceLT, rup_s, rup_rup]
    refine f_replays (i := i) (pol := k) hI hO hA hi rfl rfl (by omega) (hR _ (fGet_mem hi) k (by omega)) (fun c' P' m => ?_)
    simp only [and_assoc, exists_and_left, exists_eq_left, exists_eq_left', Option.some.injEq, Value.int.injEq, Value.ref.injEq, Value.long.injEq, true_and, and_true, exists_eq, exists_true_left, mw_ob, mw_ia0, mw_ia2, mw_ia5, mw_ia6, mw_ia7, mw_ia8, mw_ia9, mw_ia10, mw_ia11, mw_ia15, mw_ia16, mF_0, mF_1, mF_2, mF_3, mF_4, mF_5, mF_6, mF_7, mF_8, mF_9, mF_10, mF_11, mF_12, mF_13, mF_14, mF_15, mF_16, mF_len, mF_s1, mF_s3, mF_s4, mF_s12, mF_s13, mF_s14, mw_uob, mw_u0, mw_u2, mw_u5, mw_u6, mw_u7, mw_u8, mw_u9, mw_u10, mw_u11, mw_u15, mw_u16, Nat.reduceLT, rup_s, rup_rup]
    rw [nI_1]
    exact ih (k + 1) (by omega) c' P' m
theorem f_evasions {key : Int32} (hI : MI c r P A s past bs) (hO : stOk A s) (hA : auOk A) (hR : rpAll A s) (hK : ∀ c' P', MI c' r P' A s past bs → K (mw w q c' (rup r 0 P')) (some (.int (aEvas A s key)))) : zcall n_M_evasions [.ref q, .int key] (mw w q c (rup r 0 P)) K := by
  obtain ⟨⟨k1, k2, k5, ⟨sl, k6, k7⟩, k8⟩, h2, h3, h4, h5, h6⟩ := id hI
  have hl : sl.length = s.2.2.2.1.length := k7.1
  have hl4 := k6.2.1
  unfold aEvas at hK
  refine e_M_evasions (b_M_evasions_0 ?_)
  simp only [and_assoc, exists_and_left, exists_eq_left, exists_eq_left', Option.some.injEq, Value.int.injEq, Value.ref.injEq, Value.long.injEq, true_and, and_true, exists_eq, exists_true_left, mw_ob, mw_ia0, mw_ia2, mw_ia5, mw_ia6, mw_ia7, mw_ia8, mw_ia9, mw_ia10, mw_ia11, mw_ia15, mw_ia16, mF_0, mF_1, mF_2, mF_3, mF_4, mF_5, mF_6, mF_7, mF_8, mF_9, mF_10, mF_11, mF_12, mF_13, mF_14, mF_15, mF_16, mF_len, mF_s1, mF_s3, mF_s4, mF_s12, mF_s13, mF_s14, mw_uob, mw_u0, mw_u2, mw_u5, mw_u6, mw_u7, mw_u8, mw_u9, mw_u10, mw_u11, mw_u15, mw_u16, Nat.reduceLT, rup_s, rup_rup]
  refine f_asked hI.1 ?_
  simp only [and_assoc, exists_and_left, exists_eq_left, exists_eq_left', Option.some.injEq, Value.int.injEq, Value.ref.injEq, Value.long.injEq, true_and, and_true, exists_eq, exists_true_left, mw_ob, mw_ia0, mw_ia2, mw_ia5, mw_ia6, mw_ia7, mw_ia8, mw_ia9, mw_ia10, mw_ia11, mw_ia15, mw_ia16, mF_0, mF_1, mF_2, mF_3, mF_4, mF_5, mF_6, mF_7, mF_8, mF_9, mF_10, mF_11, mF_12, mF_13, mF_14, mF_15, mF_16, mF_len, mF_s1, mF_s3, mF_s4, mF_s12, mF_s13, mF_s14, mw_uob, mw_u0, mw_u2, mw_u5, mw_u6, mw_u7, mw_u8, mw_u9, mw_u10, mw_u11, mw_u15, mw_u16, Nat.reduceLT, rup_s, rup_rup]
  refine ⟨fun z => b_M_evasions_1 ?_, fun z => ?_⟩
  · rw [if_pos z] at hK
    obtain ⟨i, hi, hpl, ea⟩ | hno := aAsked_cs (l := s.2.2.2.1) (key := key) (by omega)
    case inr => exact absurd z hno
    rw [ea, nI_clamp (by omega)] at hK
    rw [ea]
    exact f_evas_loop hO hA hR hi hK 4 0 rfl c P hI
  · rw [if_neg z] at hK
    exact hK c P hI
end MEvas
