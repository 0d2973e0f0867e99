/-! THE CLASS's OBJECT: its cells, what they mean -/
def sa (t k : Nat) : Nat := if k = 0 then t + 11 else if k = 5 then t + 70 else t + 147 + 59 * (k - 1)
theorem sa_in (t : Nat) {k : Nat} (h : k < 6) : t + 11 ≤ sa t k ∧ sa t k + 59 ≤ t + 383 ∧ (sa t k + 59 ≤ t + 129 ∨ t + 147 ≤ sa t k) := by
  unfold sa
  split
  · omega
  · split <;> omega
theorem sa_dis (t : Nat) {j k : Nat} (hj : j < 6) (hk : k < 6) (h : j ≠ k) : sa t j + 59 ≤ sa t k ∨ sa t k + 59 ≤ sa t j := by
  unfold sa
  split
  · split
    · omega
    · split <;> omega
  · split
    · split
      · omega
      · split <;> omega
    · split
      · omega
      · split <;> omega
def TF (t : Nat) (tl pc : Int32) (nw : Nat) : List Value := [.ref (t + 1), .int tl, .ref (t + 2), .ref nw, .ref (t + 70), .ref (t + 129), .ref (t + 146), .int pc]
section TFs
variable (t : Nat) (tl pc : Int32) (nw : Nat)
theorem TF_0 : (TF t tl pc nw)[0]? = some (.ref (t + 1)) := rfl
theorem TF_1 : (TF t tl pc nw)[1]? = some (.int tl) := rfl
theorem TF_2 : (TF t tl pc nw)[2]? = some (.ref (t + 2)) := rfl
theorem TF_3 : (TF t tl pc nw)[3]? = some (.ref nw) := rfl
theorem TF_4 : (TF t tl pc nw)[4]? = some (.ref (t + 70)) := rfl
theorem TF_5 : (TF t tl pc nw)[5]? = some (.ref (t + 129)) := rfl
theorem TF_6 : (TF t tl pc nw)[6]? = some (.ref (t + 146)) := rfl
theorem TF_7 : (TF t tl pc nw)[7]? = some (.int pc) := rfl
theorem TF_len : (TF t tl pc nw).length = 8 := rfl
theorem TF_s1 (x : Int32) : (TF t tl pc nw).set 1 (.int x) = TF t x pc nw := rfl
theorem TF_s3 (x : Nat) : (TF t tl pc nw).set 3 (.ref x) = TF t tl pc x := rfl
theorem TF_s7 (x : Int32) : (TF t tl pc nw).set 7 (.int x) = TF t tl x nw := rfl
end TFs
def ThC (t : Nat) (tl pc : Int32) (nw : Nat) (tx : Nat → Int32) : Nat → Option jx_E
  | 0 => some (.inr (7, TF t tl pc nw))
  | 1 => some (.inl (.byte, 40, .inl tx))
  | _ => none
def TpC (pf : Nat → Option Nat) : Nat → Option jx_E := fun _ => some (.inl (.object (jx_nm 5), 4, .inr (.inr (.inr (.inr pf)))))
def Thw (W : jx_W) (t : Nat) (tl pc : Int32) (nw : Nat) (tx : Nat → Int32) (pf : Nat → Option Nat) : jx_W := bw (bw W (t + 146) 1 (TpC pf)) t 2 (ThC t tl pc nw tx)
def THd (W : jx_W) (t : Nat) (tl pc : Int32) (nw : Nat) (tx : Nat → Int32) (pf : Nat → Option Nat) : Prop := At W t 2 (ThC t tl pc nw tx) ∧ At W (t + 146) 1 (TpC pf)
section Th
variable (W : jx_W) (t : Nat) (tl pc : Int32) (nw : Nat) (tx : Nat → Int32) (pf : Nat → Option Nat)
theorem Thw_at : THd (Thw W t tl pc nw tx pf) t tl pc nw tx pf := ⟨At_bw, At_out At_bw (by omega)⟩
theorem Thw_ob (fs : List Value) : jx_ob (Thw W t tl pc nw tx pf) t 7 fs ↔ fs = TF t tl pc nw := ob_iff (bw_at (k := 0) (by decide))
theorem Thw_uob (tl' pc' : Int32) (nw' : Nat) : jx_uob (Thw W t tl pc nw tx pf) t 7 (TF t tl' pc' nw') = Thw W t tl' pc' nw' tx pf := (bw_up (k := 0) (by decide)).trans (bw_congr (fun j h => by
  obtain rfl | rfl : j = 0 ∨ j = 1 := by omega
  · rfl
  · rfl))
theorem Thw_tx (m : Nat) (f : Nat → Int32) : jx_ba (Thw W t tl pc nw tx pf) (t + 1) m f ↔ m = 40 ∧ f = tx := ba_iff (bw_at (k := 1) (by decide))
theorem Thw_utx (f : Nat → Int32) : jx_uba (Thw W t tl pc nw tx pf) (t + 1) 40 f = Thw W t tl pc nw f pf := (bw_up (k := 1) (by decide)).trans (bw_congr (fun j h => by
  obtain rfl | rfl : j = 0 ∨ j = 1 := by omega
  · rfl
  · rfl))
theorem Thw_pa (m : Nat) (f : Nat → Option Nat) : jx_ra (Thw W t tl pc nw tx pf) (t + 146) (jx_nm 5) m f ↔ m = 4 ∧ f = pf := ra_iff ((Thw_at W t tl pc nw tx pf).2 0 (by decide))
theorem Thw_upa (f : Nat → Option Nat) : jx_ura (Thw W t tl pc nw tx pf) (t + 146) (jx_nm 5) 4 f = Thw W t tl pc nw tx f := by
  show jx_up (bw (bw W (t + 146) 1 (TpC pf)) t 2 (ThC t tl pc nw tx)) (t + 146 + 0) _ = _
  unfold Thw
  rw [bw_up_out (by omega)]
  congr 1
  refine (bw_up (k := 0) (by decide)).trans (bw_congr (fun j h => ?_))
  obtain rfl : j = 0 := by omega
  rfl
end Th
theorem Thw_eq {W : jx_W} {t : Nat} {tl pc : Int32} {nw : Nat} {tx : Nat → Int32} {pf : Nat → Option Nat} (h : THd W t tl pc nw tx pf) : Thw W t tl pc nw tx pf = W := by
  unfold Thw
  rw [bw_self h.2, bw_self h.1]
theorem Fr_th {W : jx_W} {t : Nat} {tl pc : Int32} {nw : Nat} {tx : Nat → Int32} {pf : Nat → Option Nat} : Fr W (Thw W t tl pc nw tx pf) t 383 := (Fr.rf.bw (by omega) (by omega)).bw (by omega) (by omega)
/-- all its cells -/
def TP (W : jx_W) (t : Nat) (tl pc : Int32) (nw : Nat) (pf : Nat → Option Nat) (tx : Nat → Int32) (ac : Nat → Int32) (ar : Nat → Nat → Int32) (Y : Nat → cSt) (Xr : cFl) (fc : Nat → Int32) (fr : Nat → Nat → Int32) : Prop :=
  THd W t tl pc (sa t nw) tx pf ∧ At W (t + 2) 9 (AuC (t + 2) ac ar) ∧ (∀ k, k < 6 → SAt W (sa t k) (t + 2) (Y k)) ∧ FAt W (t + 129) 5 (t + 2) (t + 130) Xr ∧ At W (t + 130) 5 (FdC (t + 130) fc fr)
section TPs
variable {W W' : jx_W} {t : Nat} {tl pc : Int32} {nw : Nat} {pf : Nat → Option Nat} {tx : Nat → Int32} {ac : Nat → Int32} {ar : Nat → Nat → Int32} {Y : Nat → cSt} {Xr : cFl} {fc : Nat → Int32} {fr : Nat → Nat → Int32}
theorem THd_fr (h : THd W t tl pc nw tx pf) {b n : Nat} (hf : Fr W W' b n) (h1 : t + 2 ≤ b) (h2 : b + n ≤ t + 146 ∨ t + 147 ≤ b) : THd W' t tl pc nw tx pf := ⟨h.1.fr hf (by omega), h.2.fr hf (by omega)⟩
theorem FAt.fr5 {a au fd : Nat} {X : cFl} {b n : Nat} (h : FAt W a 5 au fd X) (hf : Fr W W' b n) (hd : b + n ≤ a ∨ a + 17 ≤ b) : FAt W' a 5 au fd X := ⟨(hf.2.2 _ (by omega)).trans h.1, h.2.fr hf (by omega)⟩
/-- a state changes -/
theorem TP.st (h : TP W t tl pc nw pf tx ac ar Y Xr fc fr) {k : Nat} {Y' : cSt} (hk : k < 6) (hf : Fr W W' (sa t k) 59) (hS : SAt W' (sa t k) (t + 2) Y') : TP W' t tl pc nw pf tx ac ar (fun j => if j = k then Y' else Y j) Xr fc fr := by
  obtain ⟨h1, h2, h3, h4, h5⟩ := h
  have hi := sa_in t hk
  refine ⟨THd_fr h1 hf (by omega) (by omega), h2.fr hf (by omega), fun j hj => ?_, h4.fr5 hf (by omega), h5.fr hf (by omega)⟩
  show SAt W' (sa t j) (t + 2) (if j = k then Y' else Y j)
  by_cases e : j = k
  · rw [if_pos e, e]; exact hS
  · rw [if_neg e]
    exact (h3 j hj).fr hf (by have := sa_dis t hj hk e; omega)
theorem Fr_st {k : Nat} (hk : k < 6) (hf : Fr W W' (sa t k) 59) : Fr W W' t 383 := hf.wide (by have := sa_in t hk; omega) (by have := sa_in t hk; omega)
/-- the head changes -/
theorem TP.hd (h : TP W t tl pc nw pf tx ac ar Y Xr fc fr) {tl' pc' : Int32} {nw' : Nat} {tx' : Nat → Int32} {pf' : Nat → Option Nat} : TP (Thw W t tl' pc' (sa t nw') tx' pf') t tl' pc' nw' pf' tx' ac ar Y Xr fc fr := by
  obtain ⟨h1, h2, h3, h4, h5⟩ := h
  have f1 : Fr W (bw W (t + 146) 1 (TpC pf')) (t + 146) 1 := Fr.rf.bw (by omega) (by omega)
  have f2 : Fr (bw W (t + 146) 1 (TpC pf')) (Thw W t tl' pc' (sa t nw') tx' pf') t 2 := Fr.rf.bw (by omega) (by omega)
  refine ⟨Thw_at _ _ _ _ _ _ _, (h2.fr f1 (by omega)).fr f2 (by omega), fun k hk => ?_, (h4.fr5 f1 (by omega)).fr5 f2 (by omega), (h5.fr f1 (by omega)).fr f2 (by omega)⟩
  have hi := sa_in t hk
  exact ((h3 k hk).fr f1 (by omega)).fr f2 (by omega)
/-- the automaton changes -/
theorem TP.au (h : TP W t tl pc nw pf tx ac ar Y Xr fc fr) {ac' : Nat → Int32} {ar' : Nat → Nat → Int32} : TP (Auw W (t + 2) ac' ar') t tl pc nw pf tx ac' ar' Y Xr fc fr := by
  obtain ⟨h1, h2, h3, h4, h5⟩ := h
  have f1 : Fr W (Auw W (t + 2) ac' ar') (t + 2) 9 := Fr.rf.bw (by omega) (by omega)
  refine ⟨THd_fr h1 f1 (by omega) (by omega), At_bw, fun k hk => ?_, h4.fr5 f1 (by omega), h5.fr f1 (by omega)⟩
  have hi := sa_in t hk
  exact (h3 k hk).fr f1 (by omega)
/-- the rehearsal changes -/
theorem TP.rh (h : TP W t tl pc nw pf tx ac ar Y Xr fc fr) {X' : cFl} {fc' : Nat → Int32} {fr' : Nat → Nat → Int32} : TP (Flw (Fdw W (t + 130) fc' fr') (t + 129) 5 (t + 2) (t + 130) X') t tl pc nw pf tx ac ar Y X' fc' fr' := by
  obtain ⟨h1, h2, h3, h4, h5⟩ := h
  have f1 : Fr W (Flw (Fdw W (t + 130) fc' fr') (t + 129) 5 (t + 2) (t + 130) X') (t + 129) 17 := ((Fr.rf.bw (by omega) (by omega)).bw (by omega) (by omega)).bw (by omega) (by omega)
  refine ⟨THd_fr h1 f1 (by omega) (by omega), h2.fr f1 (by omega), fun k hk => ?_, Flw_at, At_out (At_out At_bw (by omega)) (by omega)⟩
  have hi := sa_in t hk
  exact (h3 k hk).fr f1 (by omega)
end TPs
/-- what they mean: the words, the flows, the finds and the settings now, the past, the text; n bounds what the rehearsal found -/
def TM (t : Nat) (nw : Nat) (pa : Nat → Nat) (pf : Nat → Option Nat) (tx : Nat → Int32) (ac : Nat → Int32) (ar : Nat → Nat → Int32) (Y : Nat → cSt) (fc : Nat → Int32) (fr : Nat → Nat → Int32) (s : aSt) (past : List aSt) (bs : List Int32) (n : Nat) : Prop :=
  (bs.length ≤ 40 ∧ ∀ i, i < bs.length → tx i = bs.getD i 0) ∧ AUx ac ar s.1 ∧ (nw < 5 ∧ (∀ i, i < 4 → pa i < 5 ∧ pa i ≠ nw ∧ pf i = some (sa t (pa i))) ∧ ∀ i j, i < 4 → j < 4 → pa i = pa j → i = j) ∧ (∃ od, STr (sa t nw) od (Y nw) s) ∧ (past.length ≤ 4 ∧ ∀ i, i < past.length → ∃ od, STr (sa t (pa i)) od (Y (pa i)) (pGet past i)) ∧ (∀ k, k < 6 → ∃ od, OD (sa t k) (Y k).2.2.1 od) ∧ ∃ fh, FDr fc fr fh ∧ fh.length ≤ n
def TI (W : jx_W) (t : Nat) (s : aSt) (past : List aSt) (bs : List Int32) (n : Nat) : Prop := ∃ nw pa pf tx ac ar Y Xr fc fr, TP W t (nI bs.length) (nI past.length) nw pf tx ac ar Y Xr fc fr ∧ TM t nw pa pf tx ac ar Y fc fr s past bs n
section CTop
variable {W : jx_W} {t : Nat} {s : aSt} {past : List aSt} {bs : List Int32} {n : Nat} {K : jx_Q}
theorem s_T_isKey {x : Int32} {w : jx_W} (h1 : (0 : Int32) ≤ x ∧ x ≤ 99 → K w (some (.int 1))) (h0 : ¬ ((0 : Int32) ≤ x ∧ x ≤ 99) → K w (some (.int 0))) : zcall n_T_isKey [.int x] w K := by
  refine e_T_isKey (b_T_isKey_0 ⟨fun z => b_T_isKey_1 (b_T_isKey_2 ⟨b01, h0 (fun y => absurd z (Int32.not_lt.mpr y.1))⟩), fun z => ⟨fun z2 => b_T_isKey_1 (b_T_isKey_2 ⟨b01, h0 (fun y => ?_)⟩), fun z2 => b_T_isKey_2 ⟨b11, h1 ⟨Int32.not_lt.mp z, ?_⟩⟩⟩⟩)
  · exact absurd (Int32.le_trans z2 y.2) (by decide)
  · have := Int32.lt_iff_toInt_lt.mp (Int32.not_le.mp z2)
    rw [Int32.le_iff_toInt_le]
    have e1 : (100 : Int32).toInt = 100 := by decide
    have e2 : (99 : Int32).toInt = 99 := by decide
    omega
theorem s_T_isWord {x : Int32} {w : jx_W} (h1 : (0 : Int32) ≤ x ∧ x ≤ 5 → K w (some (.int 1))) (h0 : ¬ ((0 : Int32) ≤ x ∧ x ≤ 5) → K w (some (.int 0))) : zcall n_T_isWord [.int x] w K := by
  refine e_T_isWord (b_T_isWord_0 ⟨fun z => b_T_isWord_1 (b_T_isWord_2 ⟨b01, h0 (fun y => absurd z (Int32.not_lt.mpr y.1))⟩), fun z => ⟨fun z2 => b_T_isWord_1 (b_T_isWord_2 ⟨b01, h0 (fun y => ?_)⟩), fun z2 => b_T_isWord_2 ⟨b11, h1 ⟨Int32.not_lt.mp z, ?_⟩⟩⟩⟩)
  · exact absurd (Int32.le_trans z2 y.2) (by decide)
  · have := Int32.lt_iff_toInt_lt.mp (Int32.not_le.mp z2)
    rw [Int32.le_iff_toInt_le]
    have e1 : (6 : Int32).toInt = 6 := by decide
    have e2 : (5 : Int32).toInt = 5 := by decide
    omega
theorem c_clear (hI : TI W t s past bs n) (hK : ∀ W', TI W' t s past [] n → Fr W W' t 383 → K W' (some (.int (nI bs.length)))) : zcall n_T_clear [.ref t] W K := by
  obtain ⟨nw, pa, pf, tx, ac, ar, Y, Xr, fc, fr, hP, m1, m2⟩ := hI
  have hP2 := hP.hd (tl' := 0) (pc' := nI past.length) (nw' := nw) (tx' := tx) (pf' := pf)
  have hK2 := hK _ ⟨nw, pa, pf, tx, ac, ar, Y, Xr, fc, fr, hP2, ⟨by decide, fun i hi => absurd hi (Nat.not_lt_zero _)⟩, m2⟩ Fr_th
  rw [← Thw_eq hP.1]
  refine e_T_clear (b_T_clear_0 ?_)
  simp only [Thw_ob, TF_1, TF_len, TF_s1, Thw_uob, and_assoc, exists_and_left, exists_eq_left, exists_eq_left', Option.some.injEq, Value.int.injEq, Value.ref.injEq, Value.long.injEq, true_and, and_true, exists_eq, exists_true_left]
  exact ⟨by decide, hK2⟩
end CTop
