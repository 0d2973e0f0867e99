/-! THE MODEL IS MADE; both side by side -/
section MInit
variable {w : jx_W} {K : jx_Q}
def r00 : Nat → Nat → Int32 := rup zR 0 (upd (fun _ => 0) 56 10)
theorem PS0 : PS (upd (fun _ => 0) 56 10) s0 := by
  refine ⟨fun v hv => ⟨?_, Nat.zero_le _, fun i hi => absurd hi (Nat.not_lt_zero _)⟩, ⟨rfl, rfl, rfl⟩, ⟨rfl, rfl, rfl, fun i j hi _ => absurd hi (by show ¬ i < 0; omega)⟩, ⟨[], ⟨rfl, by decide, List.nodup_nil, fun s hs => (by cases hs), fun i hi => absurd hi (Nat.not_lt_zero _)⟩, rfl, fun i hi => absurd hi (Nat.not_lt_zero _)⟩, rfl⟩
  exact upd_n (by omega)
theorem c_MInit (hK : ∀ V c r P, V.1 = w.1 + 12 → V.2.1 = w.2.1 → (∀ x, x < w.1 → V.2.2 x = w.2.2 x) → MJ c r P s0 [] [] → K (mw V w.1 c (rup r 0 P)) none) : zcall n_M_init [.ref w.1] (jx_al w (.inr (8, jx_born 8))) K := by
  refine c_MI ?_
  obtain ⟨V, hV⟩ : ∃ V, V = xw w [.inr (8, mF w.1 zF), .inl (.int, 22416, .inl (upd (fun _ => 0) 56 10)), iA 40, iA 49, iA 392, iA 49, iA 49, iA 49, iA 1274, iA 9, iA 49, iA 49] := ⟨_, rfl⟩
  have hat : ∀ j, j < 12 → V.2.2 (w.1 + j) = mC w.1 zF r00 j := fun j hj => by
    rw [hV]
    refine (xw_at (L := [.inr (8, mF w.1 zF), .inl (.int, 22416, .inl (upd (fun _ => 0) 56 10)), iA 40, iA 49, iA 392, iA 49, iA 49, iA 49, iA 1274, iA 9, iA 49, iA 49]) hj).trans ?_
    exact lt12 (P := fun j => ([.inr (8, mF w.1 zF), .inl (.int, 22416, .inl (upd (fun _ => 0) 56 10)), iA 40, iA 49, iA 392, iA 49, iA 49, iA 49, iA 1274, iA 9, iA 49, iA 49] : List jx_E)[j]? = mC w.1 zF r00 j) hj rfl rfl rfl rfl rfl rfl rfl rfl rfl rfl rfl rfl
  have e : V = mw V w.1 zF r00 := (bw_self hat).symm
  have v1 : V.1 = w.1 + 12 := by rw [hV]; rfl
  have v2 : V.2.1 = w.2.1 := by rw [hV]; rfl
  have v3 : ∀ x, x < w.1 → V.2.2 x = w.2.2 x := fun x hx => by rw [hV]; exact xw_lo hx
  rw [← hV, e]
  refine f_lays (wd := fun _ => []) wdOk0 PS0.1 (fun c' r' k1 k2 k3 => ⟨rfl, ?_⟩)
  have hr0 : r' 0 = upd (fun _ => 0) 56 10 := k2 0 (Or.inl (by decide))
  have hr : r' = rup r' 0 (upd (fun _ => 0) 56 10) := by rw [← hr0, rup_id]
  rw [hr]
  exact hK V c' r' _ v1 v2 v3 ⟨⟨PS0, ⟨by decide, fun k hk => absurd hk (Nat.not_lt_zero _)⟩, k3 1 (by decide), ⟨k3 3 (by decide), by decide, fun i hi => absurd hi (Nat.not_lt_zero _)⟩, MAu_MA k1, 0, k3 14 (by decide)⟩, k1⟩
theorem TI_fr {W W' : jx_W} {t : Nat} {s : aSt} {past : List aSt} {bs : List Int32} {n b m : Nat} (hI : TI W t s past bs n) (hf : Fr W W' b m) (hd : b + m ≤ t ∨ t + 383 ≤ b) : TI W' t s past bs n := by
  obtain ⟨nw, pa, pf, tx, ac, ar, Y, Xr, fc, fr, ⟨⟨p1, p1b⟩, p2, p3, p4, p5⟩, hM⟩ := hI
  refine ⟨nw, pa, pf, tx, ac, ar, Y, Xr, fc, fr, ⟨⟨p1.fr hf (by omega), p1b.fr hf (by omega)⟩, p2.fr hf (by omega), fun k hk => (p3 k hk).fr hf (by have := sa_in t hk; omega), p4.fr5 hf (by omega), p5.fr hf (by omega)⟩, hM⟩
theorem TI_mono {W : jx_W} {t : Nat} {s : aSt} {past : List aSt} {bs : List Int32} {n n' : Nat} (hI : TI W t s past bs n) (h : n ≤ n') : TI W t s past bs n' := by
  obtain ⟨nw, pa, pf, tx, ac, ar, Y, Xr, fc, fr, hP, m1, m2, m3, m4, m5, m6, fh, m7, m8⟩ := hI
  exact ⟨nw, pa, pf, tx, ac, ar, Y, Xr, fc, fr, hP, m1, m2, m3, m4, m5, m6, fh, m7, by omega⟩
theorem stI_0 {N : Nat} : stI s0 N := ⟨wdOk0, ⟨by decide, by decide, by decide, by decide⟩, fun f hf => (by cases hf), Nat.zero_le _, by decide⟩
theorem past_I {past : List aSt} {s : aSt} {N : Nat} (h : ∀ p ∈ past, stI p N) (hs : stI s N) : ∀ p ∈ aPast past s, stI p N := fun p hp => by
  unfold aPast at hp
  rcases List.mem_append.mp hp with hp | hp
  · split at hp
    · exact h p (List.mem_of_mem_drop hp)
    · exact h p hp
  · rw [List.mem_singleton.mp hp]; exact hs
/-- both, after some calls -/
def LQ (w : jx_W) (t : Nat) (W : jx_W) (N : Nat) : Prop := W.2.1 = w.2.1 ∧ (∀ x, x < t → W.2.2 x = w.2.2 x) ∧ ∃ s past bs c r P, TI W t s past bs N ∧ At W (t + 383) 12 (mC (t + 383) c (rup r 0 P)) ∧ MJ c r P s past bs ∧ stI s N ∧ (∀ p ∈ past, stI p N) ∧ bsOk bs
theorem LQ_of {t : Nat} {W W1 : jx_W} {N N' : Nat} {s : aSt} {past : List aSt} {bs : List Int32} {c : Nat → Int32} {r : Nat → Nat → Int32} {P : Nat → Int32} (h1 : W.2.1 = w.2.1) (h2 : ∀ x, x < t → W.2.2 x = w.2.2 x) (hf : Fr W W1 t 383) (hI : TI W1 t s past bs N') (hJ : MJ c r P s past bs) (hN : N' ≤ N) (hs : stI s N) (hp : ∀ p ∈ past, stI p N) (hb : bsOk bs) : LQ w t (mw W1 (t + 383) c (rup r 0 P)) N := by
  have f2 : Fr W1 (mw W1 (t + 383) c (rup r 0 P)) (t + 383) 12 := Fr.rf.bw (by omega) (by omega)
  exact ⟨hf.2.1.trans h1, fun x hx => (f2.2.2 x (by omega)).trans ((hf.2.2 x (by omega)).trans (h2 x hx)), s, past, bs, c, r, P, TI_mono (TI_fr hI f2 (by omega)) hN, At_bw, hJ, hs, hp, hb⟩
theorem mod_eq {t : Nat} {W W1 : jx_W} {c : Nat → Int32} {r : Nat → Nat → Int32} (h : At W (t + 383) 12 (mC (t + 383) c r)) (hf : Fr W W1 t 383) : W1 = mw W1 (t + 383) c r := (bw_self (h.fr hf (by omega))).symm
end MInit
