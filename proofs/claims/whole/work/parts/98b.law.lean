/-! THE LAW over the plain machine -/
theorem TI_lo {W W' : jx_W} {t : Nat} {s : aSt} {past : List aSt} {bs : List Int32} {n : Nat} (hI : TI W t s past bs n) (e : ∀ x, t ≤ x → x < t + 383 → W'.2.2 x = W.2.2 x) : TI W' t s past bs n := by
  obtain ⟨nw, pa, pf, tx, ac, ar, Y, Xr, fc, fr, ⟨⟨p1, p1b⟩, p2, p3, p4, p5⟩, hM⟩ := hI
  refine ⟨nw, pa, pf, tx, ac, ar, Y, Xr, fc, fr, ⟨⟨fun j hj => (e _ (by omega) (by omega)).trans (p1 j hj), fun j hj => (e _ (by omega) (by omega)).trans (p1b j hj)⟩, fun j hj => (e _ (by omega) (by omega)).trans (p2 j hj), fun k hk => ?_, ⟨(e _ (by omega) (by omega)).trans p4.1, fun j hj => (e _ (by omega) (by omega)).trans (p4.2 j hj)⟩, fun j hj => (e _ (by omega) (by omega)).trans (p5 j hj)⟩, hM⟩
  have hi := sa_in t hk
  obtain ⟨⟨a1, a2⟩, a3, a4, a5⟩ := p3 k hk
  exact ⟨⟨(e _ (by omega) (by omega)).trans a1, fun j hj => (e _ (by omega) (by omega)).trans (a2 j hj)⟩, fun j hj => (e _ (by omega) (by omega)).trans (a3 j hj), fun j hj => (e _ (by omega) (by omega)).trans (a4 j hj), fun q hq => ⟨(e _ (by omega) (by omega)).trans (a5 q hq).1, fun j hj => (e _ (by omega) (by omega)).trans ((a5 q hq).2 j hj)⟩⟩
theorem law_lt {L i : Nat} (hL : L < 2 ^ 30) (hi : i < 2 ^ 30) : Int32.ofNat L - 3 < nI i ↔ L < i + 3 := by
  have e : (nI L - nI 3).toInt = (L : Int) - (3 : Nat) := pk_sub_toInt hL (by decide)
  have e : (Int32.ofNat L - 3).toInt = (L : Int) - (3 : Nat) := e
  rw [Int32.lt_iff_toInt_lt, e, nI_toInt (by omega)]
  omega
theorem law_loop {w : jx_W} {b L t bc bz : Nat} {xs : Nat → Int32} (hL : L ≤ 1536) (hb : jx_ro w b L xs) (h0 : ∃ f, jx_ro w (w.2.1 0) 3 f ∧ f 0 = 0 ∧ f 1 = 0 ∧ f 2 = 1) (h1 : ∃ f, jx_ro w (w.2.1 1) 3 f ∧ f 0 = 3 ∧ f 1 = 15 ∧ f 2 = 40) (hbl : b < t) (hz0 : w.2.1 0 < t) (hz1 : w.2.1 1 < t) : ∀ (m k : Nat), L < 3 * k + 3 * m + 3 → 3 * k < 2 ^ 30 → ∀ W, LQ w t W (49920 * k) → zwp n_L_law 1 [(0, .ref b), (1, .ref t), (2, .ref (t + 383)), (3, .int (nI (3 * k)))] [] bc bz W (fun _ r => r = some (.int 1)) := by
  intro m
  induction m with
  | zero =>
    intro k hk hk30 W hW
    refine b_L_law_1 ⟨L, xs, (hW.2.1 b hbl).trans hb, fun _ => b_L_law_26 ⟨Or.inr rfl, rfl⟩, fun z => absurd ((law_lt (by omega) hk30).mpr (by omega)) z⟩
  | succ m ih =>
    intro k hk hk30 W hW
    have hro := (hW.2.1 b hbl).trans hb
    refine b_L_law_1 ⟨L, xs, hro, fun _ => b_L_law_26 ⟨Or.inr rfl, rfl⟩, fun z => ?_⟩
    have hi : 3 * k + 3 ≤ L := by
      have : ¬ L < 3 * k + 3 := fun y => z ((law_lt (by omega) hk30).mpr y)
      omega
    have hC : ∀ W2, LQ w t W2 (49920 * k + 49920) → zwp n_L_law 25 [(0, .ref b), (1, .ref t), (2, .ref (t + 383)), (3, .int (nI (3 * k)))] [] bc bz W2 (fun _ r => r = some (.int 1)) := fun W2 h => by
      refine b_L_law_25 ?_
      rw [lit_3, nI_add, show 3 * k + 3 = 3 * (k + 1) by omega]
      exact ih (k + 1) (by omega) (by omega) W2 (by rw [show 49920 * (k + 1) = 49920 * k + 49920 by omega]; exact h)
    have hWu : LQ w t W (49920 * k + 49920) := by
      obtain ⟨a1, a2, s, past, bs, c, r, P, a3, a4, a5, a6, a7, a8⟩ := hW
      exact ⟨a1, a2, s, past, bs, c, r, P, TI_mono a3 (by omega), a4, a5, stI_up a6, fun p hp => stI_up (a7 p hp), a8⟩
    obtain ⟨a1, a2, s, past, bs, c, r, P, a3, a4, a5, a6, a7, a8⟩ := hW
    have H : LH w W t (49920 * k) b L xs (3 * k) bc bz s past bs c r P (fun _ r => r = some (.int 1)) := ⟨a1, a2, a3, a4, a5, a6, a7, a8, hbl, hb, hi, hL, by omega, hC⟩
    exact ⟨L, xs, hro, vp_in_nI (by omega) (by omega), fun _ => law_type H, fun _ => law_clear H, fun _ => law_define H, fun _ => law_forget H, fun _ => law_letter H, fun _ => law_node H, fun _ => law_next H, fun _ => law_set h0 h1 hz0 hz1 H, fun _ => law_segment H, fun _ => law_finish H, fun _ => law_flow H, fun _ => law_property H, fun _ => law_byteAt H, fun _ => law_possible H, fun _ => law_read H, fun _ => law_find H, fun _ => law_told H, fun _ => law_ifSegment H, fun _ => law_replay H, fun _ => law_evasions H, fun _ => law_nearest H, fun _ => law_undo H, fun _ => law_digest H, fun _ => hC W hWu⟩
theorem law_run {w : jx_W} {b L : Nat} {xs : Nat → Int32} (hL : L ≤ 1536) (hb : jx_ro w b L xs) (h0 : ∃ f, jx_ro w (w.2.1 0) 3 f ∧ f 0 = 0 ∧ f 1 = 0 ∧ f 2 = 1) (h1 : ∃ f, jx_ro w (w.2.1 1) 3 f ∧ f 0 = 3 ∧ f 1 = 15 ∧ f 2 = 40) (hbl : b < w.1) (hz0 : w.2.1 0 < w.1) (hz1 : w.2.1 1 < w.1) (hn : ∀ a, w.1 ≤ a → w.2.2 a = none) : zwp n_L_law 0 [(0, .ref b)] [] 600000 7302250 w (fun _ r => r = some (.int 1)) := by
  refine b_L_law_0 ⟨by decide, by decide, by decide, by decide, c_TInit (t := w.1) rfl (if_pos rfl) (fun V v1 v2 v3 hI => ⟨rfl, by decide, by decide, by decide, by decide, c_MInit (fun V' c r P u1 u2 u3 hJ => ⟨rfl, ?_⟩)⟩)⟩
  have v2 : V.2.1 = w.2.1 := v2
  have v3 : ∀ x, x < w.1 → V.2.2 x = w.2.2 x := fun x hx => (v3 x hx).trans (if_neg (by omega))
  rw [v1]
  refine law_loop hL hb h0 h1 hbl hz0 hz1 512 0 (by omega) (by decide) _ ?_
  exact LQ_of (W := V') (W1 := V') (N' := 0) (u2.trans v2) (fun x hx => (u3 x (by omega)).trans (v3 x hx)) Fr.rf (TI_lo hI (fun x h1 h2 => u3 x (by omega))) hJ (by omega) stI_0 (fun p hp => (by cases hp)) (fun p hp => (by cases hp))
