/-! FINDS AND MASKS only grow; where a flow stands is not their business -/
def xS (S : aS) (g : List aFd) (f : Nat) : aS := (S.1, S.2.1, S.2.2.1, S.2.2.2.1, S.2.2.2.2.1 ++ g, S.2.2.2.2.2.1, S.2.2.2.2.2.2.1, f ||| S.2.2.2.2.2.2.2)
def xF (F : aF) (g : List aFd) (f : Nat) : aF := ((xS F.1.1 g f, F.1.2), F.2)
section Ext
variable {A : aAU} {g : List aFd} {f : Nat}
theorem fS_app {key : Int32} {sure : Nat} {hist : aHi} {e : Int32} {fh : List aFd} : ∀ {v : Nat}, fS A key sure hist e (fh ++ g) v = fS A key sure hist e fh v ++ g
  | 0 => rfl
  | v + 1 => by
    unfold fS
    rw [fS_app]
    split <;> rfl
theorem fD_app {key : Int32} {d : Nat} {e : Int32} {fh : List aFd} : ∀ {v : Nat}, fD key d e (fh ++ g) v = fD key d e fh v ++ g
  | 0 => rfl
  | v + 1 => by
    unfold fD
    rw [fD_app]
    split <;> rfl
theorem x_read {key : Int32} {S : aS} {cn : Nat} {st e : Int32} : aRead A key (xS S g f) cn st e = xS (aRead A key S cn st e) g f := by
  unfold aRead xS
  dsimp only
  rw [fS_app, fD_app, Nat.or_assoc]
theorem x_char {fl : Nat} {key : Int32} {S : aS} {cn : Nat} {st e : Int32} : aChar A fl key (xS S g f) cn st e = xS (aChar A fl key S cn st e) g f := by
  unfold aChar
  show (if chDrop fl S.2.2.2.1 (chLow fl cn) then xS S g f else aRead A key (xS (sBl S (decide (chLow fl cn = 32))) g f) (chLow fl cn) st e) = _
  split
  · rfl
  · exact x_read
theorem x_rel {fl : Nat} {key : Int32} {S : aS} {held dig idx : Nat} : aRel A fl key (xS S g f) held dig idx = xS (aRel A fl key S held dig idx) g f := by
  unfold aRel
  split
  · rfl
  · exact x_char
  · rw [x_char, x_char]
theorem x_take {fl : Nat} {key : Int32} {S : aS} {h2 : Nat × Nat} {bt idx : Nat} : aTake A fl key (xS S g f, h2) bt idx = (xS (aTake A fl key (S, h2) bt idx).1 g f, (aTake A fl key (S, h2) bt idx).2) := by
  unfold aTake
  dsimp only
  split
  · rw [x_char]
  · split
    · rw [x_char]
    · rfl
    · split
      · rw [x_rel]
      · rw [x_rel, x_char]
theorem x_del {ky : aKy} {ps : List aP} : ∀ {n : Nat} {S : aS} {h2 : Nat × Nat} {o : Nat × Nat}, aDel A ky ps n ((xS S g f, h2), o) = ((xS (aDel A ky ps n ((S, h2), o)).1.1 g f, (aDel A ky ps n ((S, h2), o)).1.2), (aDel A ky ps n ((S, h2), o)).2)
  | 0, S, h2, o => rfl
  | n + 1, S, h2, o => by
    unfold aDel
    dsimp only
    split
    · rfl
    · rw [x_take]
      exact x_del
theorem x_deliver {ky : aKy} {F : aF} : aDeliver A ky (xF F g f) = xF (aDeliver A ky F) g f := by
  obtain ⟨⟨S, h2⟩, o, ps, cf, r⟩ := F
  show (let s := aDel A ky ps (1040 - o) ((xS S g f, h2), o, cf); (s.1, s.2.1, aDrop s.2.1 ps, s.2.2, r)) = _
  rw [x_del]
  rfl
theorem x_gap {ky : aKy} {F : aF} {to : Nat} : aGap A ky (xF F g f) to = xF (aGap A ky F to) g f := by
  unfold aGap
  dsimp only [xF]
  rw [x_rel]
  rfl
theorem x_gaps {ky : aKy} : ∀ {n : Nat} {F : aF}, aGaps A ky n (xF F g f) = xF (aGaps A ky n F) g f
  | 0, F => rfl
  | n + 1, F => by
    unfold aGaps
    show (if aCount F.2.2.1 F.2.1 ≤ ky.2.2.2 then xF F g f else aGaps A ky n (aDeliver A ky (aGap A ky (xF F g f) (aLeast F.2.2.1 F.2.1)))) = _
    split
    · rfl
    · rw [x_gap, x_deliver, x_gaps]
theorem x_handle {ky : aKy} {F : aF} {p : aP} : aHandle A ky (xF F g f) p = xF (aHandle A ky F p) g f := by
  unfold aHandle
  show (if p.1 + p.2.length ≤ F.2.1 then _ else _) = _
  split
  · rfl
  · show aGaps A ky 6 (aDeliver A ky (xF (F.1, F.2.1, F.2.2.1 ++ [p], F.2.2.2.1, F.2.2.2.2.1, F.2.2.2.2.2.1, F.2.2.2.2.2.2.1 + 1, F.2.2.2.2.2.2.2) g f)) = _
    rw [x_deliver, x_gaps]
theorem plug_x {F : aF} {fh : List aFd} : plug F fh 0 = xF (plug F [] 0) fh 0 := by
  simp only [plug, xF, xS, List.nil_append, Nat.zero_or]
theorem on_x {fl : aFlow} {fh : List aFd} {p : aP} : aOn A fl fh p = xF (aOn A fl [] p) fh 0 := by
  unfold aOn
  rw [plug_x, x_handle]
theorem on_len {fl : aFlow} {fh : List aFd} {p : aP} : (afh (aOn A fl fh p)).length = (afh (aOn A fl [] p)).length + fh.length := by
  rw [on_x]
  show (afh (aOn A fl [] p) ++ fh).length = _
  rw [List.length_append]
theorem rp_x {ky : aKy} {fh : List aFd} {lg : List aP} : ∀ k, aRp A ky fh lg k = xF (aRp A ky [] lg k) fh 0
  | 0 => by simp only [aRp, aBeg, xF, xS, List.nil_append, Nat.zero_or]
  | k + 1 => by
    show aHandle A ky (aRp A ky fh lg k) (aPc lg k) = _
    rw [rp_x k, x_handle]; rfl
theorem rp_afm {ky : aKy} {fh : List aFd} {lg : List aP} {k : Nat} : afm (aRp A ky fh lg k) = afm (aRp A ky [] lg k) := by
  rw [rp_x]
  exact Nat.zero_or _
end Ext
/-- two flows that stand alike -/
def sk (F F' : aF) : Prop := F.2.1 = F'.2.1 ∧ F.2.2.1 = F'.2.2.1
section Sk
variable {A A' : aAU} {ky ky' : aKy}
theorem sk_del {ps : List aP} : ∀ {n : Nat} {s s' : aH × Nat × Nat}, s.2.1 = s'.2.1 → (aDel A ky ps n s).2.1 = (aDel A' ky' ps n s').2.1
  | 0, s, s', h => h
  | n + 1, s, s', h => by
    unfold aDel
    rw [h]
    cases e : aChosen ky.2.1 ps s'.2.1 with
    | none =>
      have e2 : aChosen ky'.2.1 ps s'.2.1 = none := aChosen_none.mpr (aChosen_none.mp e)
      rw [e2]; exact h
    | some j =>
      cases e2 : aChosen ky'.2.1 ps s'.2.1 with
      | none =>
        have : aChosen ky.2.1 ps s'.2.1 = none := aChosen_none.mpr (aChosen_none.mp e2)
        rw [this] at e; cases e
      | some j2 => exact sk_del (by show s'.2.1 + 1 = s'.2.1 + 1; rfl)
theorem sk_deliver {F F' : aF} (h : sk F F') : sk (aDeliver A ky F) (aDeliver A' ky' F') := by
  obtain ⟨h1, h2⟩ := h
  have e : (aDel A ky F.2.2.1 (1040 - F.2.1) (F.1, F.2.1, F.2.2.2.1)).2.1 = (aDel A' ky' F'.2.2.1 (1040 - F'.2.1) (F'.1, F'.2.1, F'.2.2.2.1)).2.1 := by
    rw [h1, h2]
    exact sk_del rfl
  refine ⟨e, ?_⟩
  show aDrop _ F.2.2.1 = aDrop _ F'.2.2.1
  rw [e, h2]
theorem sk_gaps (hb : ky.2.2.2 = ky'.2.2.2) : ∀ {n : Nat} {F F' : aF}, sk F F' → sk (aGaps A ky n F) (aGaps A' ky' n F')
  | 0, F, F', h => h
  | n + 1, F, F', h => by
    unfold aGaps
    rw [h.1, h.2, hb]
    split
    · exact h
    · refine sk_gaps hb (sk_deliver ⟨rfl, ?_⟩)
      exact h.2
theorem sk_handle (hb : ky.2.2.2 = ky'.2.2.2) {F F' : aF} {p : aP} (h : sk F F') : sk (aHandle A ky F p) (aHandle A' ky' F' p) := by
  unfold aHandle
  rw [h.1]
  split
  · exact ⟨rfl, h.2⟩
  · exact sk_gaps hb (sk_deliver ⟨rfl, by show F.2.2.1 ++ [p] = F'.2.2.1 ++ [p]; rw [h.2]⟩)
theorem sk_rp (hb : ky.2.2.2 = ky'.2.2.2) {fh fh' : List aFd} {lg : List aP} : ∀ k, sk (aRp A ky fh lg k) (aRp A' ky' fh' lg k)
  | 0 => ⟨rfl, rfl⟩
  | k + 1 => sk_handle hb (sk_rp hb k)
theorem rp_pre {fh : List aFd} {lg : List aP} {p : aP} : ∀ k, k ≤ lg.length → aRp A ky fh (lg ++ [p]) k = aRp A ky fh lg k
  | 0, _ => rfl
  | k + 1, h => by
    show aHandle A ky (aRp A ky fh (lg ++ [p]) k) (aPc (lg ++ [p]) k) = aHandle A ky (aRp A ky fh lg k) (aPc lg k)
    rw [rp_pre k (by omega), aPc_app1 (by omega)]
end Sk
/-! WHAT A FLOW KEEPS -/
theorem fIv_deliver {A : aAU} {ky : aKy} {B : Nat} {F : aF} (hA : auOk A) (hO : fOk A F) (h : fIv A ky B F.1 F.2.1) : fIv A ky B (aDeliver A ky F).1 (aDeliver A ky F).2.1 := fIv_del hA hO.2.2.1 (s := (F.1, F.2.1, F.2.2.2.1)) (by show F.2.1 + (1040 - F.2.1) ≤ 1040; have := hO.2.1; omega) h
theorem fIv_gaps {A : aAU} {ky : aKy} {B : Nat} (hA : auOk A) : ∀ {n : Nat} {F : aF}, fOk A F → fIv A ky B F.1 F.2.1 → fIv A ky B (aGaps A ky n F).1 (aGaps A ky n F).2.1
  | 0, F, _, h => h
  | n + 1, F, hO, h => by
    unfold aGaps
    split
    · exact h
    · rename_i hc
      have hc : 0 < aCount F.2.2.1 F.2.1 := by omega
      have hl := aLeast_ok hO.2.2.1 hc
      exact fIv_gaps hA (aDeliver_ok hA (aGap_fok hA hO hc)) (fIv_deliver hA (aGap_fok hA hO hc) (fIv_gap hA h hl.1.1 (by have := hl.2; omega)))
theorem fIv_handle {A : aAU} {ky : aKy} {B : Nat} {F : aF} {p : aP} (hA : auOk A) (hO : fOk A F) (h6 : F.2.2.1.length < 6) (hp : aOk p) (h : fIv A ky B F.1 F.2.1) : fIv A ky B (aHandle A ky F p).1 (aHandle A ky F p).2.1 := by
  unfold aHandle
  split
  · exact h
  · have hO2 : fOk A (F.1, F.2.1, F.2.2.1 ++ [p], F.2.2.2.1, F.2.2.2.2.1, F.2.2.2.2.2.1, F.2.2.2.2.2.2.1 + 1, F.2.2.2.2.2.2.2) := ⟨hO.1, hO.2.1, fun x hx => (List.mem_append.mp hx).elim (hO.2.2.1 x) (fun e => by rw [List.mem_singleton.mp e]; exact hp), by show (F.2.2.1 ++ [p]).length ≤ 6; rw [List.length_append]; show F.2.2.1.length + 1 ≤ 6; omega⟩
    exact fIv_gaps hA (aDeliver_ok hA hO2) (fIv_deliver hA hO2 h)
/-- what holds of every flow -/
def flI (A : aAU) (f : aFlow) : Prop := kyOk f.1 ∧ fOk A f.2.1 ∧ (f.2.1.1.1.2.1 < 2 ^ A.1 ∧ f.2.1.1.1.2.2.1.length + f.2.1.1.2.1 ≤ f.2.1.2.1 ∧ hdOk f.1.2.2.1 f.2.1.1.2.1 f.2.1.1.2.2 f.2.1.2.1) ∧ ((∀ p ∈ f.2.2, aOk p) ∧ f.2.2.length ≤ 10) ∧ rpOk A f.1 [] f.2.2 ∧ (f.2.2.length < 10 → sk f.2.1 (aRp A f.1 [] f.2.2 f.2.2.length))
theorem flI_iv {A : aAU} {f : aFlow} {fh : List aFd} {B : Nat} (h : flI A f) (hB : fh.length + 12480 ≤ B) : fIv A f.1 B (plug f.2.1 fh 0).1 (plug f.2.1 fh 0).2.1 := ⟨h.2.2.1.1, h.2.2.1.2.1, by show fh.length + 12 * (1040 - f.2.1.1.1.2.2.1.length) ≤ B; omega, h.2.2.1.2.2⟩
theorem flI_beg {A : aAU} {key : Int32} {se : Nat × Nat × Nat} (hA : auOk A) (hk : kyOk (0, se)) : flI A ((key, se), aBeg [], []) := by
  refine ⟨hk, aBeg_ok hA, ⟨?_, by show 0 + 0 ≤ 0; decide, by show 0 ≤ 2; decide, fun z => absurd z (show ¬ 0 < 0 by decide), fun z => absurd z (show ¬ 0 = 2 by decide)⟩, ⟨fun p hp => (by cases hp), by show 0 ≤ 10; decide⟩, fun k hk => absurd hk (Nat.not_lt_zero _), fun _ => ⟨rfl, rfl⟩⟩
  show 1 < 2 ^ A.1
  have : 2 ^ 1 ≤ 2 ^ A.1 := Nat.pow_le_pow_right (by decide) hA.1
  omega
theorem flI_on {A : aAU} {f : aFlow} {fh : List aFd} {p : aP} (hA : auOk A) (h : flI A f) (h6 : f.2.1.2.2.1.length < 6) (hp : aOk p) : flI A (f.1, plug (aOn A f fh p) [] 0, aLog f.2.2 p) ∧ (afh (aOn A f fh p)).length ≤ fh.length + 12480 := by
  have hiv := flI_iv (fh := fh) h (Nat.le_refl _)
  obtain ⟨hk, hO, hv, ⟨hl, hl10⟩, hr, hs⟩ := h
  have hO2 := fOk_plug (fh := fh) hO
  have i2 := fIv_handle hA hO2 h6 hp hiv
  have hsk : sk (aOn A f fh p) (aHandle A f.1 f.2.1 p) := sk_handle rfl ⟨rfl, rfl⟩
  have hO3 := aHandle_ok (ky := f.1) hA hO2 h6 hp
  refine ⟨⟨hk, fOk_plug hO3, ⟨i2.1, i2.2.1, i2.2.2.2⟩, ?_, ?_, ?_⟩, by have := i2.2.2.1; exact Nat.le_trans (Nat.le_add_right _ _) this⟩
  · show (∀ q ∈ aLog f.2.2 p, aOk q) ∧ (aLog f.2.2 p).length ≤ 10
    unfold aLog
    split
    · exact ⟨fun x hx => (List.mem_append.mp hx).elim (hl x) (fun e => by rw [List.mem_singleton.mp e]; exact hp), by rw [List.length_append]; show f.2.2.length + 1 ≤ 10; omega⟩
    · exact ⟨hl, hl10⟩
  · show rpOk A f.1 [] (aLog f.2.2 p)
    unfold aLog
    split
    · rename_i hlt
      intro k hk
      rw [List.length_append] at hk
      have hk : k < f.2.2.length + 1 := hk
      rw [rp_pre k (by omega)]
      by_cases e : k = f.2.2.length
      · rw [e, ← (hs hlt).2]; exact h6
      · exact hr k (by omega)
    · exact hr
  · intro hlt
    have hlt : (aLog f.2.2 p).length < 10 := hlt
    show sk (plug (aOn A f fh p) [] 0) (aRp A f.1 [] (aLog f.2.2 p) (aLog f.2.2 p).length)
    unfold aLog at hlt ⊢
    split at hlt
    · rename_i hl2
      rw [if_pos hl2]
      have el : (f.2.2 ++ [p]).length = f.2.2.length + 1 := by rw [List.length_append]; rfl
      rw [el]
      show sk (plug (aOn A f fh p) [] 0) (aHandle A f.1 (aRp A f.1 [] (f.2.2 ++ [p]) f.2.2.length) (aPc (f.2.2 ++ [p]) f.2.2.length))
      rw [rp_pre _ (Nat.le_refl _), aPc_app2]
      have := sk_handle (A := A) (A' := A) (ky := f.1) (ky' := f.1) (p := p) rfl (hs hl2)
      exact ⟨hsk.1.trans this.1, hsk.2.trans this.2⟩
    · rename_i hl2
      exact absurd hlt hl2
theorem flI_rst {A A' : aAU} {f : aFlow} (hA' : auOk A') (h : flI A f) : flI A' (aRst f) := by
  obtain ⟨hk, hO, ⟨hv1, hv2, hv3⟩, hl, hr, hs⟩ := h
  refine ⟨hk, ⟨⟨hA'.1, by show 1 < 2 ^ 49; decide, hO.1.2.2.1, hO.1.2.2.2.1, hA'.2.2.2.2.2.2.2.zero _⟩, hO.2⟩, ⟨?_, hv2, hv3⟩, hl, fun k hk => ?_, fun hlt => ?_⟩
  · show 1 < 2 ^ A'.1
    have : 2 ^ 1 ≤ 2 ^ A'.1 := Nat.pow_le_pow_right (by decide) hA'.1
    omega
  · have := (sk_rp (A := A) (A' := A') (ky := f.1) (ky' := f.1) (fh := []) (fh' := []) (lg := f.2.2) rfl k).2
    show (aRp A' f.1 [] f.2.2 k).2.2.1.length < 6
    rw [← this]; exact hr k hk
  · have h1 := hs hlt
    have h2 := sk_rp (A := A) (A' := A') (ky := f.1) (ky' := f.1) (fh := []) (fh' := []) (lg := f.2.2) rfl f.2.2.length
    exact ⟨h1.1.trans h2.1, h1.2.trans h2.2⟩
/-- what holds of every state -/
def stI (s : aSt) (B : Nat) : Prop := wdOk s.1 ∧ kyOk (0, s.2.1) ∧ (∀ f ∈ s.2.2.2.1, flI (auOf s.1) f) ∧ s.2.2.1.length ≤ B ∧ s.2.2.2.1.length ≤ 4
section StI
variable {s : aSt} {B : Nat}
theorem stI.mono {B' : Nat} (h : stI s B) (hb : B ≤ B') : stI s B' := ⟨h.1, h.2.1, h.2.2.1, Nat.le_trans h.2.2.2.1 hb, h.2.2.2.2⟩
theorem stI.ok (h : stI s B) : stOk (auOf s.1) s := ⟨h.2.1, fun f hf => ⟨(h.2.2.1 f hf).1, (h.2.2.1 f hf).2.1⟩, fun v hv => rfl⟩
theorem stI.hist (h : stI s B) {f : aFlow} (hf : f ∈ s.2.2.2.1) : f.2.1.1.1.2.2.1.length ≤ 1040 := by
  have h1 := h.2.2.1 f hf
  have := h1.2.2.1.2.1
  have := h1.2.1.2.1
  omega
theorem stI.rd (h : stI s B) : rdOk s := fun f hf => Nat.lt_of_le_of_lt (h.hist hf) (by decide)
theorem stI.rp (h : stI s B) : rpAll (auOf s.1) s := fun f hf pol _ k hk => by
  have := (sk_rp (A := auOf s.1) (A' := auOf s.1) (ky := kyP f.1 pol) (ky' := f.1) (fh := s.2.2.1) (fh' := []) (lg := f.2.2) rfl k).2
  rw [this]
  exact (h.2.2.1 f hf).2.2.2.2.1 k hk
theorem stI.to (h : stI s B) (key : Int32) : flI (auOf s.1) (aTo s key).1 ∧ (∀ f ∈ (aTo s key).2.1, f ∈ s.2.2.2.1) ∧ (aTo s key).2.1.length ≤ 3 := by
  unfold aTo
  cases e : aPlace s.2.2.2.1 key with
  | some i =>
    have hi := (aPlace_lt e).1
    have hl : (s.2.2.2.1.eraseIdx i).length = s.2.2.2.1.length - 1 := List.length_eraseIdx_of_lt hi
    have := h.2.2.2.2
    exact ⟨h.2.2.1 _ (fGet_mem hi), fun f hf => (List.eraseIdx_sublist _ _).subset hf, by show (s.2.2.2.1.eraseIdx i).length ≤ 3; omega⟩
  | none =>
    refine ⟨flI_beg (au_ok h.1) h.2.1, fun f hf => ?_, ?_⟩
    · have hf : f ∈ if s.2.2.2.1.length = 4 then s.2.2.2.1.eraseIdx 0 else s.2.2.2.1 := hf
      split at hf
      · exact (List.eraseIdx_sublist _ _).subset hf
      · exact hf
    · show (if s.2.2.2.1.length = 4 then s.2.2.2.1.eraseIdx 0 else s.2.2.2.1).length ≤ 3
      have := h.2.2.2.2
      split
      · rw [List.length_eraseIdx_of_lt (by omega)]; omega
      · omega
theorem stI.seg {key : Int32} {p : aP} (h : stI s B) (h6 : (aTo s key).1.2.1.2.2.1.length < 6) (hp : aOk p) : stI (aSegm (auOf s.1) s key p) (B + 12480) := by
  obtain ⟨t1, t2, t3⟩ := h.to key
  obtain ⟨g1, g2⟩ := flI_on (fh := s.2.2.1) (au_ok h.1) t1 h6 hp
  refine ⟨h.1, h.2.1, fun f hf => ?_, Nat.le_trans g2 (by have := h.2.2.2.1; omega), ?_⟩
  · rcases List.mem_append.mp hf with hf | hf
    · exact h.2.2.1 f (t2 f hf)
    · rw [List.mem_singleton.mp hf]; exact g1
  · show ((aTo s key).2.1 ++ [_]).length ≤ 4
    rw [List.length_append]
    show (aTo s key).2.1.length + 1 ≤ 4
    omega
theorem stI.fin {i : Nat} (h : stI s B) (hi : i < s.2.2.2.1.length) : stI (aFin (auOf s.1) s i) (B + 12480) := by
  have hf := h.2.2.1 _ (fGet_mem hi)
  have hiv := flI_iv (fh := s.2.2.1) hf (Nat.le_refl _)
  have := (fIv_rel (au_ok h.1) hiv hf.2.1.2.1).2.2
  refine ⟨h.1, h.2.1, fun f hf => h.2.2.1 f ((List.eraseIdx_sublist _ _).subset hf), ?_, ?_⟩
  · have h1 : (aFinS (auOf s.1) s i).2.2.2.2.1.length + 12 * (1040 - (aFinS (auOf s.1) s i).2.2.1.length) ≤ s.2.2.1.length + 12480 := this
    have := h.2.2.2.1
    show (aFinS (auOf s.1) s i).2.2.2.2.1.length ≤ B + 12480
    omega
  · show (s.2.2.2.1.eraseIdx i).length ≤ 4
    have := h.2.2.2.2
    rw [List.length_eraseIdx_of_lt hi]; omega
theorem stI.set {k v : Nat} (h : stI s B) (hk : k ≤ 2) (h1 : setLo k ≤ v) (h2 : v ≤ setHi k) : stI (aSet s k v) B := ⟨h.1, (aSet_ok h.ok hk h1 h2).1, h.2.2.1, h.2.2.2⟩
theorem stI.others {wd' : Nat → List Nat} (h : stI s B) (hw : wdOk wd') : stI (aOthers (wd', s.2)) B := by
  refine ⟨hw, h.2.1, fun f hf => ?_, h.2.2.2.1, by show (s.2.2.2.1.map aRst).length ≤ 4; rw [List.length_map]; exact h.2.2.2.2⟩
  have hf : f ∈ s.2.2.2.1.map aRst := hf
  obtain ⟨f0, hf0, rfl⟩ := List.mem_map.mp hf
  exact flI_rst (au_ok hw) (h.2.2.1 f0 hf0)
end StI
