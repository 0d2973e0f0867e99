/-! CALLS AND RETURNS of the plain machine -/
def jx_ws (M : jx_Me) : List Cond := .code M.1 M.2.1 M.2.2.1 M.2.2.2.1 :: jx_wl
def jx_rm (M : jx_Me) : Room := { frames := M.2.2.2.2.2.1, cells := M.2.2.2.2.1.1, slots := M.2.2.2.2.1.2, locals := M.2.2.2.2.2.2 }
def jx_Qc (G : jx_G) (K : jx_Q) : Array Value → State → Outcome → State → Prop := fun _ st oc t => (∃ (w : jx_W) (r : Option Value), oc = .returned r ∧ K w r ∧ jx_PW G w t) ∧ va_F (jx_A G) st t
def jx_Met (l : Launch) (G : jx_G) (M : jx_Me) (As : List Value) (w : jx_W) (K : jx_Q) : Prop := Met l M.1 (jx_ws M) (jx_rm M) (va_Pc As (jx_PW G w)) (jx_Qc G K) M.2.2.2.2.1.1 M.2.2.2.2.1.2 (jx_A G)
def jx_CS (l : Launch) (G : jx_G) (Tb : Nat → jx_Me) (C : jx_C) : Prop := ∀ (y : Nat) (As : List Value) (w : jx_W) (K : jx_Q), (lg_sl As).length ≤ (Tb y).2.2.1 → C y As w K → jx_Met l G (Tb y) As w K
/-- what the tables have of a method with n parameters -/
def jx_mok (M : jx_Me) (n : Nat) : Prop := Cond.code M.1 M.2.1 M.2.2.1 M.2.2.2.1 ∈ jx_wl ∧ Cond.initialized M.1.cls ∈ jx_wl ∧ (M.1.cls ≠ "java/lang/invoke/MethodHandle" ∧ M.1.cls ≠ "java/lang/invoke/VarHandle" ∧ (parseMethodDescriptor M.1.desc).map (fun d => d.parameters.length) = some n) ∧ plainName M.1.cls = true
theorem jx_wl_good {M : jx_Me} {n : Nat} (h : jx_mok M n) : GoodIn jx_wl (jx_ws M) := by
  intro w hw
  have hm : w ∈ jx_wl := by
    rcases List.mem_cons.mp hw with h1 | h1
    · rw [h1]; exact h.1
    · exact h1
  exact ⟨hm, good_of_word (List.mem_filter.mp hm).2⟩
section JXC
variable {p : Program} {l : Launch} {e : Env} {R : Room} {s : State} {m : MethodId} {args : Array Value} {below : List Frame} {meth : Method} {c : Code} {Φ : State → Prop} {G : jx_G} {own nm : String} {cc : ByteArray} {nL mc ms pc : Nat} {C : jx_C} {J : jx_J} {q : jx_Q} {K : jx_K}
theorem jx_pre {H : Heap} {locs : List Loc} {w : jx_W} {As : List Value} (hF : jx_F G s) (hS : va_S (jx_A G) s.heap H locs) (hH : jx_H G s w H) : FrameBlind (va_Pc As (jx_PW G w)) ∧ ∀ U : State, U.heap = H → s.WarmedH U.vm → va_Pc As (jx_PW G w) As.toArray U :=
  ⟨fun _ _ _ _ h => ⟨h.1, h.2.calling⟩, fun U hU hW => ⟨rfl, hF.moved hW (by rw [hU]; exact hS.1) (fun a h1 h2 => by rw [hU]; exact hS.2.1 a h1 h2), by rw [hU]; exact hH.moved hW.alike⟩⟩
theorem jx_run {H : Heap} {locs : List Loc} {cells slots mcy msy : Nat} {ls : Array Slot} {st0 rest : List Value} {a : Array Value} {K0 : jx_Q} (hr : va_Run p l e R s m args below meth c H locs cells slots mcy msy (F0 m pc ls st0) rest (jx_Qc G K0 a) (jx_A G)) (hS : va_S (jx_A G) s.heap H locs)
    (kk : ∀ (w : jx_W) (r : Option Value) (H1 : Heap) (locs1 : List Loc), K0 w r → va_S (jx_A G) s.heap H1 locs1 → jx_H G s w H1 → W p l e R s m args below meth c H1 locs1 (cells + mcy) (slots + msy) Φ (F0 m (pc + 3) ls (r.toList ++ rest))) : W p l e R s m args below meth c H locs cells slots Φ (F0 m pc ls st0) := by
  intro T hT X
  obtain ⟨v, st₀, t, T', L, h0, X', hL, e1, e2, ⟨⟨w', r, hv, hk0, hpw⟩, hz, hk⟩, st⟩ := hr T hT X
  cases hv
  rw [h0] at hz hk
  have hal : s.vm.Alike t.vm := by rw [← e2]; exact X'.warmed.alike
  obtain ⟨t2, a1, b1⟩ := kk w' v T'.heap (locs ++ L) hk0 ⟨Nat.le_trans hS.1 (by rw [e1]; exact hz), fun q h1 h2 => by rw [e1, hk q (Nat.lt_of_lt_of_le h1 hS.1) h2]; exact hS.2.1 q h1 h2, fun q hq => (List.mem_append.mp hq).elim (hS.2.2 q) (hL q)⟩ (by rw [e1]; exact hpw.2.moved hal.symm) T' rfl X'
  exact ⟨t2, st t2 a1, b1⟩
theorem jx_ret_ok {k : List Value → jx_W → Prop} {rest : List Value} {w : jx_W} {r : Option Value} : ∀ {rk : Nat}, jx_ret rk k rest w r → k (r.toList ++ rest) w
  | 0, h => by obtain ⟨h1, h2⟩ := h; rw [h1]; exact h2
  | 1, h => by obtain ⟨x, h1, h2⟩ := h; rw [h1]; exact h2
  | 2, h => by obtain ⟨x, h1, h2⟩ := h; rw [h1]; exact h2
  | n + 3, h => by obtain ⟨x, h1, h2⟩ := h; rw [h1]; exact h2
theorem jx_fit_ok {rest As : List Value} {n : Nat} (h : jx_fit rest As n = true) : (rest.map fun v => v.category).sum ≤ 8 ∧ (lg_sl As).length ≤ n := by
  unfold jx_fit at h
  simp only [Bool.and_eq_true] at h
  exact ⟨Nat.le_of_ble_eq_true h.1, Nat.le_of_ble_eq_true h.2⟩
theorem jx_split (st : List Value) (n : Nat) : st = (st.take n).reverse.reverse ++ st.drop n := by rw [List.reverse_reverse, List.take_append_drop]
def jx_room (M : jx_Me) (R : Room) : Prop := M.2.2.2.2.2.1 + 1 ≤ R.frames ∧ 8 + (M.2.2.1 + 11) + M.2.2.2.2.2.2 ≤ R.locals
theorem js_callS (X : jx_X p s m args meth c R G own nm cc nL mc ms) {Tb : Nat → jx_Me} {y na rk index : Nat} (hC : jx_CS l G Tb C) (hm : jx_mok (Tb y) na) (h0 : (Tb y).2.2.2.2.1 = (0, 0)) (hR : jx_room (Tb y) R) (w1 : Cond.methodLink own index (Tb y).1 ∈ jx_wl) (w2 : Cond.static (Tb y).1 ∈ jx_wl) (d : decode cc pc = .ok (.invokestatic index, 3)) (hk : jx_KS p l e R s m args below meth c Φ G nL mc ms (pc + 3) K) : jx_KS p l e R s m args below meth c Φ G nL mc ms pc (jt_call Tb y na rk C J q K) := by
  intro H locs cells slots ls lv st bc bs w hS hH hl hc hs h
  unfold jt_call at h
  split at h
  · rename_i hfit hlen
    obtain ⟨hf1, hf2⟩ := jx_fit_ok hfit
    have hM := hC y _ w _ hf2 h
    unfold jx_Met at hM
    rw [h0] at hM
    have hG := jx_wl_good hm
    have hts := X.2.2.2.2.1
    have cw : CallB R s args own index (Tb y).1 (Tb y).2.1 (Tb y).2.2.1 (Tb y).2.2.2.1 (jx_ws (Tb y)) (jx_rm (Tb y)) 0 0 na := callB_of na hts hG rfl (by unfold jx_rm; rw [h0]) (by unfold jx_rm; rw [h0]) (hts _ hm.2.1) (hts _ w1) hm.2.2.1 hR
    refine jx_run (va_runS (g := F0 m pc ls st) (As := (st.take na).reverse) (rest := st.drop na) ⟨X.1, X.2.1, X.2.2.1, X.2.2.2.1, hts⟩ hM ⟨cw, hts _ w2⟩ (jx_pre X.2.2.2.2.2.2.1 hS hH) rfl (by rw [List.length_reverse]; exact Nat.eq_of_beq_eq_true hlen) hl.1 (jx_split st na) (lv_room hf1) d ⟨by rw [X.2.2.2.2.2.2.2.1]; omega, by rw [X.2.2.2.2.2.2.2.2]; omega⟩) hS (fun w' r H1 locs1 hk0 hS1 hH1 => ?_)
    exact hk _ _ _ _ _ _ _ _ _ _ hS1 hH1 hl hc hs (jx_ret_ok hk0)
  · exact h.elim
theorem js_callSN (X : jx_X p s m args meth c R G own nm cc nL mc ms) {Tb : Nat → jx_Me} {y na rk index : Nat} {host : String} (hC : jx_CS l G Tb C) (hm : jx_mok (Tb y) na) (h0 : (Tb y).2.2.2.2.1 = (0, 0)) (hR : jx_room (Tb y) R) (w1 : (own, index, (Tb y).1, host) ∈ jx_nest) (w2 : Cond.static (Tb y).1 ∈ jx_wl) (d : decode cc pc = .ok (.invokestatic index, 3)) (hk : jx_KS p l e R s m args below meth c Φ G nL mc ms (pc + 3) K) : jx_KS p l e R s m args below meth c Φ G nL mc ms pc (jt_call Tb y na rk C J q K) := by
  intro H locs cells slots ls lv st bc bs w hS hH hl hc hs h
  unfold jt_call at h
  split at h
  · rename_i hfit hlen
    obtain ⟨hf1, hf2⟩ := jx_fit_ok hfit
    have hM := hC y _ w _ hf2 h
    unfold jx_Met at hM
    rw [h0] at hM
    have hG := jx_wl_good hm
    have hts := X.2.2.2.2.1
    have cw : va_CN R s args own index (Tb y).1 host (Tb y).2.1 (Tb y).2.2.1 (Tb y).2.2.2.1 (jx_ws (Tb y)) (jx_rm (Tb y)) 0 0 na := va_cnB na hts hG rfl (by unfold jx_rm; rw [h0]) (by unfold jx_rm; rw [h0]) (X.2.2.2.2.2.2.1.2.2.2.2.2 _ w1) (hts _ hm.2.1) hm.2.2.1 hR
    refine jx_run (va_runSN (g := F0 m pc ls st) (As := (st.take na).reverse) (rest := st.drop na) ⟨X.1, X.2.1, X.2.2.1, X.2.2.2.1, hts⟩ hM ⟨cw, hts _ w2, trivial⟩ (jx_pre X.2.2.2.2.2.2.1 hS hH) rfl (by rw [List.length_reverse]; exact Nat.eq_of_beq_eq_true hlen) hl.1 (jx_split st na) (lv_room hf1) d ⟨by rw [X.2.2.2.2.2.2.2.1]; omega, by rw [X.2.2.2.2.2.2.2.2]; omega⟩) hS (fun w' r H1 locs1 hk0 hS1 hH1 => ?_)
    exact hk _ _ _ _ _ _ _ _ _ _ hS1 hH1 hl hc hs (jx_ret_ok hk0)
  · exact h.elim
theorem jx_splitV {st As : List Value} {na : Nat} {a : Nat} (h : (st.take na).reverse = .ref a :: As) : st = As.reverse ++ .ref a :: st.drop na := by
  have h1 := jx_split st na
  rw [h, List.reverse_cons, List.append_assoc] at h1
  exact h1
theorem js_callV (X : jx_X p s m args meth c R G own nm cc nL mc ms) {Tb : Nat → jx_Me} {y na rk index ci N : Nat} {T : u_T} (hC : jx_CS l G Tb C) (hm : jx_mok (Tb y) na) (h0 : (Tb y).2.2.2.2.1 = (0, 0)) (hR : jx_room (Tb y) R) (hcl : vwCl[ci]? = some ((Tb y).1.cls, T, N)) (w1 : Cond.methodLink own index (Tb y).1 ∈ jx_wl) (w2 : Cond.instanceMethod (Tb y).1 ∈ jx_wl) (w3 : Cond.selects (Tb y).1.cls (Tb y).1 (Tb y).1 ∈ jx_wl) (d : decode cc pc = .ok (.invokevirtual index, 3)) (hk : jx_KS p l e R s m args below meth c Φ G nL mc ms (pc + 3) K) : jx_KS p l e R s m args below meth c Φ G nL mc ms pc (jt_callV Tb ci y (na + 1) rk C J q K) := by
  intro H locs cells slots ls lv st bc bs w hS hH hl hc hs h
  unfold jt_callV at h
  split at h
  · rename_i a As hfit hlen heq
    obtain ⟨⟨fs, hob⟩, h⟩ := h
    obtain ⟨hf1, hf2⟩ := jx_fit_ok hfit
    rw [heq] at hf2
    have hM := hC y _ w _ hf2 h
    unfold jx_Met at hM
    rw [h0] at hM
    have hG := jx_wl_good hm
    have hts := X.2.2.2.2.1
    have hAs : As.length = na := by
      have h1 := congrArg List.length heq
      rw [List.length_reverse, Nat.eq_of_beq_eq_true hlen] at h1
      simp at h1
      omega
    have cw : CallB R s args own index (Tb y).1 (Tb y).2.1 (Tb y).2.2.1 (Tb y).2.2.2.1 (jx_ws (Tb y)) (jx_rm (Tb y)) 0 0 na := callB_of na hts hG rfl (by unfold jx_rm; rw [h0]) (by unfold jx_rm; rw [h0]) (hts _ hm.2.1) (hts _ w1) hm.2.2.1 hR
    have hp := jx_pre (As := .ref a :: As) X.2.2.2.2.2.2.1 hS hH
    refine jx_run (va_runV (g := F0 m pc ls st) (C := (Tb y).1.cls) (b := a) (As := As) (rest := st.drop (na + 1)) ⟨X.1, X.2.1, X.2.2.1, X.2.2.2.1, hts⟩ hM ⟨cw, hts _ w2, hts _ w3⟩ ⟨hp.1, va_recv X.2.2.2.2.2.2.1.1 (hH.one hob rfl) (q0 := 0) hcl rfl, hp.2⟩ rfl hAs hl.1 (jx_splitV heq) (lv_room hf1) d ⟨by rw [X.2.2.2.2.2.2.2.1]; omega, by rw [X.2.2.2.2.2.2.2.2]; omega⟩) hS (fun w' r H1 locs1 hk0 hS1 hH1 => ?_)
    exact hk _ _ _ _ _ _ _ _ _ _ hS1 hH1 hl hc hs (jx_ret_ok hk0)
  · exact h.elim
theorem js_callI (X : jx_X p s m args meth c R G own nm cc nL mc ms) {Tb : Nat → jx_Me} {y na index : Nat} (hC : jx_CS l G Tb C) (hm : jx_mok (Tb y) na) (hrt : (Tb y).2.2.2.1 = none) (hR : jx_room (Tb y) R) (hnm : (Tb y).1.name = "<init>") (w1 : Cond.methodLink own index (Tb y).1 ∈ jx_wl) (w2 : Cond.instanceMethod (Tb y).1 ∈ jx_wl) (d : decode cc pc = .ok (.invokespecial index, 3)) (hk : jx_KS p l e R s m args below meth c Φ G nL mc ms (pc + 3) K) : jx_KS p l e R s m args below meth c Φ G nL mc ms pc (jt_callA Tb y (na + 1) C J q K) := by
  intro H locs cells slots ls lv st bc bs w hS hH hl hc hs h
  unfold jt_callA at h
  split at h
  · rename_i a As hfit hlen heq
    obtain ⟨hb1, hb2, h⟩ := h
    obtain ⟨hf1, hf2⟩ := jx_fit_ok hfit
    rw [heq] at hf2
    have hM := hC y _ w _ hf2 h
    unfold jx_Met at hM
    have hG := jx_wl_good hm
    have hts := X.2.2.2.2.1
    have hAs : As.length = na := by
      have h1 := congrArg List.length heq
      rw [List.length_reverse, Nat.eq_of_beq_eq_true hlen] at h1
      simp at h1
      omega
    have cw : CallB R s args own index (Tb y).1 (Tb y).2.1 (Tb y).2.2.1 (Tb y).2.2.2.1 (jx_ws (Tb y)) (jx_rm (Tb y)) (Tb y).2.2.2.2.1.1 (Tb y).2.2.2.2.1.2 na := callB_of na hts hG rfl rfl rfl (hts _ hm.2.1) (hts _ w1) hm.2.2.1 hR
    rw [hrt] at cw
    refine jx_run (va_runI (g := F0 m pc ls st) (b := a) (As := As) (rest := st.drop (na + 1)) ⟨X.1, X.2.1, X.2.2.1, X.2.2.2.1, hts⟩ hM ⟨cw, hnm, hts _ w2⟩ (jx_pre X.2.2.2.2.2.2.1 hS hH) rfl hAs hl.1 (jx_splitV heq) (lv_room hf1) d ⟨by rw [X.2.2.2.2.2.2.2.1]; omega, by rw [X.2.2.2.2.2.2.2.2]; omega⟩) hS (fun w' r H1 locs1 hk0 hS1 hH1 => ?_)
    obtain ⟨hr, hk0⟩ := hk0
    rw [hr]
    exact hk _ _ _ _ _ _ _ _ _ _ hS1 hH1 hl (by omega) (by omega) hk0
  · exact h.elim
theorem js_callIN (X : jx_X p s m args meth c R G own nm cc nL mc ms) {Tb : Nat → jx_Me} {y na index : Nat} {host : String} (hC : jx_CS l G Tb C) (hm : jx_mok (Tb y) na) (hrt : (Tb y).2.2.2.1 = none) (hR : jx_room (Tb y) R) (hnm : (Tb y).1.name = "<init>") (w1 : (own, index, (Tb y).1, host) ∈ jx_nest) (w2 : Cond.instanceMethod (Tb y).1 ∈ jx_wl) (d : decode cc pc = .ok (.invokespecial index, 3)) (hk : jx_KS p l e R s m args below meth c Φ G nL mc ms (pc + 3) K) : jx_KS p l e R s m args below meth c Φ G nL mc ms pc (jt_callA Tb y (na + 1) C J q K) := by
  intro H locs cells slots ls lv st bc bs w hS hH hl hc hs h
  unfold jt_callA at h
  split at h
  · rename_i a As hfit hlen heq
    obtain ⟨hb1, hb2, h⟩ := h
    obtain ⟨hf1, hf2⟩ := jx_fit_ok hfit
    rw [heq] at hf2
    have hM := hC y _ w _ hf2 h
    unfold jx_Met at hM
    have hG := jx_wl_good hm
    have hts := X.2.2.2.2.1
    have hAs : As.length = na := by
      have h1 := congrArg List.length heq
      rw [List.length_reverse, Nat.eq_of_beq_eq_true hlen] at h1
      simp at h1
      omega
    have cw : va_CN R s args own index (Tb y).1 host (Tb y).2.1 (Tb y).2.2.1 (Tb y).2.2.2.1 (jx_ws (Tb y)) (jx_rm (Tb y)) (Tb y).2.2.2.2.1.1 (Tb y).2.2.2.2.1.2 na := va_cnB na hts hG rfl rfl rfl (X.2.2.2.2.2.2.1.2.2.2.2.2 _ w1) (hts _ hm.2.1) hm.2.2.1 hR
    rw [hrt] at cw
    refine jx_run (va_runIN (g := F0 m pc ls st) (b := a) (As := As) (rest := st.drop (na + 1)) ⟨X.1, X.2.1, X.2.2.1, X.2.2.2.1, hts⟩ hM ⟨cw, hnm, hts _ w2⟩ (jx_pre X.2.2.2.2.2.2.1 hS hH) rfl hAs hl.1 (jx_splitV heq) (lv_room hf1) d ⟨by rw [X.2.2.2.2.2.2.2.1]; omega, by rw [X.2.2.2.2.2.2.2.2]; omega⟩) hS (fun w' r H1 locs1 hk0 hS1 hH1 => ?_)
    obtain ⟨hr, hk0⟩ := hk0
    rw [hr]
    exact hk _ _ _ _ _ _ _ _ _ _ hS1 hH1 hl (by omega) (by omega) hk0
  · exact h.elim
/-- what may be returned at pc -/
def jx_rd (cc : ByteArray) (pc : Nat) (ret : Option FieldType) : Option Value → Prop
  | some (.int x) => decode cc pc = .ok (.ireturn, 1) ∧ (ret = some .int ∨ (ret = some .boolean ∧ (x = 0 ∨ x = 1)))
  | some (.long _) => decode cc pc = .ok (.lreturn, 1) ∧ ret = some .long
  | some (.ref _) => decode cc pc = .ok (.areturn, 1) ∧ ∃ n, ret = some (.object n)
  | none => decode cc pc = .ok (.return_, 1) ∧ ret = none
  | _ => False
def jx_RS (p : Program) (l : Launch) (e : Env) (R : Room) (s : State) (m : MethodId) (args : Array Value) (below : List Frame) (meth : Method) (c : Code) (Φ : State → Prop) (G : jx_G) (mc ms : Nat) (cc : ByteArray) (ret : Option FieldType) (q : jx_Q) : Prop := ∀ (H : Heap) (locs : List Loc) (ls : Array Slot) (pc : Nat) (w : jx_W) (r : Option Value), va_S (jx_A G) s.heap H locs → jx_H G s w H → q w r → jx_rd cc pc ret r → W p l e R s m args below meth c H locs mc ms Φ (F0 m pc ls r.toList)
theorem jx_RS_of (X : jx_X p s m args meth c R G own nm cc nL mc ms) {ret : Option FieldType} (hr : meth.sig.returnType = ret) (hlocks : meth.locks = false) : jx_RS p l e R s m args below meth c (MQ below (jx_Qc G q) args s mc ms (jx_A G)) G mc ms cc ret q := by
  intro H locs ls pc w r hS hH hq hd
  have hQ : ∀ t : State, t.heap = H → s.WarmedH t.vm → jx_Qc G q args s (.returned r) t := fun t ht hW => ⟨⟨w, r, rfl, hq, X.2.2.2.2.2.2.1.moved hW (by rw [ht]; exact hS.1) (fun a h1 h2 => by rw [ht]; exact hS.2.1 a h1 h2), by rw [ht]; exact hH.moved hW.alike⟩, hS.F ht⟩
  match r, hd, hQ with
  | some (.int x), hd, hQ =>
    rcases hd.2 with h1 | ⟨h1, h2⟩
    · exact W.iret X.1 X.2.1 (hr.trans h1) hQ hS.2.2 hd.1 hlocks
    · rcases h2 with h2 | h2
      · subst h2; exact W.zret X.1 X.2.1 (hr.trans h1) (by decide +kernel) hQ hS.2.2 hd.1 hlocks
      · subst h2; exact W.zret X.1 X.2.1 (hr.trans h1) (by decide +kernel) hQ hS.2.2 hd.1 hlocks
  | some (.long x), hd, hQ => exact W.lret X.1 X.2.1 (hr.trans hd.2) hQ hS.2.2 hd.1 hlocks
  | some (.ref x), hd, hQ =>
    obtain ⟨h1, n, h2⟩ := hd
    exact W.aret X.1 X.2.1 (hr.trans h2) (Or.inl ⟨n, rfl⟩) (Or.inr ⟨x, rfl⟩) hQ hS.2.2 h1 hlocks
  | none, hd, hQ => exact W.vret X.1 X.2.1 (hr.trans hd.2) hQ hS.2.2 hd.1 hlocks
  | some .null, hd, _ => exact hd.elim
  | some (.float _), hd, _ => exact hd.elim
  | some (.double _), hd, _ => exact hd.elim
  | some (.retAddr _), hd, _ => exact hd.elim
theorem js_ri {ret : Option FieldType} (hq : jx_RS p l e R s m args below meth c Φ G mc ms cc ret q) (hr : ret = some .int) (d : decode cc pc = .ok (.ireturn, 1)) : jx_KS p l e R s m args below meth c Φ G nL mc ms pc (jt_ri C J q K) := by
  intro H locs cells slots ls lv st bc bs w hS hH hl hc hs h
  unfold jt_ri at h
  split at h
  · exact W.widen (by omega) (by omega) (hq H locs ls pc w (some (.int _)) hS hH h ⟨d, Or.inl hr⟩)
  · exact h.elim
theorem js_rz {ret : Option FieldType} (hq : jx_RS p l e R s m args below meth c Φ G mc ms cc ret q) (hr : ret = some .boolean) (d : decode cc pc = .ok (.ireturn, 1)) : jx_KS p l e R s m args below meth c Φ G nL mc ms pc (jt_rz C J q K) := by
  intro H locs cells slots ls lv st bc bs w hS hH hl hc hs h
  unfold jt_rz at h
  split at h
  · exact W.widen (by omega) (by omega) (hq H locs ls pc w (some (.int _)) hS hH h.2 ⟨d, Or.inr ⟨hr, h.1⟩⟩)
  · exact h.elim
theorem js_rl {ret : Option FieldType} (hq : jx_RS p l e R s m args below meth c Φ G mc ms cc ret q) (hr : ret = some .long) (d : decode cc pc = .ok (.lreturn, 1)) : jx_KS p l e R s m args below meth c Φ G nL mc ms pc (jt_rl C J q K) := by
  intro H locs cells slots ls lv st bc bs w hS hH hl hc hs h
  unfold jt_rl at h
  split at h
  · exact W.widen (by omega) (by omega) (hq H locs ls pc w (some (.long _)) hS hH h ⟨d, hr⟩)
  · exact h.elim
theorem js_rr {ret : Option FieldType} (hq : jx_RS p l e R s m args below meth c Φ G mc ms cc ret q) {n : String} (hr : ret = some (.object n)) (d : decode cc pc = .ok (.areturn, 1)) : jx_KS p l e R s m args below meth c Φ G nL mc ms pc (jt_rr C J q K) := by
  intro H locs cells slots ls lv st bc bs w hS hH hl hc hs h
  unfold jt_rr at h
  split at h
  · exact W.widen (by omega) (by omega) (hq H locs ls pc w (some (.ref _)) hS hH h ⟨d, n, hr⟩)
  · exact h.elim
theorem js_rv {ret : Option FieldType} (hq : jx_RS p l e R s m args below meth c Φ G mc ms cc ret q) (hr : ret = none) (d : decode cc pc = .ok (.return_, 1)) : jx_KS p l e R s m args below meth c Φ G nL mc ms pc (jt_rv C J q K) := by
  intro H locs cells slots ls lv st bc bs w hS hH hl hc hs h
  unfold jt_rv at h
  split at h
  · exact W.widen (by omega) (by omega) (hq H locs ls pc w none hS hH h ⟨d, hr⟩)
  · exact h.elim
theorem js_sw (X : jx_X p s m args meth c R G own nm cc nL mc ms) {dflt lo hi : Int} {offs : Array Int} {len b0 : Nat} {bs0 : List Nat} {tg : Nat → Nat} (hlen : offs.size = bs0.length) (hhi : hi + 1 = lo + bs0.length) (hd0 : (pc : Int) + dflt = (tg b0 : Int)) (ho : ∀ (i b : Nat), bs0[i]? = some b → ∃ off, offs[i]? = some off ∧ (pc : Int) + off = (tg b : Int)) (hj : ∀ b, jx_KS p l e R s m args below meth c Φ G nL mc ms (tg b) (J b)) (d : decode cc pc = .ok (.tableswitch dflt lo hi offs, len)) : jx_KS p l e R s m args below meth c Φ G nL mc ms pc (jt_sw lo b0 bs0 C J q K) := by
  intro H locs cells slots ls lv st bc bs w hS hH hl hc hs h
  unfold jt_sw at h
  split at h
  · rename_i x r
    have key : ∀ (jj : Nat → Prop) (l0 : List Nat) (n : Int), jx_sw x lo b0 jj l0 n → (∀ (i b : Nat), l0[i]? = some b → x.toInt = n + i → jj b) ∧ ((x.toInt < lo ∨ n + l0.length ≤ x.toInt) → jj b0) := by
      intro jj l0
      induction l0 with
      | nil => intro n h; exact ⟨fun i b hb => (by cases hb), fun hx => h (by simpa using hx)⟩
      | cons b t ih =>
        intro n h
        obtain ⟨h1, h2⟩ := h
        obtain ⟨g1, g2⟩ := ih (n + 1) h2
        refine ⟨fun i b' hb hx => ?_, fun hx => g2 (by simp at hx; omega)⟩
        match i, hb with
        | 0, hb => cases hb; exact h1 (by simpa using hx)
        | i + 1, hb => exact g1 i b' hb (by simp at hx; omega)
    obtain ⟨g1, g2⟩ := key _ _ _ h
    by_cases hx : x.toInt < lo ∨ hi < x.toInt
    · exact lv_tableOut X.1 X.2.1 d hx hd0 (hj _ _ _ _ _ _ _ _ _ _ _ hS hH hl hc hs (g2 (by omega)))
    · have hx1 : ¬ x.toInt < lo := fun z => hx (Or.inl z)
      have hx2 : ¬ hi < x.toInt := fun z => hx (Or.inr z)
      have hlt : (x.toInt - lo).toNat < bs0.length := by omega
      obtain ⟨off, ho1, ho2⟩ := ho (x.toInt - lo).toNat bs0[(x.toInt - lo).toNat] (List.getElem?_eq_getElem hlt)
      exact lv_tableIn X.1 X.2.1 d hx1 hx2 ho1 ho2 (hj _ _ _ _ _ _ _ _ _ _ _ hS hH hl hc hs (g1 _ _ (List.getElem?_eq_getElem hlt) (by omega)))
  · exact h.elim
end JXC
