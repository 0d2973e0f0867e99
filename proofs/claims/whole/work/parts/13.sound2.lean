section JXW
variable {p : Program} {l : Launch} {e : Env} {R : Room} {s : State} {m : MethodId} {args : Array Value} {below : List Frame} {meth : Method} {c : Code} {Φ : State → Prop} {G : jx_G} {own nm : String} {cc : ByteArray} {nL mc ms pc : Nat} {C : jx_C} {J : jx_J} {q : jx_Q} {K : jx_K} {H : Heap} {locs : List Loc} {cells slots : Nat} {ls : Array Slot} {r : List Value} {w : jx_W}
theorem jx_putW (X : jx_X p s m args meth c R G own nm cc nL mc ms) {ci i index N a : Nat} {D : String} {T : u_T} (hcl : vwCl[ci]? = some (D, T, N)) (hin : ∀ w ∈ u_ws D T N, w ∈ jx_wl) (ty0 : Nat → FieldType) (hty : ∀ k, k < N → parseFieldDescriptor (T k).2.2.1 = some (ty0 k)) (hnm : ∀ a, a < N → ∀ b, b < N → a ≠ b → (T a).2.1 ≠ (T b).2.1) (hi : i < N) (hw : Cond.fieldLink own index (T i).1 (T i).2.1 (T i).2.2.1 ∈ jx_wl) (hfin : (T i).2.2.2 = false) {ty : FieldType} {v : Value} (hd : parseFieldDescriptor (T i).2.2.1 = some ty) (hn : narrow ty v = v) (hfit : fits ty v = true) {fs : List Value} (ho : jx_ob w a ci fs) (hlen : i < fs.length) (d : decode cc pc = .ok (.putfield index, 3)) (hS : va_S (jx_A G) s.heap H locs) (hH : jx_H G s w H)
    (kk : ∀ (H1 : Heap) (locs1 : List Loc), va_S (jx_A G) s.heap H1 locs1 → jx_H G s (jx_uob w a ci (fs.set i v)) H1 → W p l e R s m args below meth c H1 locs1 cells slots Φ (F0 m (pc + 3) ls r)) : W p l e R s m args below meth c H locs cells slots Φ (F0 m pc ls (v :: .ref a :: r)) := by
  have hK := X.2.2.2.2.2.2.1.1
  have hts := X.2.2.2.2.1
  have hap := va_apart (own := own) hts hin ty0 hty hnm hK hcl
  obtain ⟨hA, r0, h1, cell, q1, q2, q3, q4⟩ := hH.2.2.2 a _ ho rfl
  have hr : r0 = (D, T, N) := Option.some.inj (h1.symm.trans hcl)
  subst hr
  obtain ⟨hSl, hfc, kC, hkC, hkind⟩ := hK.1 ci _ hcl
  obtain ⟨cf, kf, fi, f, hi', hsl⟩ := hSl i hi
  have hlay := hts _ (hin _ (u_in_lay hi))
  unfold u_lay at hlay
  rw [if_neg (by rw [hfin]; decide)] at hlay
  have hst := (u_facts hfc hkC (u_lays hts hin hi) hi').1
  have h6 := u_store hfc hkC hkind hlay hi' hd hn hfit
  refine W.putK X.1 X.2.1 (f := f) ⟨X.2.2.2.1, hts _ hw, ⟨_, _, _, hi'⟩, hst⟩ (by rw [q2]; exact h6) q1 q3 (by rw [hsl]; exact k2_hasslot (q4 i hi)) rfl rfl d fun H' e1 e2 e3 => ?_
  rw [hsl] at e1 ⊢
  exact kk H' _ (hS.put e2 e3 hA) (hH.put hA rfl e2 e3 ⟨_, hcl, t_OB.to (V := updV (vp_V fs) i v) ⟨_, e1, q2, q3, t_set q4 hap hi v⟩ (fun j _ => vp_updV_set hlen v j)⟩)
theorem jx_putFW (X : jx_X p s m args meth c R G own nm cc nL mc ms) {ci i index N a : Nat} {D : String} {T : u_T} (hcl : vwCl[ci]? = some (D, T, N)) (hin : ∀ w ∈ u_ws D T N, w ∈ jx_wl) (ty0 : Nat → FieldType) (hty : ∀ k, k < N → parseFieldDescriptor (T k).2.2.1 = some (ty0 k)) (hnm : ∀ a, a < N → ∀ b, b < N → a ≠ b → (T a).2.1 ≠ (T b).2.1) (hi : i < N) (hw : Cond.fieldLink own index (T i).1 (T i).2.1 (T i).2.2.1 ∈ jx_wl) (hfin : (T i).2.2.2 = true) (hini : meth.name = "<init>") (hdecl : (T i).1 = own) {ty : FieldType} {v : Value} (hd : parseFieldDescriptor (T i).2.2.1 = some ty) (hn : narrow ty v = v) (hfit : fits ty v = true) {fs : List Value} (ho : jx_ob w a ci fs) (hlen : i < fs.length) (d : decode cc pc = .ok (.putfield index, 3)) (hS : va_S (jx_A G) s.heap H locs) (hH : jx_H G s w H)
    (kk : ∀ (H1 : Heap) (locs1 : List Loc), va_S (jx_A G) s.heap H1 locs1 → jx_H G s (jx_uob w a ci (fs.set i v)) H1 → W p l e R s m args below meth c H1 locs1 cells slots Φ (F0 m (pc + 3) ls r)) : W p l e R s m args below meth c H locs cells slots Φ (F0 m pc ls (v :: .ref a :: r)) := by
  have hK := X.2.2.2.2.2.2.1.1
  have hts := X.2.2.2.2.1
  have hap := va_apart (own := own) hts hin ty0 hty hnm hK hcl
  obtain ⟨hA, r0, h1, cell, q1, q2, q3, q4⟩ := hH.2.2.2 a _ ho rfl
  have hr : r0 = (D, T, N) := Option.some.inj (h1.symm.trans hcl)
  subst hr
  obtain ⟨hSl, hfc, kC, hkC, hkind⟩ := hK.1 ci _ hcl
  obtain ⟨cf, kf, fi, f, hi', hsl⟩ := hSl i hi
  have hlay := hts _ (hin _ (u_in_lay hi))
  unfold u_lay at hlay
  rw [if_pos hfin] at hlay
  have hst := (u_facts hfc hkC (u_lays hts hin hi) hi').1
  have hcf : m.cls = cf := by
    obtain ⟨_, _, c', _, _, _, -, -, hf', -, -, -, hown2, -⟩ := Cond.laysFinal_spec hlay
    have e1 : c' = cf := by have := hi'.symm.trans hf'; simp at this; exact this.1.symm
    rw [hdecl] at hown2
    rw [← e1]; exact Option.some.inj (X.2.2.2.1.symm.trans hown2)
  have h6 := u_fits hfc hkC hkind (Or.inr hlay) hi' hd hn hfit
  refine W.putFinK X.1 X.2.1 X.2.2.2.1 (hts _ hw) hi' hst hcf hini (by rw [q2]; exact h6) q1 q3 (by rw [hsl]; exact k2_hasslot (q4 i hi)) rfl rfl d fun H' e1 e2 e3 => ?_
  rw [hsl] at e1 ⊢
  exact kk H' _ (hS.put e2 e3 hA) (hH.put hA rfl e2 e3 ⟨_, hcl, t_OB.to (V := updV (vp_V fs) i v) ⟨_, e1, q2, q3, t_set q4 hap hi v⟩ (fun j _ => vp_updV_set hlen v j)⟩)
end JXW
section JXR
variable {p : Program} {l : Launch} {e : Env} {R : Room} {s : State} {m : MethodId} {args : Array Value} {below : List Frame} {meth : Method} {c : Code} {Φ : State → Prop} {G : jx_G} {own nm : String} {cc : ByteArray} {nL mc ms pc : Nat} {C : jx_C} {J : jx_J} {q : jx_Q} {K : jx_K}
theorem js_pfi (X : jx_X p s m args meth c R G own nm cc nL mc ms) {ci i index N : Nat} {D : String} {T : u_T} (hcl : vwCl[ci]? = some (D, T, N)) (hin : ∀ w ∈ u_ws D T N, w ∈ jx_wl) (ty0 : Nat → FieldType) (hty : ∀ k, k < N → parseFieldDescriptor (T k).2.2.1 = some (ty0 k)) (hnm : ∀ a, a < N → ∀ b, b < N → a ≠ b → (T a).2.1 ≠ (T b).2.1) (hi : i < N) (hw : Cond.fieldLink own index (T i).1 (T i).2.1 (T i).2.2.1 ∈ jx_wl) (hfin : (T i).2.2.2 = false) (hd : parseFieldDescriptor (T i).2.2.1 = some .int) (d : decode cc pc = .ok (.putfield index, 3)) (hk : jx_KS p l e R s m args below meth c Φ G nL mc ms (pc + 3) (K)) : jx_KS p l e R s m args below meth c Φ G nL mc ms (pc) (jt_pfi ci i C J q K) := by
  intro H locs cells slots ls lv st bc bs w hS hH hl hc hs h
  unfold jt_pfi at h
  split at h
  · obtain ⟨fs, ho, hlen, h⟩ := h
    exact jx_putW X hcl hin ty0 hty hnm hi hw hfin hd rfl rfl ho hlen d hS hH (fun H1 locs1 hS hH => hk _ _ _ _ _ _ _ _ _ _ hS hH hl hc hs h)
  · exact h.elim
theorem js_pfl (X : jx_X p s m args meth c R G own nm cc nL mc ms) {ci i index N : Nat} {D : String} {T : u_T} (hcl : vwCl[ci]? = some (D, T, N)) (hin : ∀ w ∈ u_ws D T N, w ∈ jx_wl) (ty0 : Nat → FieldType) (hty : ∀ k, k < N → parseFieldDescriptor (T k).2.2.1 = some (ty0 k)) (hnm : ∀ a, a < N → ∀ b, b < N → a ≠ b → (T a).2.1 ≠ (T b).2.1) (hi : i < N) (hw : Cond.fieldLink own index (T i).1 (T i).2.1 (T i).2.2.1 ∈ jx_wl) (hfin : (T i).2.2.2 = false) (hd : parseFieldDescriptor (T i).2.2.1 = some .long) (d : decode cc pc = .ok (.putfield index, 3)) (hk : jx_KS p l e R s m args below meth c Φ G nL mc ms (pc + 3) (K)) : jx_KS p l e R s m args below meth c Φ G nL mc ms (pc) (jt_pfl ci i C J q K) := by
  intro H locs cells slots ls lv st bc bs w hS hH hl hc hs h
  unfold jt_pfl at h
  split at h
  · obtain ⟨fs, ho, hlen, h⟩ := h
    exact jx_putW X hcl hin ty0 hty hnm hi hw hfin hd rfl rfl ho hlen d hS hH (fun H1 locs1 hS hH => hk _ _ _ _ _ _ _ _ _ _ hS hH hl hc hs h)
  · exact h.elim
theorem js_pfz (X : jx_X p s m args meth c R G own nm cc nL mc ms) {ci i index N : Nat} {D : String} {T : u_T} (hcl : vwCl[ci]? = some (D, T, N)) (hin : ∀ w ∈ u_ws D T N, w ∈ jx_wl) (ty0 : Nat → FieldType) (hty : ∀ k, k < N → parseFieldDescriptor (T k).2.2.1 = some (ty0 k)) (hnm : ∀ a, a < N → ∀ b, b < N → a ≠ b → (T a).2.1 ≠ (T b).2.1) (hi : i < N) (hw : Cond.fieldLink own index (T i).1 (T i).2.1 (T i).2.2.1 ∈ jx_wl) (hfin : (T i).2.2.2 = false) (hd : parseFieldDescriptor (T i).2.2.1 = some .boolean) (d : decode cc pc = .ok (.putfield index, 3)) (hk : jx_KS p l e R s m args below meth c Φ G nL mc ms (pc + 3) (K)) : jx_KS p l e R s m args below meth c Φ G nL mc ms (pc) (jt_pfz ci i C J q K) := by
  intro H locs cells slots ls lv st bc bs w hS hH hl hc hs h
  unfold jt_pfz at h
  split at h
  · obtain ⟨fs, ho, hlen, hx, h⟩ := h
    rcases hx with rfl | rfl
    · exact jx_putW X hcl hin ty0 hty hnm hi hw hfin hd (by decide +kernel) (by decide +kernel) ho hlen d hS hH (fun H1 locs1 hS hH => hk _ _ _ _ _ _ _ _ _ _ hS hH hl hc hs h)
    · exact jx_putW X hcl hin ty0 hty hnm hi hw hfin hd (by decide +kernel) (by decide +kernel) ho hlen d hS hH (fun H1 locs1 hS hH => hk _ _ _ _ _ _ _ _ _ _ hS hH hl hc hs h)
  · exact h.elim
theorem js_pfr (X : jx_X p s m args meth c R G own nm cc nL mc ms) {ci i index N : Nat} {D : String} {T : u_T} (hcl : vwCl[ci]? = some (D, T, N)) (hin : ∀ w ∈ u_ws D T N, w ∈ jx_wl) (ty0 : Nat → FieldType) (hty : ∀ k, k < N → parseFieldDescriptor (T k).2.2.1 = some (ty0 k)) (hnm : ∀ a, a < N → ∀ b, b < N → a ≠ b → (T a).2.1 ≠ (T b).2.1) (hi : i < N) (hw : Cond.fieldLink own index (T i).1 (T i).2.1 (T i).2.2.1 ∈ jx_wl) (hfin : (T i).2.2.2 = false) (hd : (∃ n, parseFieldDescriptor (T i).2.2.1 = some (.object n)) ∨ ∃ t, parseFieldDescriptor (T i).2.2.1 = some (.array t)) (d : decode cc pc = .ok (.putfield index, 3)) (hk : jx_KS p l e R s m args below meth c Φ G nL mc ms (pc + 3) (K)) : jx_KS p l e R s m args below meth c Φ G nL mc ms (pc) (jt_pfr ci i C J q K) := by
  intro H locs cells slots ls lv st bc bs w hS hH hl hc hs h
  unfold jt_pfr at h
  split at h
  · obtain ⟨fs, ho, hlen, h⟩ := h
    rcases hd with ⟨nn, hd⟩ | ⟨tt, hd⟩
    · exact jx_putW X hcl hin ty0 hty hnm hi hw hfin hd rfl rfl ho hlen d hS hH (fun H1 locs1 hS hH => hk _ _ _ _ _ _ _ _ _ _ hS hH hl hc hs h)
    · exact jx_putW X hcl hin ty0 hty hnm hi hw hfin hd rfl rfl ho hlen d hS hH (fun H1 locs1 hS hH => hk _ _ _ _ _ _ _ _ _ _ hS hH hl hc hs h)
  · exact h.elim
theorem js_pfFi (X : jx_X p s m args meth c R G own nm cc nL mc ms) {ci i index N : Nat} {D : String} {T : u_T} (hcl : vwCl[ci]? = some (D, T, N)) (hin : ∀ w ∈ u_ws D T N, w ∈ jx_wl) (ty0 : Nat → FieldType) (hty : ∀ k, k < N → parseFieldDescriptor (T k).2.2.1 = some (ty0 k)) (hnm : ∀ a, a < N → ∀ b, b < N → a ≠ b → (T a).2.1 ≠ (T b).2.1) (hi : i < N) (hw : Cond.fieldLink own index (T i).1 (T i).2.1 (T i).2.2.1 ∈ jx_wl) (hfin : (T i).2.2.2 = true) (hini : nm = "<init>") (hdecl : (T i).1 = own) (hd : parseFieldDescriptor (T i).2.2.1 = some .int) (d : decode cc pc = .ok (.putfield index, 3)) (hk : jx_KS p l e R s m args below meth c Φ G nL mc ms (pc + 3) (K)) : jx_KS p l e R s m args below meth c Φ G nL mc ms (pc) (jt_pfi ci i C J q K) := by
  intro H locs cells slots ls lv st bc bs w hS hH hl hc hs h
  unfold jt_pfi at h
  split at h
  · obtain ⟨fs, ho, hlen, h⟩ := h
    exact jx_putFW X hcl hin ty0 hty hnm hi hw hfin (X.2.2.2.2.2.1.trans hini) hdecl hd rfl rfl ho hlen d hS hH (fun H1 locs1 hS hH => hk _ _ _ _ _ _ _ _ _ _ hS hH hl hc hs h)
  · exact h.elim
theorem js_pfFr (X : jx_X p s m args meth c R G own nm cc nL mc ms) {ci i index N : Nat} {D : String} {T : u_T} (hcl : vwCl[ci]? = some (D, T, N)) (hin : ∀ w ∈ u_ws D T N, w ∈ jx_wl) (ty0 : Nat → FieldType) (hty : ∀ k, k < N → parseFieldDescriptor (T k).2.2.1 = some (ty0 k)) (hnm : ∀ a, a < N → ∀ b, b < N → a ≠ b → (T a).2.1 ≠ (T b).2.1) (hi : i < N) (hw : Cond.fieldLink own index (T i).1 (T i).2.1 (T i).2.2.1 ∈ jx_wl) (hfin : (T i).2.2.2 = true) (hini : nm = "<init>") (hdecl : (T i).1 = own) (hd : (∃ n, parseFieldDescriptor (T i).2.2.1 = some (.object n)) ∨ ∃ t, parseFieldDescriptor (T i).2.2.1 = some (.array t)) (d : decode cc pc = .ok (.putfield index, 3)) (hk : jx_KS p l e R s m args below meth c Φ G nL mc ms (pc + 3) (K)) : jx_KS p l e R s m args below meth c Φ G nL mc ms (pc) (jt_pfr ci i C J q K) := by
  intro H locs cells slots ls lv st bc bs w hS hH hl hc hs h
  unfold jt_pfr at h
  split at h
  · obtain ⟨fs, ho, hlen, h⟩ := h
    rcases hd with ⟨nn, hd⟩ | ⟨tt, hd⟩
    · exact jx_putFW X hcl hin ty0 hty hnm hi hw hfin (X.2.2.2.2.2.1.trans hini) hdecl hd rfl rfl ho hlen d hS hH (fun H1 locs1 hS hH => hk _ _ _ _ _ _ _ _ _ _ hS hH hl hc hs h)
    · exact jx_putFW X hcl hin ty0 hty hnm hi hw hfin (X.2.2.2.2.2.1.trans hini) hdecl hd rfl rfl ho hlen d hS hH (fun H1 locs1 hS hH => hk _ _ _ _ _ _ _ _ _ _ hS hH hl hc hs h)
  · exact h.elim
theorem js_iast (X : jx_X p s m args meth c R G own nm cc nL mc ms)  (d : decode cc pc = .ok (.iastore, 1)) (hk : jx_KS p l e R s m args below meth c Φ G nL mc ms (pc + 1) (K)) : jx_KS p l e R s m args below meth c Φ G nL mc ms (pc) (jt_iast C J q K) := by
  intro H locs cells slots ls lv st bc bs w hS hH hl hc hs h
  unfold jt_iast at h
  split at h
  · obtain ⟨n, f, ho, hi, h⟩ := h
    rename_i x i a r
    obtain ⟨hA, hat⟩ := hH.2.2.2 a _ ho rfl
    refine W.iast X.1 X.2.1 hat ((X.2.2.2.2.2.2.1.1.2 0 _ rfl).1 n (fun j => .int (f j))) (fun q => by cases q) (by show ¬ (i < 0 ∨ (arrV _ _ _).slots.size ≤ _); rw [arrV_size]; exact hi) rfl rfl d fun H1 e1 z oq => ?_
    refine hk _ _ _ _ _ _ _ _ _ _ (hS.put z oq hA) (hH.put hA rfl z oq ?_) hl hc hs h
    show H1[a]? = some (vp_cell _ _)
    rw [e1]
    show some ((vp_cell _ _).setSlot _ _) = _
    rw [vp_cell_i, vp_cell_i, arrV_store]
    congr 2
    funext k
    by_cases hq : k = i.toNatClampNeg
    · subst hq
      simp [updV, upd, vp_nar]
      try rfl
    · simp [updV, upd, hq]
  · exact h.elim
theorem js_bast (X : jx_X p s m args meth c R G own nm cc nL mc ms)  (d : decode cc pc = .ok (.bastore, 1)) (hk : jx_KS p l e R s m args below meth c Φ G nL mc ms (pc + 1) (K)) : jx_KS p l e R s m args below meth c Φ G nL mc ms (pc) (jt_bast C J q K) := by
  intro H locs cells slots ls lv st bc bs w hS hH hl hc hs h
  unfold jt_bast at h
  split at h
  · obtain ⟨n, f, ho, hi, h⟩ := h
    rename_i x i a r
    obtain ⟨hA, hat⟩ := hH.2.2.2 a _ ho rfl
    refine W.bast X.1 X.2.1 hat ((X.2.2.2.2.2.2.1.1.2 1 _ rfl).1 n (fun j => .int (f j))) (fun q => by cases q) (by show ¬ (i < 0 ∨ (arrV _ _ _).slots.size ≤ _); rw [arrV_size]; exact hi) rfl rfl d fun H1 e1 z oq => ?_
    refine hk _ _ _ _ _ _ _ _ _ _ (hS.put z oq hA) (hH.put hA rfl z oq ?_) hl hc hs h
    show H1[a]? = some (vp_cell _ _)
    rw [e1]
    show some ((vp_cell _ _).setSlot _ _) = _
    rw [vp_cell_i, vp_cell_i, arrV_store]
    congr 2
    funext k
    by_cases hq : k = i.toNatClampNeg
    · subst hq
      simp [updV, upd, vp_nar]
      try rfl
    · simp [updV, upd, hq]
  · exact h.elim
theorem js_aast (X : jx_X p s m args meth c R G own nm cc nL mc ms) {ci t0 N : Nat} {D : String} {T : u_T} (hcl : vwCl[ci]? = some (D, T, N)) (ht : (jx_tys G)[t0]? = some (G.2.1 (.object (jx_nm ci)), .object (jx_nm ci))) (d : decode cc pc = .ok (.aastore, 1)) (hk : jx_KS p l e R s m args below meth c Φ G nL mc ms (pc + 1) (K)) : jx_KS p l e R s m args below meth c Φ G nL mc ms (pc) (jt_aast ci C J q K) := by
  intro H locs cells slots ls lv st bc bs w hS hH hl hc hs h
  unfold jt_aast at h
  split at h
  · obtain ⟨n, f, vs, ho, hv, hi, h⟩ := h
    rename_i v i a r
    obtain ⟨hA, hat⟩ := hH.2.2.2 a _ ho rfl
    have hlt : i.toNatClampNeg < n := Nat.not_le.mp fun q => hi (Or.inr q)
    have h0 : ¬ i < 0 := fun q => hi (Or.inl q)
    obtain ⟨-, r', hr', cellV, g1, g2, g3, -⟩ := hH.2.2.2 v _ hv rfl
    have hcls := (X.2.2.2.2.2.2.1.1.1 ci _ hcl).2
    obtain ⟨kA, comp, k1, k2, k3, -⟩ := (X.2.2.2.2.2.2.1.1.2 t0 _ ht).2
    have hnmD : jx_nm ci = D := by unfold jx_nm; rw [hcl]
    have hcomp : comp = G.1.1 ci := Option.some.inj (k3.symm.trans (by rw [hnmD]; exact hcls.1))
    subst hcomp
    obtain ⟨kC, hkC, -⟩ := hcls.2
    refine W.aast X.1 X.2.1 hat (fun q h => by cases h) (fun h => by cases h) k1 k2 rfl hkC ⟨h0, by show _ < (arrV _ _ _).slots.size; rw [arrV_size]; exact hlt⟩ g1 (fun q h => by rw [g3] at h; cases h) (by rw [g2]; exact hkC) (by rw [g2]; exact va_assign hcls) rfl rfl d fun H1 e1 z oq => ?_
    refine hk _ _ _ _ _ _ _ _ _ _ (hS.put z oq hA) (hH.put hA rfl z oq ?_) hl hc hs h
    show H1[a]? = some (vp_cell _ _)
    rw [e1]
    rw [vp_cell_q]
    show some ((arrV _ _ _).setSlot _ _) = _
    rw [arrV_store]
    show some (arrV (G.2.1 (.object (jx_nm ci))) n _) = some (arrV (G.2.1 (.object (jx_nm ci))) n (fun j => va_rf (va_up f i.toNatClampNeg (some v) j)))
    congr 2
    funext k
    by_cases hq : k = i.toNatClampNeg
    · subst hq
      simp [updV, va_up, va_rf]
    · simp [updV, va_up, hq]
  · exact h.elim
end JXR
