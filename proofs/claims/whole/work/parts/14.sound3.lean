section JXR
variable {p : Program} {l : Launch} {e : Env} {R : Room} {s : State} {m : MethodId} {args : Array Value} {below : List Frame} {meth : Method} {c : Code} {Φ : State → Prop} {G : jx_G} {own nm : String} {cc : ByteArray} {nL mc ms pc : Nat} {C : jx_C} {J : jx_J} {q : jx_Q} {K : jx_K}
theorem jx_A_in {H : Heap} {locs : List Loc} (hF : jx_F G s) (hS : va_S (jx_A G) s.heap H locs) : jx_A G H.size := Nat.le_trans hF.2.1 hS.1
theorem jx_S_new {H H1 : Heap} {locs : List Loc} (hS : va_S (jx_A G) s.heap H locs) (z : H1.size = H.size + 1) (oq : ∀ q : Nat, q < H.size → H1[q]? = H[q]?) : va_S (jx_A G) s.heap H1 locs := ⟨Nat.le_trans hS.1 (by omega), fun x h1 h2 => (oq x (Nat.lt_of_lt_of_le h1 hS.1)).trans (hS.2.1 x h1 h2), hS.2.2⟩
theorem js_new (X : jx_X p s m args meth c R G own nm cc nL mc ms) {ci index N : Nat} {D : String} {T : u_T} (hcl : vwCl[ci]? = some (D, T, N)) (hin : ∀ w ∈ u_ws D T N, w ∈ jx_wl) (ty : Nat → FieldType) (hty : ∀ k, k < N → parseFieldDescriptor (T k).2.2.1 = some (ty k)) {fs : List Value} (hfs : ∀ j, j < N → defaultValue (ty j) = vp_V fs j) (h1 : Cond.classLink own index D ∈ jx_wl) (h2 : Cond.instantiable D N ∈ jx_wl) (h3 : Cond.initialized D ∈ jx_wl) (d : decode cc pc = .ok (.new index, 3)) (hk : jx_KS p l e R s m args below meth c Φ G nL mc ms (pc + 3) (K)) : jx_KS p l e R s m args below meth c Φ G nL mc ms (pc) (jt_new ci N fs C J q K) := by
  intro H locs cells slots ls lv st bc bs w hS hH hl hc hs h
  obtain ⟨hb1, hb2, h⟩ := h
  have hKn := X.2.2.2.2.2.2.1.1.1 ci _ hcl
  refine W.newcK X.1 X.2.1 X.2.2.2.1 (X.2.2.2.2.1 _ h1) (X.2.2.2.2.1 _ h2) (X.2.2.2.2.1 _ h3) rfl d (by rw [X.2.2.2.2.2.2.2.1]; omega) (by rw [X.2.2.2.2.2.2.2.2]; omega) hKn.2.1 rfl fun H1 kC hkC e1 z1 o1 => ?_
  have hz : H.size = w.1 := hH.1
  rw [← hz] at h
  refine hk _ _ _ _ _ _ _ _ _ _ (jx_S_new hS z1 o1) (hH.new (jx_A_in X.2.2.2.2.2.2.1 hS) rfl z1 o1 ?_) hl (by omega) (by omega) h
  exact ⟨_, hcl, (u_born ty X.2.2.2.2.1 hin hKn hkC e1 hty).to hfs⟩
theorem jx_ofNat {n : Int32} {N : Nat} (h : n = Int32.ofNat N) (hN : N ≤ 100000) : ¬ n < 0 ∧ n.toNatClampNeg = N := by
  subst h
  exact ⟨nI_pos (n := N) (by omega), nI_clamp (n := N) (by omega)⟩
theorem js_newi (X : jx_X p s m args meth c R G own nm cc nL mc ms) (hw : Cond.arrayClass .int ∈ jx_wl) (d : decode cc pc = .ok (.newarray .int, 2)) (hk : jx_KS p l e R s m args below meth c Φ G nL mc ms (pc + 2) (K)) : jx_KS p l e R s m args below meth c Φ G nL mc ms (pc) (jt_newi C J q K) := by
  intro H locs cells slots ls lv st bc bs w hS hH hl hc hs h
  unfold jt_newi at h
  split at h
  · obtain ⟨N, hn, hN, hb1, hb2, h⟩ := h
    obtain ⟨hn0, hnN⟩ := jx_ofNat hn hN
    have hz : H.size = w.1 := hH.1
    refine va_newaK (atype := .int) (N := N) X.1 X.2.1 (X.2.2.2.2.1 _ hw) rfl d rfl hn0 hnN (by show N * _ ≤ _; simp [componentBytes, newarray.typeOf]; omega) (by rw [X.2.2.2.2.2.2.2.1]; omega) (by rw [X.2.2.2.2.2.2.2.2]; omega) rfl fun H1 cA e1 z1 o1 hAr hNm => ?_
    have hcA : cA = G.2.1 .int := by
      have := (X.2.2.2.2.2.2.1.1.2 0 _ rfl).2
      exact Option.some.inj (hNm.symm.trans this)
    rw [← hz] at h
    refine hk _ _ _ _ _ _ _ _ _ _ (jx_S_new hS z1 o1) (hH.new (jx_A_in X.2.2.2.2.2.2.1 hS) rfl z1 o1 ?_) hl (by omega) (by omega) h
    subst hcA
    exact e1
  · exact h.elim
theorem js_newb (X : jx_X p s m args meth c R G own nm cc nL mc ms) (hw : Cond.arrayClass .byte ∈ jx_wl) (d : decode cc pc = .ok (.newarray .byte, 2)) (hk : jx_KS p l e R s m args below meth c Φ G nL mc ms (pc + 2) (K)) : jx_KS p l e R s m args below meth c Φ G nL mc ms (pc) (jt_newb C J q K) := by
  intro H locs cells slots ls lv st bc bs w hS hH hl hc hs h
  unfold jt_newb at h
  split at h
  · obtain ⟨N, hn, hN, hb1, hb2, h⟩ := h
    obtain ⟨hn0, hnN⟩ := jx_ofNat hn hN
    have hz : H.size = w.1 := hH.1
    refine va_newaK (atype := .byte) (N := N) X.1 X.2.1 (X.2.2.2.2.1 _ hw) rfl d rfl hn0 hnN (by show N * _ ≤ _; simp [componentBytes, newarray.typeOf]; omega) (by rw [X.2.2.2.2.2.2.2.1]; omega) (by rw [X.2.2.2.2.2.2.2.2]; omega) rfl fun H1 cA e1 z1 o1 hAr hNm => ?_
    have hcA : cA = G.2.1 .byte := by
      have := (X.2.2.2.2.2.2.1.1.2 1 _ rfl).2
      exact Option.some.inj (hNm.symm.trans this)
    rw [← hz] at h
    refine hk _ _ _ _ _ _ _ _ _ _ (jx_S_new hS z1 o1) (hH.new (jx_A_in X.2.2.2.2.2.2.1 hS) rfl z1 o1 ?_) hl (by omega) (by omega) h
    subst hcA
    exact e1
  · exact h.elim
theorem js_newr (X : jx_X p s m args meth c R G own nm cc nL mc ms) {ci t0 index : Nat} (ht : (jx_tys G)[t0]? = some (G.2.1 (.object (jx_nm ci)), .object (jx_nm ci))) (hAO : va_AO (jx_nm ci) s) (hw : Cond.classLink own index (jx_nm ci) ∈ jx_wl) (d : decode cc pc = .ok (.anewarray index, 3)) (hk : jx_KS p l e R s m args below meth c Φ G nL mc ms (pc + 3) (K)) : jx_KS p l e R s m args below meth c Φ G nL mc ms (pc) (jt_newr ci C J q K) := by
  intro H locs cells slots ls lv st bc bs w hS hH hl hc hs h
  unfold jt_newr at h
  split at h
  · obtain ⟨N, hn, hN, hb1, hb2, h⟩ := h
    obtain ⟨hn0, hnN⟩ := jx_ofNat hn hN
    have hz : H.size = w.1 := hH.1
    rename_i n r
    refine W.anew (C := jx_nm ci) X.1 X.2.1 X.2.2.2.1 (X.2.2.2.2.1 _ hw) (va_AO.use hAO) rfl d rfl hn0 (by rw [hnN]; omega) (by rw [X.2.2.2.2.2.2.2.1]; omega) (by rw [X.2.2.2.2.2.2.2.2, hnN]; omega) fun cA kA comp f1 f2 f3 f4 => ?_
    rw [hnN]
    generalize hH1 : H.push ({ cls := cA, slots := Array.replicate N .null, vm := .none } : Cell) = H1
    have z1 : H1.size = H.size + 1 := by rw [← hH1, Array.size_push]
    have e1 : H1[H.size]? = some (arrV cA N (fun _ => .null)) := by rw [← hH1, Array.getElem?_push_size, ← arrV_new]
    have o1 : ∀ q : Nat, q < H.size → H1[q]? = H[q]? := fun q hq => by rw [← hH1, Array.getElem?_push, if_neg (Nat.ne_of_lt hq)]
    have hcA : cA = G.2.1 (.object (jx_nm ci)) := by
      obtain ⟨-, -, -, -, -, this⟩ := (X.2.2.2.2.2.2.1.1.2 t0 _ ht).2
      exact Option.some.inj (f1.symm.trans this)
    rw [← hz] at h
    refine hk _ _ _ _ _ _ _ _ _ _ (jx_S_new hS z1 o1) (hH.new (jx_A_in X.2.2.2.2.2.2.1 hS) rfl z1 o1 ?_) hl (by omega) (by omega) h
    subst hcA
    show H1[H.size]? = some (vp_cell _ _)
    rw [vp_cell_q]
    exact e1
  · exact h.elim
theorem js_cpy (X : jx_X p s m args meth c R G own nm cc nL mc ms) {ty : FieldType} {t0 index : Nat} (hns : ty ≠ .short) (ht : (jx_tys G)[t0]? = some (G.2.1 ty, ty)) (hprim : refKind ty = false) (w1 : Cond.methodLink own index arraycopyName ∈ jx_wl) (w2 : Cond.native arraycopyName ∈ jx_wl) (w3 : Cond.static arraycopyName ∈ jx_wl) (w4 : Cond.initialized "java/lang/System" ∈ jx_wl) (hfr : 1 ≤ R.frames) (hlo : 18 ≤ R.locals) (d : decode cc pc = .ok (.invokestatic index, 3)) (hk : jx_KS p l e R s m args below meth c Φ G nL mc ms (pc + 3) (K)) : jx_KS p l e R s m args below meth c Φ G nL mc ms (pc) (jt_cpy ty C J q K) := by
  intro H locs cells slots ls lv st bc bs w hS hH hl hc hs h
  unfold jt_cpy at h
  split at h
  · obtain ⟨n0, n1, f, g, ha0, ha1, h1, h2, h3, h4, h5, hfit, h⟩ := h
    rename_i n dp a sp a0
    have ho : ∀ (n : Nat) (f : Nat → Int32), jx_own (.inl (ty, n, .inl f)) = true := fun n f => by cases ty <;> first | rfl | exact absurd rfl hns
    obtain ⟨hA0, hat0⟩ := hH.2.2.2 a0 _ ha0 (ho _ _)
    obtain ⟨hA, hat⟩ := hH.2.2.2 a _ ha1 (ho _ _)
    have nn : ∀ z : Int32, ¬ z < 0 → z.toInt = (z.toNatClampNeg : Int) := by
      intro z hz
      have hz0 : (0 : Int) ≤ z.toInt := by
        have := Int32.not_lt.mp hz
        simpa using Int32.le_iff_toInt_le.mp this
      show z.toInt = ((z.toInt.toNat : Nat) : Int)
      omega
    intro T hT X1
    have hc0 : H[a0]? = some (vp_cell (G.2.1 ty) (n0, .inl f)) := hat0
    have hc1 : H[a]? = some (vp_cell (G.2.1 ty) (n1, .inl g)) := hat
    obtain ⟨-, k0, hk0, cm0, hkk0⟩ := (X.2.2.2.2.2.2.1.1.2 t0 _ ht).1 n0 (fun j => .int (f j))
    obtain ⟨-, k1, hk1, cm1, hkk1⟩ := (X.2.2.2.2.2.2.1.1.2 t0 _ ht).1 n1 (fun j => .int (g j))
    obtain ⟨vm', X', step⟩ := X1.arraycopy X.1 X.2.2.2.1 (X.2.2.2.2.1 _ w1) (X.2.2.2.2.1 _ w2) (X.2.2.2.2.1 _ w3) (X.2.2.2.2.1 _ w4) (src := a0) (dst := a) (cs := vp_cell (G.2.1 ty) (n0, .inl f)) (cd := vp_cell (G.2.1 ty) (n1, .inl g)) (srcPos := sp) (destPos := dp) (n := n) (by rw [hT]; exact hc0) (by rw [hT]; exact hc1)
      (fun _ h => by cases h) (fun _ h => by cases h) (fun h => by cases h) (fun h => by cases h) hk0 hk1 hkk0 hkk1 (by simp [hprim]) h1 h2 h3
      (by rw [nn sp h1, nn n h3]; show ¬ _ > ((arrV (G.2.1 ty) n0 (fun j => .int (f j))).slots.size : Int); rw [arrV_size]; omega)
      (by rw [nn dp h2, nn n h3]; show ¬ _ > ((arrV (G.2.1 ty) n1 (fun j => .int (g j))).slots.size : Int); rw [arrV_size]; omega)
      (fun vm₁ _ i hi => by
        have e : (vp_cell (G.2.1 ty) (n0, .inl f)).slots.getD (sp.toNatClampNeg + i) .null = .int (f (sp.toNatClampNeg + i)) := by
          show (arrV (G.2.1 ty) n0 (fun j => .int (f j))).slots.getD _ _ = _
          rw [Array.getD_eq_getD_getElem?, arrV_read _ _ (by omega)]
          rfl
        refine ⟨?_, ?_⟩
        · rw [e]
          exact hfit i hi
        · rw [e]
          exact trivial)
      (g := F0 m pc ls ([.int n, .int dp, .ref a, .int sp, .ref a0])) rfl (hl.1.trans X.2.2.1.symm) (rest := []) rfl (by rw [X.2.1]; exact d) hfr (by show 2 * 0 + 0 + 18 ≤ _; omega)
    have e1 : copied (vp_cell (G.2.1 ty) (n0, .inl f)) (vp_cell (G.2.1 ty) (n1, .inl g)) sp dp n = vp_cell (G.2.1 ty) (n1, .inl (va_cpy f g sp.toNatClampNeg dp.toNatClampNeg n.toNatClampNeg)) := va_copied (fun z => .int z) (G.2.1 ty) (G.2.1 ty) f g h4
    rw [e1] at X' step
    have hlt : a < H.size := (Array.getElem?_eq_some_iff.mp hc1).1
    have hheap : ((T.setVm vm').setCell a (vp_cell (G.2.1 ty) (n1, .inl (va_cpy f g sp.toNatClampNeg dp.toNatClampNeg n.toNatClampNeg)))).heap = H.setIfInBounds a (vp_cell (G.2.1 ty) (n1, .inl (va_cpy f g sp.toNatClampNeg dp.toNatClampNeg n.toNatClampNeg))) := by rw [← hT]; rfl
    have oq : ∀ q : Nat, q ≠ a → (H.setIfInBounds a (vp_cell (G.2.1 ty) (n1, .inl (va_cpy f g sp.toNatClampNeg dp.toNatClampNeg n.toNatClampNeg))))[q]? = H[q]? := fun q hq => by simp [Array.getElem?_setIfInBounds, Ne.symm hq]
    obtain ⟨t, a1, b1⟩ := hk _ _ _ _ _ _ _ _ _ _ ⟨by simp; exact hS.1, fun q g1 g2 => by
        rw [oq q (fun e => g2 (by rw [e]; exact hA))]
        exact hS.2.1 q g1 g2, fun q hq => by
        rcases List.mem_append.mp hq with h | h
        · exact hS.2.2 q h
        · obtain ⟨z, -, hz⟩ := List.mem_map.mp h
          rw [← hz]
          exact hA⟩ (hH.put hA (ho n1 (va_cpy f g sp.toNatClampNeg dp.toNatClampNeg n.toNatClampNeg)) (by simp) oq (show (H.setIfInBounds a _)[a]? = some _ by simp [Array.getElem?_setIfInBounds, hlt])) hl hc hs h _ hheap X'
    exact ⟨t, step t a1, b1⟩
  · exact h.elim
theorem js_mmin (X : jx_X p s m args meth c R G own nm cc nL mc ms) {index : Nat} (w1 : Cond.methodLink own index Lib.Math.min.name ∈ jx_wl) (w2 : Cond.static Lib.Math.min.name ∈ jx_wl) (w3 : Cond.initialized "java/lang/Math" ∈ jx_wl) (w4 : Cond.code Lib.Math.min.name Lib.Math.min.code 2 (some .int) ∈ jx_wl) (hfr : 1 ≤ R.frames) (hlo : 21 ≤ R.locals) (d : decode cc pc = .ok (.invokestatic index, 3)) (hk : jx_KS p l e R s m args below meth c Φ G nL mc ms (pc + 3) (K)) : jx_KS p l e R s m args below meth c Φ G nL mc ms (pc) (jt_mmin C J q K) := by
  intro H locs cells slots ls lv st bc bs w hS hH hl hc hs h
  unfold jt_mmin at h
  split at h
  · split at h
    · rename_i hb
      have hb := Nat.le_of_ble_eq_true hb
      exact va_mmin X.1 X.2.1 (X.2.2.1.trans hl.1.symm) X.2.2.2.1 (X.2.2.2.2.1 _ w1) (X.2.2.2.2.1 _ w2) (X.2.2.2.2.1 _ w3) (X.2.2.2.2.1 _ w4) hfr (by omega) (by rw [X.2.2.2.2.2.2.2.1]; omega) (by rw [X.2.2.2.2.2.2.2.2]; omega) d (hk _ _ _ _ _ _ _ _ _ _ hS hH hl hc hs h)
    · exact h.elim
  · exact h.elim
theorem js_mmax (X : jx_X p s m args meth c R G own nm cc nL mc ms) {index : Nat} (w1 : Cond.methodLink own index Lib.Math.max.name ∈ jx_wl) (w2 : Cond.static Lib.Math.max.name ∈ jx_wl) (w3 : Cond.initialized "java/lang/Math" ∈ jx_wl) (w4 : Cond.code Lib.Math.max.name Lib.Math.max.code 2 (some .int) ∈ jx_wl) (hfr : 1 ≤ R.frames) (hlo : 21 ≤ R.locals) (d : decode cc pc = .ok (.invokestatic index, 3)) (hk : jx_KS p l e R s m args below meth c Φ G nL mc ms (pc + 3) (K)) : jx_KS p l e R s m args below meth c Φ G nL mc ms (pc) (jt_mmax C J q K) := by
  intro H locs cells slots ls lv st bc bs w hS hH hl hc hs h
  unfold jt_mmax at h
  split at h
  · split at h
    · rename_i hb
      have hb := Nat.le_of_ble_eq_true hb
      exact va_mmax X.1 X.2.1 (X.2.2.1.trans hl.1.symm) X.2.2.2.1 (X.2.2.2.2.1 _ w1) (X.2.2.2.2.1 _ w2) (X.2.2.2.2.1 _ w3) (X.2.2.2.2.1 _ w4) hfr (by omega) (by rw [X.2.2.2.2.2.2.2.1]; omega) (by rw [X.2.2.2.2.2.2.2.2]; omega) d (hk _ _ _ _ _ _ _ _ _ _ hS hH hl hc hs h)
    · exact h.elim
  · exact h.elim
end JXR
