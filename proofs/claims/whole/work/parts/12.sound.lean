/-! FROM THE PLAIN MACHINE TO THE KIT'S: what a heap has to do with a store; a row for each op -/
abbrev jx_G : Type := va_G × (FieldType → ClassId) × Nat × (Nat → Nat)
def jx_A (G : jx_G) : Nat → Prop := fun q => G.2.2.1 ≤ q
def jx_cv (G : jx_G) : jx_E → va_E
  | .inl (t, a) => .inl (G.2.1 t, a)
  | .inr o => .inr o
def jx_own : jx_E → Bool
  | .inl (.short, _) => false
  | _ => true
def jx_tys (G : jx_G) : List (ClassId × FieldType) := [(G.2.1 .int, .int), (G.2.1 .byte, .byte), (G.2.1 (.object RX2), .object RX2), (G.2.1 (.object RX5), .object RX5)]
def jx_wl : List Cond := lw_tbl.filter goodWord
def jx_sts : List (String × String × String) := [("TornStreams", "LOWEST_SETTING", "[I"), ("TornStreams", "HIGHEST_SETTING", "[I")]
def jx_nest : List (String × Nat × MethodName × String) := [("TornStreams", 19, ⟨"TornStreams$Automaton", "<init>", "()V"⟩, "TornStreams"), ("TornStreams", 28, ⟨"TornStreams$Finds", "<init>", "()V"⟩, "TornStreams"), ("TornStreams$State", 11, ⟨"TornStreams$Words", "<init>", "()V"⟩, "TornStreams"), ("TornStreams$Reader", 93, ⟨"TornStreams", "isLetter", "(I)Z"⟩, "TornStreams")]
def jx_F (G : jx_G) (s : State) : Prop := va_K G.1 vwCl (jx_tys G) s ∧ G.2.2.1 ≤ s.heap.size ∧ (∀ (i : Nat) (q : String × String × String), jx_sts[i]? = some q → va_Z q.1 q.2.1 q.2.2 (.ref (G.2.2.2 i)) (jx_A G) s s.heap) ∧ va_AO RX2 s ∧ va_AO RX5 s ∧ ∀ q ∈ jx_nest, va_Nw (.methodLinkNest q.1 q.2.1 q.2.2.1 q.2.2.2) s
def jx_H (G : jx_G) (s : State) (w : jx_W) (H : Heap) : Prop := H.size = w.1 ∧ w.2.1 = G.2.2.2 ∧ (∀ (a n : Nat) (f : Nat → Int32), w.2.2 a = some (.inl (.short, n, .inl f)) → va_T .int a n (fun j => .int (f j)) (jx_A G) s H) ∧ ∀ (a : Nat) (e : jx_E), w.2.2 a = some e → jx_own e = true → jx_A G a ∧ va_at G.1 vwCl (a, jx_cv G e) H
def jx_PW (G : jx_G) (w : jx_W) (U : State) : Prop := jx_F G U ∧ jx_H G U w U.heap
theorem jx_F.moved {G : jx_G} {s U : State} (h : jx_F G s) (hW : s.WarmedH U.vm) (hz : s.heap.size ≤ U.heap.size) (hq : ∀ a : Nat, a < s.heap.size → ¬ jx_A G a → U.heap[a]? = s.heap[a]?) : jx_F G U := by
  obtain ⟨h1, h2, h3, h4, h5, h6⟩ := h
  exact ⟨va_K.moved hW.alike h1, Nat.le_trans h2 hz, fun i q hi => ((h3 i q hi).moved hW.alike).kept hq, h4.moved hW.alike, h5.moved hW.alike, fun q hm => (h6 q hm).warmM hW⟩
theorem jx_F.calling {G : jx_G} {U : State} {g : JFrame} {mk : MethodId} {a : Array Value} (h : jx_F G U) : jx_F G (U.calling g mk a) := by
  obtain ⟨h1, h2, h3, h4, h5, h6⟩ := h
  exact ⟨va_K.moved (u := U) (U := U.calling g mk a) (Vm.Alike.refl U.vm) h1, h2, fun i q hi => (h3 i q hi).moved (u := U) (U := U.calling g mk a) (Vm.Alike.refl U.vm), h4.moved (u := U) (U := U.calling g mk a) (Vm.Alike.refl U.vm), h5.moved (u := U) (U := U.calling g mk a) (Vm.Alike.refl U.vm), fun q hm => (h6 q hm).same (u := U) (U := U.calling g mk a) rfl rfl⟩
theorem jx_H.moved {G : jx_G} {u U : State} {w : jx_W} {H : Heap} (hvm : u.vm.Alike U.vm) (h : jx_H G u w H) : jx_H G U w H := by
  obtain ⟨h1, h2, h3, h4⟩ := h
  exact ⟨h1, h2, fun a n f ha => (h3 a n f ha).moved hvm, h4⟩
theorem jx_PW.calling {G : jx_G} {w : jx_W} {U : State} {g : JFrame} {mk : MethodId} {a : Array Value} (h : jx_PW G w U) : jx_PW G w (U.calling g mk a) := ⟨h.1.calling, jx_H.moved (u := U) (U := U.calling g mk a) (Vm.Alike.refl U.vm) h.2⟩
theorem jx_H.put {G : jx_G} {s : State} {w : jx_W} {H H1 : Heap} {a : Nat} {e : jx_E} (h : jx_H G s w H) (ha : jx_A G a) (ho : jx_own e = true) (z : H1.size = H.size) (oq : ∀ q : Nat, q ≠ a → H1[q]? = H[q]?) (he : va_at G.1 vwCl (a, jx_cv G e) H1) : jx_H G s (jx_up w a e) H1 := by
  obtain ⟨h1, h2, h3, h4⟩ := h
  refine ⟨z.trans h1, h2, fun b n f hb => ?_, fun b e' hb ho' => ?_⟩
  · have hb' : (if b = a then some e else w.2.2 b) = some (.inl (.short, n, .inl f)) := hb
    by_cases hba : b = a
    · rw [if_pos hba] at hb'
      rw [Option.some.inj hb'] at ho
      cases ho
    · rw [if_neg hba] at hb'
      exact (h3 b n f hb').kept (fun q _ hq => oq q (fun e => hq (by rw [e]; exact ha)))
  · have hb' : (if b = a then some e else w.2.2 b) = some e' := hb
    by_cases hba : b = a
    · rw [if_pos hba] at hb'
      rw [← Option.some.inj hb', hba]
      exact ⟨ha, he⟩
    · rw [if_neg hba] at hb'
      obtain ⟨g1, g2⟩ := h4 b e' hb' ho'
      exact ⟨g1, g2.kept (oq b hba)⟩
theorem jx_H.new {G : jx_G} {s : State} {w : jx_W} {H H1 : Heap} {e : jx_E} (h : jx_H G s w H) (ha : jx_A G H.size) (ho : jx_own e = true) (z : H1.size = H.size + 1) (oq : ∀ q : Nat, q < H.size → H1[q]? = H[q]?) (he : va_at G.1 vwCl (H.size, jx_cv G e) H1) : jx_H G s (jx_al w e) H1 := by
  obtain ⟨h1, h2, h3, h4⟩ := h
  refine ⟨by rw [z, h1]; rfl, h2, fun b n f hb => ?_, fun b e' hb ho' => ?_⟩
  · have hb' : (if b = w.1 then some e else w.2.2 b) = some (.inl (.short, n, .inl f)) := hb
    by_cases hba : b = w.1
    · rw [if_pos hba] at hb'
      rw [Option.some.inj hb'] at ho
      cases ho
    · rw [if_neg hba] at hb'
      exact (h3 b n f hb').kept (fun q hq _ => oq q hq)
  · have hb' : (if b = w.1 then some e else w.2.2 b) = some e' := hb
    by_cases hba : b = w.1
    · rw [if_pos hba] at hb'
      rw [← Option.some.inj hb', hba, ← h1]
      exact ⟨ha, he⟩
    · rw [if_neg hba] at hb'
      obtain ⟨g1, g2⟩ := h4 b e' hb' ho'
      exact ⟨g1, g2.kept (oq b g2.lt)⟩
/-- a cell of the store as a world of its own -/
theorem jx_H.one {G : jx_G} {s : State} {w : jx_W} {H : Heap} {a : Nat} {e : jx_E} (h : jx_H G s w H) (ha : w.2.2 a = some e) (ho : jx_own e = true) : va_P G.1 vwCl [(a, jx_cv G e)] H := fun k q hq => by
  have hz : k < 1 := (List.getElem?_eq_some_iff.mp hq).1
  rw [show k = 0 by omega] at hq
  cases hq
  exact (h.2.2.2 a e ha ho).2
theorem jx_get_mem {lv : jx_L} {i : Nat} {v : Value} (h : jx_get lv i = some v) : (i, v) ∈ lv := by
  induction lv with
  | nil => cases h
  | cons q t ih =>
    obtain ⟨j, u⟩ := q
    unfold jx_get at h
    cases hb : Nat.beq j i with
    | true =>
      rw [hb] at h
      have : j = i := Nat.eq_of_beq_eq_true hb
      subst this
      cases h
      exact List.mem_cons_self
    | false => rw [hb] at h; exact List.mem_cons_of_mem _ (ih h)
theorem jx_get_has {ls : Array Slot} {nL : Nat} {lv : jx_L} {i : Nat} {v : Value} (hl : lv_has ls nL lv) (h : jx_get lv i = some v) : ls[i]? = some (.val v) := hl.2.2 (i, v) (jx_get_mem h)
theorem jx_pick_sub {lv : jx_L} : ∀ (is : List Nat) (q : Nat × Value), q ∈ jx_pick is lv → q ∈ lv
  | [], q, h => by cases h
  | i :: t, q, h => by
    unfold jx_pick at h
    cases hg : jx_get lv i with
    | none => rw [hg] at h; exact jx_pick_sub t q h
    | some v =>
      rw [hg] at h
      rcases List.mem_cons.mp h with h | h
      · rw [h]; exact jx_get_mem hg
      · exact jx_pick_sub t q h
theorem jx_pick_has {ls : Array Slot} {nL : Nat} {lv : jx_L} (hl : lv_has ls nL lv) (is : List Nat) : lv_has ls nL (jx_pick is lv) := ⟨hl.1, hl.2.1, fun q hq => hl.2.2 q (jx_pick_sub is q hq)⟩
def jx_X (p : Program) (s : State) (m : MethodId) (args : Array Value) (meth : Method) (c : Code) (R : Room) (G : jx_G) (own nm : String) (cc : ByteArray) (nL mc ms : Nat) : Prop :=
  p.tables.exec = Jvm.exec ∧ c.code = cc ∧ c.maxLocals = nL ∧ s.vm.findClass own = some m.cls ∧ (∀ w ∈ jx_wl, w.before args s = true) ∧ meth.name = nm ∧ jx_F G s ∧ R.cells = mc ∧ R.slots = ms
def jx_KS (p : Program) (l : Launch) (e : Env) (R : Room) (s : State) (m : MethodId) (args : Array Value) (below : List Frame) (meth : Method) (c : Code) (Φ : State → Prop) (G : jx_G) (nL mc ms : Nat) (pc : Nat) (K : jx_K) : Prop :=
  ∀ (H : Heap) (locs : List Loc) (cells slots : Nat) (ls : Array Slot) (lv : jx_L) (st : List Value) (bc bs : Nat) (w : jx_W),
    va_S (jx_A G) s.heap H locs → jx_H G s w H → lv_has ls nL lv → cells + bc = mc → slots + bs = ms → K lv st bc bs w → W p l e R s m args below meth c H locs cells slots Φ (F0 m pc ls st)
section JXR
variable {p : Program} {l : Launch} {e : Env} {R : Room} {s : State} {m : MethodId} {args : Array Value} {below : List Frame} {meth : Method} {c : Code} {Φ : State → Prop} {G : jx_G} {own nm : String} {cc : ByteArray} {nL mc ms pc : Nat} {C : jx_C} {J : jx_J} {q : jx_Q} {K : jx_K}
theorem js_iconst (X : jx_X p s m args meth c R G own nm cc nL mc ms) {n : Int} {v : Int32} (hv : Int32.ofInt n = v) (d : decode cc pc = .ok (.iconst n, 1)) (hk : jx_KS p l e R s m args below meth c Φ G nL mc ms (pc + 1) (K)) : jx_KS p l e R s m args below meth c Φ G nL mc ms (pc) (jt_c (.int v) C J q K) := fun H locs cells slots ls lv st bc bs w hS hH hl hc hs h => lv_iconst X.1 X.2.1 d hv (hk _ _ _ _ _ _ _ _ _ _ hS hH hl hc hs h)
theorem js_bipush (X : jx_X p s m args meth c R G own nm cc nL mc ms) {n : Int} {v : Int32} (hv : (Int8.ofInt n).toInt32 = v) (d : decode cc pc = .ok (.bipush n, 2)) (hk : jx_KS p l e R s m args below meth c Φ G nL mc ms (pc + 2) (K)) : jx_KS p l e R s m args below meth c Φ G nL mc ms (pc) (jt_c (.int v) C J q K) := fun H locs cells slots ls lv st bc bs w hS hH hl hc hs h => lv_bipush X.1 X.2.1 d hv (hk _ _ _ _ _ _ _ _ _ _ hS hH hl hc hs h)
theorem js_sipush (X : jx_X p s m args meth c R G own nm cc nL mc ms) {n : Int} {v : Int32} (hv : (Int16.ofInt n).toInt32 = v) (d : decode cc pc = .ok (.sipush n, 3)) (hk : jx_KS p l e R s m args below meth c Φ G nL mc ms (pc + 3) (K)) : jx_KS p l e R s m args below meth c Φ G nL mc ms (pc) (jt_c (.int v) C J q K) := fun H locs cells slots ls lv st bc bs w hS hH hl hc hs h => lv_sipush X.1 X.2.1 d hv (hk _ _ _ _ _ _ _ _ _ _ hS hH hl hc hs h)
theorem js_lconst (X : jx_X p s m args meth c R G own nm cc nL mc ms) {n : Fin 2} {v : Int64} (hv : Int64.ofNat (n : Nat) = v) (d : decode cc pc = .ok (.lconst n, 1)) (hk : jx_KS p l e R s m args below meth c Φ G nL mc ms (pc + 1) (K)) : jx_KS p l e R s m args below meth c Φ G nL mc ms (pc) (jt_c (.long v) C J q K) := fun H locs cells slots ls lv st bc bs w hS hH hl hc hs h => lv_lconst X.1 X.2.1 d hv (hk _ _ _ _ _ _ _ _ _ _ hS hH hl hc hs h)
theorem js_ldcw (X : jx_X p s m args meth c R G own nm cc nL mc ms) {index : Nat} {v : Int32} (hw : (Cond.constant own index v) ∈ jx_wl) (d : decode cc pc = .ok (.ldc_w index, 3)) (hk : jx_KS p l e R s m args below meth c Φ G nL mc ms (pc + 3) (K)) : jx_KS p l e R s m args below meth c Φ G nL mc ms (pc) (jt_c (.int v) C J q K) := fun H locs cells slots ls lv st bc bs w hS hH hl hc hs h => lv_ldcw X.1 X.2.1 X.2.2.2.1 (X.2.2.2.2.1 _ hw) d (hk _ _ _ _ _ _ _ _ _ _ hS hH hl hc hs h)
theorem js_ldc (X : jx_X p s m args meth c R G own nm cc nL mc ms) {index : Nat} {v : Int32} (hw : (Cond.constant own index v) ∈ jx_wl) (d : decode cc pc = .ok (.ldc index, 2)) (hk : jx_KS p l e R s m args below meth c Φ G nL mc ms (pc + 2) (K)) : jx_KS p l e R s m args below meth c Φ G nL mc ms (pc) (jt_c (.int v) C J q K) := fun H locs cells slots ls lv st bc bs w hS hH hl hc hs h => lv_ldc X.1 X.2.1 X.2.2.2.1 (X.2.2.2.2.1 _ hw) d (hk _ _ _ _ _ _ _ _ _ _ hS hH hl hc hs h)
theorem js_ldc2 (X : jx_X p s m args meth c R G own nm cc nL mc ms) {index : Nat} {v : Int64} (hw : (Cond.constantLong own index v) ∈ jx_wl) (d : decode cc pc = .ok (.ldc2_w index, 3)) (hk : jx_KS p l e R s m args below meth c Φ G nL mc ms (pc + 3) (K)) : jx_KS p l e R s m args below meth c Φ G nL mc ms (pc) (jt_c (.long v) C J q K) := fun H locs cells slots ls lv st bc bs w hS hH hl hc hs h => lv_ldc2 X.1 X.2.1 X.2.2.2.1 (X.2.2.2.2.1 _ hw) d (hk _ _ _ _ _ _ _ _ _ _ hS hH hl hc hs h)
theorem js_iload (X : jx_X p s m args meth c R G own nm cc nL mc ms) {i : Nat} (d : decode cc pc = .ok (.iload i, 2)) (hk : jx_KS p l e R s m args below meth c Φ G nL mc ms (pc + 2) (K)) : jx_KS p l e R s m args below meth c Φ G nL mc ms (pc) (jt_ldi i C J q K) := by
  intro H locs cells slots ls lv st bc bs w hS hH hl hc hs h
  unfold jt_ldi at h
  split at h
  · rename_i hg; exact lv_iload X.1 X.2.1 d (jx_get_has hl hg) (hk _ _ _ _ _ _ _ _ _ _ hS hH hl hc hs h)
  · exact h.elim
theorem js_iload_n (X : jx_X p s m args meth c R G own nm cc nL mc ms) {i : Fin 4} (d : decode cc pc = .ok (.iload_n i, 1)) (hk : jx_KS p l e R s m args below meth c Φ G nL mc ms (pc + 1) (K)) : jx_KS p l e R s m args below meth c Φ G nL mc ms (pc) (jt_ldi (i : Nat) C J q K) := by
  intro H locs cells slots ls lv st bc bs w hS hH hl hc hs h
  unfold jt_ldi at h
  split at h
  · rename_i hg; exact lv_iload_n X.1 X.2.1 d rfl (jx_get_has hl hg) (hk _ _ _ _ _ _ _ _ _ _ hS hH hl hc hs h)
  · exact h.elim
theorem js_lload (X : jx_X p s m args meth c R G own nm cc nL mc ms) {i : Nat} (d : decode cc pc = .ok (.lload i, 2)) (hk : jx_KS p l e R s m args below meth c Φ G nL mc ms (pc + 2) (K)) : jx_KS p l e R s m args below meth c Φ G nL mc ms (pc) (jt_ldl i C J q K) := by
  intro H locs cells slots ls lv st bc bs w hS hH hl hc hs h
  unfold jt_ldl at h
  split at h
  · rename_i hg; exact lv_lload X.1 X.2.1 d (jx_get_has hl hg) (hk _ _ _ _ _ _ _ _ _ _ hS hH hl hc hs h)
  · exact h.elim
theorem js_lload_n (X : jx_X p s m args meth c R G own nm cc nL mc ms) {i : Fin 4} (d : decode cc pc = .ok (.lload_n i, 1)) (hk : jx_KS p l e R s m args below meth c Φ G nL mc ms (pc + 1) (K)) : jx_KS p l e R s m args below meth c Φ G nL mc ms (pc) (jt_ldl (i : Nat) C J q K) := by
  intro H locs cells slots ls lv st bc bs w hS hH hl hc hs h
  unfold jt_ldl at h
  split at h
  · rename_i hg; exact lv_lload_n X.1 X.2.1 d rfl (jx_get_has hl hg) (hk _ _ _ _ _ _ _ _ _ _ hS hH hl hc hs h)
  · exact h.elim
theorem js_aload (X : jx_X p s m args meth c R G own nm cc nL mc ms) {i : Nat} (d : decode cc pc = .ok (.aload i, 2)) (hk : jx_KS p l e R s m args below meth c Φ G nL mc ms (pc + 2) (K)) : jx_KS p l e R s m args below meth c Φ G nL mc ms (pc) (jt_lda i C J q K) := by
  intro H locs cells slots ls lv st bc bs w hS hH hl hc hs h
  unfold jt_lda at h
  split at h
  · rename_i hg; exact lv_aload X.1 X.2.1 d (jx_get_has hl hg) (hk _ _ _ _ _ _ _ _ _ _ hS hH hl hc hs h)
  · exact h.elim
theorem js_aload_n (X : jx_X p s m args meth c R G own nm cc nL mc ms) {i : Fin 4} (d : decode cc pc = .ok (.aload_n i, 1)) (hk : jx_KS p l e R s m args below meth c Φ G nL mc ms (pc + 1) (K)) : jx_KS p l e R s m args below meth c Φ G nL mc ms (pc) (jt_lda (i : Nat) C J q K) := by
  intro H locs cells slots ls lv st bc bs w hS hH hl hc hs h
  unfold jt_lda at h
  split at h
  · rename_i hg; exact lv_aload_n X.1 X.2.1 d rfl (jx_get_has hl hg) (hk _ _ _ _ _ _ _ _ _ _ hS hH hl hc hs h)
  · exact h.elim
theorem js_istore_n (X : jx_X p s m args meth c R G own nm cc nL mc ms) {i : Fin 4} (hn : (i : Nat) < nL) (d : decode cc pc = .ok (.istore_n i, 1)) (hk : jx_KS p l e R s m args below meth c Φ G nL mc ms (pc + 1) (K)) : jx_KS p l e R s m args below meth c Φ G nL mc ms (pc) (jt_sti (i : Nat) C J q K) := by
  intro H locs cells slots ls lv st bc bs w hS hH hl hc hs h
  unfold jt_sti at h
  split at h
  · exact lv_istore_n X.1 X.2.1 d rfl hl hn rfl (fun ls' hl' => hk _ _ _ _ _ _ _ _ _ _ hS hH hl' hc hs h)
  · exact h.elim
theorem js_istore (X : jx_X p s m args meth c R G own nm cc nL mc ms) {i : Nat} (hn : i < nL) (d : decode cc pc = .ok (.istore i, 2)) (hk : jx_KS p l e R s m args below meth c Φ G nL mc ms (pc + 2) (K)) : jx_KS p l e R s m args below meth c Φ G nL mc ms (pc) (jt_sti i C J q K) := by
  intro H locs cells slots ls lv st bc bs w hS hH hl hc hs h
  unfold jt_sti at h
  split at h
  · exact lv_istore X.1 X.2.1 d hl hn rfl (fun ls' hl' => hk _ _ _ _ _ _ _ _ _ _ hS hH hl' hc hs h)
  · exact h.elim
theorem js_lstore_n (X : jx_X p s m args meth c R G own nm cc nL mc ms) {i : Fin 4} (hn : (i : Nat) + 1 < nL) (d : decode cc pc = .ok (.lstore_n i, 1)) (hk : jx_KS p l e R s m args below meth c Φ G nL mc ms (pc + 1) (K)) : jx_KS p l e R s m args below meth c Φ G nL mc ms (pc) (jt_stl (i : Nat) C J q K) := by
  intro H locs cells slots ls lv st bc bs w hS hH hl hc hs h
  unfold jt_stl at h
  split at h
  · exact lv_lstore_n X.1 X.2.1 d rfl hl hn rfl (fun ls' hl' => hk _ _ _ _ _ _ _ _ _ _ hS hH hl' hc hs h)
  · exact h.elim
theorem js_lstore (X : jx_X p s m args meth c R G own nm cc nL mc ms) {i : Nat} (hn : i + 1 < nL) (d : decode cc pc = .ok (.lstore i, 2)) (hk : jx_KS p l e R s m args below meth c Φ G nL mc ms (pc + 2) (K)) : jx_KS p l e R s m args below meth c Φ G nL mc ms (pc) (jt_stl i C J q K) := by
  intro H locs cells slots ls lv st bc bs w hS hH hl hc hs h
  unfold jt_stl at h
  split at h
  · exact lv_lstore X.1 X.2.1 d hl hn rfl (fun ls' hl' => hk _ _ _ _ _ _ _ _ _ _ hS hH hl' hc hs h)
  · exact h.elim
theorem js_astore_n (X : jx_X p s m args meth c R G own nm cc nL mc ms) {i : Fin 4} (hn : (i : Nat) < nL) (d : decode cc pc = .ok (.astore_n i, 1)) (hk : jx_KS p l e R s m args below meth c Φ G nL mc ms (pc + 1) (K)) : jx_KS p l e R s m args below meth c Φ G nL mc ms (pc) (jt_sta (i : Nat) C J q K) := by
  intro H locs cells slots ls lv st bc bs w hS hH hl hc hs h
  unfold jt_sta at h
  split at h
  · exact lv_astore_n X.1 X.2.1 d rfl hl hn rfl (fun ls' hl' => hk _ _ _ _ _ _ _ _ _ _ hS hH hl' hc hs h)
  · exact h.elim
theorem js_astore (X : jx_X p s m args meth c R G own nm cc nL mc ms) {i : Nat} (hn : i < nL) (d : decode cc pc = .ok (.astore i, 2)) (hk : jx_KS p l e R s m args below meth c Φ G nL mc ms (pc + 2) (K)) : jx_KS p l e R s m args below meth c Φ G nL mc ms (pc) (jt_sta i C J q K) := by
  intro H locs cells slots ls lv st bc bs w hS hH hl hc hs h
  unfold jt_sta at h
  split at h
  · exact lv_astore X.1 X.2.1 d hl hn rfl (fun ls' hl' => hk _ _ _ _ _ _ _ _ _ _ hS hH hl' hc hs h)
  · exact h.elim
theorem js_iinc (X : jx_X p s m args meth c R G own nm cc nL mc ms) {i : Nat} {n : Int} {v : Int32} (hv : Int32.ofInt n = v) (hn : i < nL) (d : decode cc pc = .ok (.iinc i n, 3)) (hk : jx_KS p l e R s m args below meth c Φ G nL mc ms (pc + 3) (K)) : jx_KS p l e R s m args below meth c Φ G nL mc ms (pc) (jt_inc i v C J q K) := by
  intro H locs cells slots ls lv st bc bs w hS hH hl hc hs h
  unfold jt_inc at h
  split at h
  · rename_i hg; obtain ⟨k0, hk0⟩ := List.getElem?_of_mem (jx_get_mem hg); exact lv_iinc X.1 X.2.1 d hl hk0 (by rw [hv]) hn rfl (fun ls' hl' => hk _ _ _ _ _ _ _ _ _ _ hS hH hl' hc hs h)
  · exact h.elim
theorem js_iadd (X : jx_X p s m args meth c R G own nm cc nL mc ms)  (d : decode cc pc = .ok (.iadd, 1)) (hk : jx_KS p l e R s m args below meth c Φ G nL mc ms (pc + 1) (K)) : jx_KS p l e R s m args below meth c Φ G nL mc ms (pc) (jt_ii (fun x y => x + y) C J q K) := by
  intro H locs cells slots ls lv st bc bs w hS hH hl hc hs h
  unfold jt_ii at h
  split at h
  · exact lv_iadd X.1 X.2.1 d (hk _ _ _ _ _ _ _ _ _ _ hS hH hl hc hs h)
  · exact h.elim
theorem js_isub (X : jx_X p s m args meth c R G own nm cc nL mc ms)  (d : decode cc pc = .ok (.isub, 1)) (hk : jx_KS p l e R s m args below meth c Φ G nL mc ms (pc + 1) (K)) : jx_KS p l e R s m args below meth c Φ G nL mc ms (pc) (jt_ii (fun x y => x - y) C J q K) := by
  intro H locs cells slots ls lv st bc bs w hS hH hl hc hs h
  unfold jt_ii at h
  split at h
  · exact lv_isub X.1 X.2.1 d (hk _ _ _ _ _ _ _ _ _ _ hS hH hl hc hs h)
  · exact h.elim
theorem js_imul (X : jx_X p s m args meth c R G own nm cc nL mc ms)  (d : decode cc pc = .ok (.imul, 1)) (hk : jx_KS p l e R s m args below meth c Φ G nL mc ms (pc + 1) (K)) : jx_KS p l e R s m args below meth c Φ G nL mc ms (pc) (jt_ii (fun x y => x * y) C J q K) := by
  intro H locs cells slots ls lv st bc bs w hS hH hl hc hs h
  unfold jt_ii at h
  split at h
  · exact lv_imul X.1 X.2.1 d (hk _ _ _ _ _ _ _ _ _ _ hS hH hl hc hs h)
  · exact h.elim
theorem js_iand (X : jx_X p s m args meth c R G own nm cc nL mc ms)  (d : decode cc pc = .ok (.iand, 1)) (hk : jx_KS p l e R s m args below meth c Φ G nL mc ms (pc + 1) (K)) : jx_KS p l e R s m args below meth c Φ G nL mc ms (pc) (jt_ii (fun x y => x &&& y) C J q K) := by
  intro H locs cells slots ls lv st bc bs w hS hH hl hc hs h
  unfold jt_ii at h
  split at h
  · exact lv_iand X.1 X.2.1 d (hk _ _ _ _ _ _ _ _ _ _ hS hH hl hc hs h)
  · exact h.elim
theorem js_ior (X : jx_X p s m args meth c R G own nm cc nL mc ms)  (d : decode cc pc = .ok (.ior, 1)) (hk : jx_KS p l e R s m args below meth c Φ G nL mc ms (pc + 1) (K)) : jx_KS p l e R s m args below meth c Φ G nL mc ms (pc) (jt_ii (fun x y => x ||| y) C J q K) := by
  intro H locs cells slots ls lv st bc bs w hS hH hl hc hs h
  unfold jt_ii at h
  split at h
  · exact lv_ior X.1 X.2.1 d (hk _ _ _ _ _ _ _ _ _ _ hS hH hl hc hs h)
  · exact h.elim
theorem js_ixor (X : jx_X p s m args meth c R G own nm cc nL mc ms)  (d : decode cc pc = .ok (.ixor, 1)) (hk : jx_KS p l e R s m args below meth c Φ G nL mc ms (pc + 1) (K)) : jx_KS p l e R s m args below meth c Φ G nL mc ms (pc) (jt_ii (fun x y => x ^^^ y) C J q K) := by
  intro H locs cells slots ls lv st bc bs w hS hH hl hc hs h
  unfold jt_ii at h
  split at h
  · exact lv_ixor X.1 X.2.1 d (hk _ _ _ _ _ _ _ _ _ _ hS hH hl hc hs h)
  · exact h.elim
theorem js_ishl (X : jx_X p s m args meth c R G own nm cc nL mc ms)  (d : decode cc pc = .ok (.ishl, 1)) (hk : jx_KS p l e R s m args below meth c Φ G nL mc ms (pc + 1) (K)) : jx_KS p l e R s m args below meth c Φ G nL mc ms (pc) (jt_ii (fun x y => x <<< (y &&& 31)) C J q K) := by
  intro H locs cells slots ls lv st bc bs w hS hH hl hc hs h
  unfold jt_ii at h
  split at h
  · exact lv_ishl X.1 X.2.1 d (hk _ _ _ _ _ _ _ _ _ _ hS hH hl hc hs h)
  · exact h.elim
theorem js_ishr (X : jx_X p s m args meth c R G own nm cc nL mc ms)  (d : decode cc pc = .ok (.ishr, 1)) (hk : jx_KS p l e R s m args below meth c Φ G nL mc ms (pc + 1) (K)) : jx_KS p l e R s m args below meth c Φ G nL mc ms (pc) (jt_ii (fun x y => x >>> (y &&& 31)) C J q K) := by
  intro H locs cells slots ls lv st bc bs w hS hH hl hc hs h
  unfold jt_ii at h
  split at h
  · exact lv_ishr X.1 X.2.1 d (hk _ _ _ _ _ _ _ _ _ _ hS hH hl hc hs h)
  · exact h.elim
theorem js_iushr (X : jx_X p s m args meth c R G own nm cc nL mc ms)  (d : decode cc pc = .ok (.iushr, 1)) (hk : jx_KS p l e R s m args below meth c Φ G nL mc ms (pc + 1) (K)) : jx_KS p l e R s m args below meth c Φ G nL mc ms (pc) (jt_ii (fun x y => (x.toUInt32 >>> (y.toUInt32 &&& Int32.toUInt32 31)).toInt32) C J q K) := by
  intro H locs cells slots ls lv st bc bs w hS hH hl hc hs h
  unfold jt_ii at h
  split at h
  · exact lv_iushr X.1 X.2.1 d rfl (hk _ _ _ _ _ _ _ _ _ _ hS hH hl hc hs h)
  · exact h.elim
theorem js_irem (X : jx_X p s m args meth c R G own nm cc nL mc ms)  (d : decode cc pc = .ok (.irem, 1)) (hk : jx_KS p l e R s m args below meth c Φ G nL mc ms (pc + 1) (K)) : jx_KS p l e R s m args below meth c Φ G nL mc ms (pc) (jt_irem C J q K) := by
  intro H locs cells slots ls lv st bc bs w hS hH hl hc hs h
  unfold jt_irem at h
  split at h
  · exact lv_irem X.1 X.2.1 d h.1 (hk _ _ _ _ _ _ _ _ _ _ hS hH hl hc hs h.2)
  · exact h.elim
theorem js_ladd (X : jx_X p s m args meth c R G own nm cc nL mc ms)  (d : decode cc pc = .ok (.ladd, 1)) (hk : jx_KS p l e R s m args below meth c Φ G nL mc ms (pc + 1) (K)) : jx_KS p l e R s m args below meth c Φ G nL mc ms (pc) (jt_ll (fun x y => x + y) C J q K) := by
  intro H locs cells slots ls lv st bc bs w hS hH hl hc hs h
  unfold jt_ll at h
  split at h
  · exact lv_ladd X.1 X.2.1 d (hk _ _ _ _ _ _ _ _ _ _ hS hH hl hc hs h)
  · exact h.elim
theorem js_lsub (X : jx_X p s m args meth c R G own nm cc nL mc ms)  (d : decode cc pc = .ok (.lsub, 1)) (hk : jx_KS p l e R s m args below meth c Φ G nL mc ms (pc + 1) (K)) : jx_KS p l e R s m args below meth c Φ G nL mc ms (pc) (jt_ll (fun x y => x - y) C J q K) := by
  intro H locs cells slots ls lv st bc bs w hS hH hl hc hs h
  unfold jt_ll at h
  split at h
  · exact lv_lsub X.1 X.2.1 d (hk _ _ _ _ _ _ _ _ _ _ hS hH hl hc hs h)
  · exact h.elim
theorem js_lmul (X : jx_X p s m args meth c R G own nm cc nL mc ms)  (d : decode cc pc = .ok (.lmul, 1)) (hk : jx_KS p l e R s m args below meth c Φ G nL mc ms (pc + 1) (K)) : jx_KS p l e R s m args below meth c Φ G nL mc ms (pc) (jt_ll (fun x y => x * y) C J q K) := by
  intro H locs cells slots ls lv st bc bs w hS hH hl hc hs h
  unfold jt_ll at h
  split at h
  · exact lv_lmul X.1 X.2.1 d (hk _ _ _ _ _ _ _ _ _ _ hS hH hl hc hs h)
  · exact h.elim
theorem js_land (X : jx_X p s m args meth c R G own nm cc nL mc ms)  (d : decode cc pc = .ok (.land, 1)) (hk : jx_KS p l e R s m args below meth c Φ G nL mc ms (pc + 1) (K)) : jx_KS p l e R s m args below meth c Φ G nL mc ms (pc) (jt_ll (fun x y => x &&& y) C J q K) := by
  intro H locs cells slots ls lv st bc bs w hS hH hl hc hs h
  unfold jt_ll at h
  split at h
  · exact lv_land X.1 X.2.1 d (hk _ _ _ _ _ _ _ _ _ _ hS hH hl hc hs h)
  · exact h.elim
theorem js_lor (X : jx_X p s m args meth c R G own nm cc nL mc ms)  (d : decode cc pc = .ok (.lor, 1)) (hk : jx_KS p l e R s m args below meth c Φ G nL mc ms (pc + 1) (K)) : jx_KS p l e R s m args below meth c Φ G nL mc ms (pc) (jt_ll (fun x y => x ||| y) C J q K) := by
  intro H locs cells slots ls lv st bc bs w hS hH hl hc hs h
  unfold jt_ll at h
  split at h
  · exact lv_lor X.1 X.2.1 d (hk _ _ _ _ _ _ _ _ _ _ hS hH hl hc hs h)
  · exact h.elim
theorem js_lshl (X : jx_X p s m args meth c R G own nm cc nL mc ms)  (d : decode cc pc = .ok (.lshl, 1)) (hk : jx_KS p l e R s m args below meth c Φ G nL mc ms (pc + 1) (K)) : jx_KS p l e R s m args below meth c Φ G nL mc ms (pc) (jt_li (fun x y => x <<< (y.toInt64 &&& 63)) C J q K) := by
  intro H locs cells slots ls lv st bc bs w hS hH hl hc hs h
  unfold jt_li at h
  split at h
  · exact lv_lshl X.1 X.2.1 d rfl (hk _ _ _ _ _ _ _ _ _ _ hS hH hl hc hs h)
  · exact h.elim
theorem js_lushr (X : jx_X p s m args meth c R G own nm cc nL mc ms)  (d : decode cc pc = .ok (.lushr, 1)) (hk : jx_KS p l e R s m args below meth c Φ G nL mc ms (pc + 1) (K)) : jx_KS p l e R s m args below meth c Φ G nL mc ms (pc) (jt_li (fun x y => (x.toUInt64 >>> (y.toInt64.toUInt64 &&& Int64.toUInt64 63)).toInt64) C J q K) := by
  intro H locs cells slots ls lv st bc bs w hS hH hl hc hs h
  unfold jt_li at h
  split at h
  · exact lv_lushr X.1 X.2.1 d rfl (hk _ _ _ _ _ _ _ _ _ _ hS hH hl hc hs h)
  · exact h.elim
theorem js_lcmp (X : jx_X p s m args meth c R G own nm cc nL mc ms)  (d : decode cc pc = .ok (.lcmp, 1)) (hk : jx_KS p l e R s m args below meth c Φ G nL mc ms (pc + 1) (K)) : jx_KS p l e R s m args below meth c Φ G nL mc ms (pc) (jt_lcmp C J q K) := by
  intro H locs cells slots ls lv st bc bs w hS hH hl hc hs h
  unfold jt_lcmp at h
  split at h
  · exact W.lcmp X.1 X.2.1 d (hk _ _ _ _ _ _ _ _ _ _ hS hH hl hc hs h)
  · exact h.elim
theorem js_i2l (X : jx_X p s m args meth c R G own nm cc nL mc ms)  (d : decode cc pc = .ok (.i2l, 1)) (hk : jx_KS p l e R s m args below meth c Φ G nL mc ms (pc + 1) (K)) : jx_KS p l e R s m args below meth c Φ G nL mc ms (pc) (jt_i2l C J q K) := by
  intro H locs cells slots ls lv st bc bs w hS hH hl hc hs h
  unfold jt_i2l at h
  split at h
  · exact lv_i2l X.1 X.2.1 d rfl (hk _ _ _ _ _ _ _ _ _ _ hS hH hl hc hs h)
  · exact h.elim
theorem js_l2i (X : jx_X p s m args meth c R G own nm cc nL mc ms)  (d : decode cc pc = .ok (.l2i, 1)) (hk : jx_KS p l e R s m args below meth c Φ G nL mc ms (pc + 1) (K)) : jx_KS p l e R s m args below meth c Φ G nL mc ms (pc) (jt_l2i C J q K) := by
  intro H locs cells slots ls lv st bc bs w hS hH hl hc hs h
  unfold jt_l2i at h
  split at h
  · exact lv_l2i X.1 X.2.1 d rfl (hk _ _ _ _ _ _ _ _ _ _ hS hH hl hc hs h)
  · exact h.elim
theorem js_i2b (X : jx_X p s m args meth c R G own nm cc nL mc ms)  (d : decode cc pc = .ok (.i2b, 1)) (hk : jx_KS p l e R s m args below meth c Φ G nL mc ms (pc + 1) (K)) : jx_KS p l e R s m args below meth c Φ G nL mc ms (pc) (jt_i2b C J q K) := by
  intro H locs cells slots ls lv st bc bs w hS hH hl hc hs h
  unfold jt_i2b at h
  split at h
  · exact lv_i2b X.1 X.2.1 d rfl (hk _ _ _ _ _ _ _ _ _ _ hS hH hl hc hs h)
  · exact h.elim
theorem js_dup (X : jx_X p s m args meth c R G own nm cc nL mc ms)  (d : decode cc pc = .ok (.dup, 1)) (hk : jx_KS p l e R s m args below meth c Φ G nL mc ms (pc + 1) (K)) : jx_KS p l e R s m args below meth c Φ G nL mc ms (pc) (jt_dup C J q K) := by
  intro H locs cells slots ls lv st bc bs w hS hH hl hc hs h
  unfold jt_dup at h
  split at h
  · exact lv_dup X.1 X.2.1 d rfl (hk _ _ _ _ _ _ _ _ _ _ hS hH hl hc hs h)
  · exact lv_dup X.1 X.2.1 d rfl (hk _ _ _ _ _ _ _ _ _ _ hS hH hl hc hs h)
  · exact h.elim
theorem js_dup2 (X : jx_X p s m args meth c R G own nm cc nL mc ms)  (d : decode cc pc = .ok (.dup2, 1)) (hk : jx_KS p l e R s m args below meth c Φ G nL mc ms (pc + 1) (K)) : jx_KS p l e R s m args below meth c Φ G nL mc ms (pc) (jt_dup2 C J q K) := by
  intro H locs cells slots ls lv st bc bs w hS hH hl hc hs h
  unfold jt_dup2 at h
  split at h
  · exact lv_dup2_11 X.1 X.2.1 d rfl rfl (hk _ _ _ _ _ _ _ _ _ _ hS hH hl hc hs h)
  · exact h.elim
theorem js_pop (X : jx_X p s m args meth c R G own nm cc nL mc ms)  (d : decode cc pc = .ok (.pop, 1)) (hk : jx_KS p l e R s m args below meth c Φ G nL mc ms (pc + 1) (K)) : jx_KS p l e R s m args below meth c Φ G nL mc ms (pc) (jt_pop C J q K) := by
  intro H locs cells slots ls lv st bc bs w hS hH hl hc hs h
  unfold jt_pop at h
  split at h
  · exact lv_pop X.1 X.2.1 d rfl (hk _ _ _ _ _ _ _ _ _ _ hS hH hl hc hs h)
  · exact lv_pop X.1 X.2.1 d rfl (hk _ _ _ _ _ _ _ _ _ _ hS hH hl hc hs h)
  · exact h.elim
theorem js_ifeq (X : jx_X p s m args meth c R G own nm cc nL mc ms) {off : Int} {tgt b : Nat} (ht : (pc : Int) + off = (tgt : Int)) (hj : jx_KS p l e R s m args below meth c Φ G nL mc ms (tgt) (J b)) (d : decode cc pc = .ok (.ifCond .eq off, 3)) (hk : jx_KS p l e R s m args below meth c Φ G nL mc ms (pc + 3) (K)) : jx_KS p l e R s m args below meth c Φ G nL mc ms (pc) (jt_if (fun x => x = 0) (fun x => ¬ x = 0) b C J q K) := by
  intro H locs cells slots ls lv st bc bs w hS hH hl hc hs h
  unfold jt_if at h
  split at h
  · exact lv_if_eq X.1 X.2.1 d ht (fun z => hj _ _ _ _ _ _ _ _ _ _ hS hH hl hc hs (h.1 z)) (fun z => hk _ _ _ _ _ _ _ _ _ _ hS hH hl hc hs (h.2 z))
  · exact h.elim
theorem js_ifne (X : jx_X p s m args meth c R G own nm cc nL mc ms) {off : Int} {tgt b : Nat} (ht : (pc : Int) + off = (tgt : Int)) (hj : jx_KS p l e R s m args below meth c Φ G nL mc ms (tgt) (J b)) (d : decode cc pc = .ok (.ifCond .ne off, 3)) (hk : jx_KS p l e R s m args below meth c Φ G nL mc ms (pc + 3) (K)) : jx_KS p l e R s m args below meth c Φ G nL mc ms (pc) (jt_if (fun x => ¬ x = 0) (fun x => x = 0) b C J q K) := by
  intro H locs cells slots ls lv st bc bs w hS hH hl hc hs h
  unfold jt_if at h
  split at h
  · exact lv_if_ne X.1 X.2.1 d ht (fun z => hj _ _ _ _ _ _ _ _ _ _ hS hH hl hc hs (h.1 z)) (fun z => hk _ _ _ _ _ _ _ _ _ _ hS hH hl hc hs (h.2 z))
  · exact h.elim
theorem js_iflt (X : jx_X p s m args meth c R G own nm cc nL mc ms) {off : Int} {tgt b : Nat} (ht : (pc : Int) + off = (tgt : Int)) (hj : jx_KS p l e R s m args below meth c Φ G nL mc ms (tgt) (J b)) (d : decode cc pc = .ok (.ifCond .lt off, 3)) (hk : jx_KS p l e R s m args below meth c Φ G nL mc ms (pc + 3) (K)) : jx_KS p l e R s m args below meth c Φ G nL mc ms (pc) (jt_if (fun x => x < 0) (fun x => ¬ x < 0) b C J q K) := by
  intro H locs cells slots ls lv st bc bs w hS hH hl hc hs h
  unfold jt_if at h
  split at h
  · exact lv_if_lt X.1 X.2.1 d ht (fun z => hj _ _ _ _ _ _ _ _ _ _ hS hH hl hc hs (h.1 z)) (fun z => hk _ _ _ _ _ _ _ _ _ _ hS hH hl hc hs (h.2 z))
  · exact h.elim
theorem js_ifge (X : jx_X p s m args meth c R G own nm cc nL mc ms) {off : Int} {tgt b : Nat} (ht : (pc : Int) + off = (tgt : Int)) (hj : jx_KS p l e R s m args below meth c Φ G nL mc ms (tgt) (J b)) (d : decode cc pc = .ok (.ifCond .ge off, 3)) (hk : jx_KS p l e R s m args below meth c Φ G nL mc ms (pc + 3) (K)) : jx_KS p l e R s m args below meth c Φ G nL mc ms (pc) (jt_if (fun x => 0 ≤ x) (fun x => ¬ 0 ≤ x) b C J q K) := by
  intro H locs cells slots ls lv st bc bs w hS hH hl hc hs h
  unfold jt_if at h
  split at h
  · exact lv_if_ge X.1 X.2.1 d ht (fun z => hj _ _ _ _ _ _ _ _ _ _ hS hH hl hc hs (h.1 z)) (fun z => hk _ _ _ _ _ _ _ _ _ _ hS hH hl hc hs (h.2 z))
  · exact h.elim
theorem js_ifgt (X : jx_X p s m args meth c R G own nm cc nL mc ms) {off : Int} {tgt b : Nat} (ht : (pc : Int) + off = (tgt : Int)) (hj : jx_KS p l e R s m args below meth c Φ G nL mc ms (tgt) (J b)) (d : decode cc pc = .ok (.ifCond .gt off, 3)) (hk : jx_KS p l e R s m args below meth c Φ G nL mc ms (pc + 3) (K)) : jx_KS p l e R s m args below meth c Φ G nL mc ms (pc) (jt_if (fun x => 0 < x) (fun x => ¬ 0 < x) b C J q K) := by
  intro H locs cells slots ls lv st bc bs w hS hH hl hc hs h
  unfold jt_if at h
  split at h
  · exact lv_if_gt X.1 X.2.1 d ht (fun z => hj _ _ _ _ _ _ _ _ _ _ hS hH hl hc hs (h.1 z)) (fun z => hk _ _ _ _ _ _ _ _ _ _ hS hH hl hc hs (h.2 z))
  · exact h.elim
theorem js_ifle (X : jx_X p s m args meth c R G own nm cc nL mc ms) {off : Int} {tgt b : Nat} (ht : (pc : Int) + off = (tgt : Int)) (hj : jx_KS p l e R s m args below meth c Φ G nL mc ms (tgt) (J b)) (d : decode cc pc = .ok (.ifCond .le off, 3)) (hk : jx_KS p l e R s m args below meth c Φ G nL mc ms (pc + 3) (K)) : jx_KS p l e R s m args below meth c Φ G nL mc ms (pc) (jt_if (fun x => x ≤ 0) (fun x => ¬ x ≤ 0) b C J q K) := by
  intro H locs cells slots ls lv st bc bs w hS hH hl hc hs h
  unfold jt_if at h
  split at h
  · exact lv_if_le X.1 X.2.1 d ht (fun z => hj _ _ _ _ _ _ _ _ _ _ hS hH hl hc hs (h.1 z)) (fun z => hk _ _ _ _ _ _ _ _ _ _ hS hH hl hc hs (h.2 z))
  · exact h.elim
theorem js_cmpeq (X : jx_X p s m args meth c R G own nm cc nL mc ms) {off : Int} {tgt b : Nat} (ht : (pc : Int) + off = (tgt : Int)) (hj : jx_KS p l e R s m args below meth c Φ G nL mc ms (tgt) (J b)) (d : decode cc pc = .ok (.if_icmp .eq off, 3)) (hk : jx_KS p l e R s m args below meth c Φ G nL mc ms (pc + 3) (K)) : jx_KS p l e R s m args below meth c Φ G nL mc ms (pc) (jt_cmp (fun x y => x = y) (fun x y => ¬ x = y) b C J q K) := by
  intro H locs cells slots ls lv st bc bs w hS hH hl hc hs h
  unfold jt_cmp at h
  split at h
  · exact lv_icmp_eq X.1 X.2.1 d ht (fun z => hj _ _ _ _ _ _ _ _ _ _ hS hH hl hc hs (h.1 z)) (fun z => hk _ _ _ _ _ _ _ _ _ _ hS hH hl hc hs (h.2 z))
  · exact h.elim
theorem js_cmpne (X : jx_X p s m args meth c R G own nm cc nL mc ms) {off : Int} {tgt b : Nat} (ht : (pc : Int) + off = (tgt : Int)) (hj : jx_KS p l e R s m args below meth c Φ G nL mc ms (tgt) (J b)) (d : decode cc pc = .ok (.if_icmp .ne off, 3)) (hk : jx_KS p l e R s m args below meth c Φ G nL mc ms (pc + 3) (K)) : jx_KS p l e R s m args below meth c Φ G nL mc ms (pc) (jt_cmp (fun x y => ¬ x = y) (fun x y => x = y) b C J q K) := by
  intro H locs cells slots ls lv st bc bs w hS hH hl hc hs h
  unfold jt_cmp at h
  split at h
  · exact lv_icmp_ne X.1 X.2.1 d ht (fun z => hj _ _ _ _ _ _ _ _ _ _ hS hH hl hc hs (h.1 z)) (fun z => hk _ _ _ _ _ _ _ _ _ _ hS hH hl hc hs (h.2 z))
  · exact h.elim
theorem js_cmplt (X : jx_X p s m args meth c R G own nm cc nL mc ms) {off : Int} {tgt b : Nat} (ht : (pc : Int) + off = (tgt : Int)) (hj : jx_KS p l e R s m args below meth c Φ G nL mc ms (tgt) (J b)) (d : decode cc pc = .ok (.if_icmp .lt off, 3)) (hk : jx_KS p l e R s m args below meth c Φ G nL mc ms (pc + 3) (K)) : jx_KS p l e R s m args below meth c Φ G nL mc ms (pc) (jt_cmp (fun x y => x < y) (fun x y => ¬ x < y) b C J q K) := by
  intro H locs cells slots ls lv st bc bs w hS hH hl hc hs h
  unfold jt_cmp at h
  split at h
  · exact lv_icmp_lt X.1 X.2.1 d ht (fun z => hj _ _ _ _ _ _ _ _ _ _ hS hH hl hc hs (h.1 z)) (fun z => hk _ _ _ _ _ _ _ _ _ _ hS hH hl hc hs (h.2 z))
  · exact h.elim
theorem js_cmpge (X : jx_X p s m args meth c R G own nm cc nL mc ms) {off : Int} {tgt b : Nat} (ht : (pc : Int) + off = (tgt : Int)) (hj : jx_KS p l e R s m args below meth c Φ G nL mc ms (tgt) (J b)) (d : decode cc pc = .ok (.if_icmp .ge off, 3)) (hk : jx_KS p l e R s m args below meth c Φ G nL mc ms (pc + 3) (K)) : jx_KS p l e R s m args below meth c Φ G nL mc ms (pc) (jt_cmp (fun x y => y ≤ x) (fun x y => ¬ y ≤ x) b C J q K) := by
  intro H locs cells slots ls lv st bc bs w hS hH hl hc hs h
  unfold jt_cmp at h
  split at h
  · exact lv_icmp_ge X.1 X.2.1 d ht (fun z => hj _ _ _ _ _ _ _ _ _ _ hS hH hl hc hs (h.1 z)) (fun z => hk _ _ _ _ _ _ _ _ _ _ hS hH hl hc hs (h.2 z))
  · exact h.elim
theorem js_cmpgt (X : jx_X p s m args meth c R G own nm cc nL mc ms) {off : Int} {tgt b : Nat} (ht : (pc : Int) + off = (tgt : Int)) (hj : jx_KS p l e R s m args below meth c Φ G nL mc ms (tgt) (J b)) (d : decode cc pc = .ok (.if_icmp .gt off, 3)) (hk : jx_KS p l e R s m args below meth c Φ G nL mc ms (pc + 3) (K)) : jx_KS p l e R s m args below meth c Φ G nL mc ms (pc) (jt_cmp (fun x y => y < x) (fun x y => ¬ y < x) b C J q K) := by
  intro H locs cells slots ls lv st bc bs w hS hH hl hc hs h
  unfold jt_cmp at h
  split at h
  · exact lv_icmp_gt X.1 X.2.1 d ht (fun z => hj _ _ _ _ _ _ _ _ _ _ hS hH hl hc hs (h.1 z)) (fun z => hk _ _ _ _ _ _ _ _ _ _ hS hH hl hc hs (h.2 z))
  · exact h.elim
theorem js_cmple (X : jx_X p s m args meth c R G own nm cc nL mc ms) {off : Int} {tgt b : Nat} (ht : (pc : Int) + off = (tgt : Int)) (hj : jx_KS p l e R s m args below meth c Φ G nL mc ms (tgt) (J b)) (d : decode cc pc = .ok (.if_icmp .le off, 3)) (hk : jx_KS p l e R s m args below meth c Φ G nL mc ms (pc + 3) (K)) : jx_KS p l e R s m args below meth c Φ G nL mc ms (pc) (jt_cmp (fun x y => x ≤ y) (fun x y => ¬ x ≤ y) b C J q K) := by
  intro H locs cells slots ls lv st bc bs w hS hH hl hc hs h
  unfold jt_cmp at h
  split at h
  · exact lv_icmp_le X.1 X.2.1 d ht (fun z => hj _ _ _ _ _ _ _ _ _ _ hS hH hl hc hs (h.1 z)) (fun z => hk _ _ _ _ _ _ _ _ _ _ hS hH hl hc hs (h.2 z))
  · exact h.elim
theorem js_goto (X : jx_X p s m args meth c R G own nm cc nL mc ms) {off : Int} {tgt b : Nat} (ht : (pc : Int) + off = (tgt : Int)) (hj : jx_KS p l e R s m args below meth c Φ G nL mc ms (tgt) (J b)) (d : decode cc pc = .ok (.goto off, 3)) : jx_KS p l e R s m args below meth c Φ G nL mc ms (pc) (jt_go b C J q K) := fun H locs cells slots ls lv st bc bs w hS hH hl hc hs h => lv_goto X.1 X.2.1 d ht (hj _ _ _ _ _ _ _ _ _ _ hS hH hl hc hs h)
theorem js_fall {b : Nat} (hj : jx_KS p l e R s m args below meth c Φ G nL mc ms (pc) (J b)) : jx_KS p l e R s m args below meth c Φ G nL mc ms (pc) (jt_go b C J q K) := hj
theorem js_gfi (X : jx_X p s m args meth c R G own nm cc nL mc ms) {ci i index N : Nat} {D : String} {T : u_T} (hcl : vwCl[ci]? = some (D, T, N)) (hin : ∀ w ∈ u_ws D T N, w ∈ jx_wl) (hi : i < N) (hw : Cond.fieldLink own index (T i).1 (T i).2.1 (T i).2.2.1 ∈ jx_wl) (d : decode cc pc = .ok (.getfield index, 3)) (hk : jx_KS p l e R s m args below meth c Φ G nL mc ms (pc + 3) (K)) : jx_KS p l e R s m args below meth c Φ G nL mc ms (pc) (jt_gfi ci i C J q K) := by
  intro H locs cells slots ls lv st bc bs w hS hH hl hc hs h
  unfold jt_gfi at h
  split at h
  · obtain ⟨fs, x, ho, hf, h⟩ := h; exact va_get X.1 X.2.1 X.2.2.2.2.1 hin X.2.2.2.1 X.2.2.2.2.2.2.1.1 (hH.one ho rfl) 0 rfl hcl i hi (X.2.2.2.2.1 _ hw) (fun _ z => z) hf d (hk _ _ _ _ _ _ _ _ _ _ hS hH hl hc hs h)
  · exact h.elim
theorem js_gfl (X : jx_X p s m args meth c R G own nm cc nL mc ms) {ci i index N : Nat} {D : String} {T : u_T} (hcl : vwCl[ci]? = some (D, T, N)) (hin : ∀ w ∈ u_ws D T N, w ∈ jx_wl) (hi : i < N) (hw : Cond.fieldLink own index (T i).1 (T i).2.1 (T i).2.2.1 ∈ jx_wl) (d : decode cc pc = .ok (.getfield index, 3)) (hk : jx_KS p l e R s m args below meth c Φ G nL mc ms (pc + 3) (K)) : jx_KS p l e R s m args below meth c Φ G nL mc ms (pc) (jt_gfl ci i C J q K) := by
  intro H locs cells slots ls lv st bc bs w hS hH hl hc hs h
  unfold jt_gfl at h
  split at h
  · obtain ⟨fs, x, ho, hf, h⟩ := h; exact va_get X.1 X.2.1 X.2.2.2.2.1 hin X.2.2.2.1 X.2.2.2.2.2.2.1.1 (hH.one ho rfl) 0 rfl hcl i hi (X.2.2.2.2.1 _ hw) (fun _ z => z) hf d (hk _ _ _ _ _ _ _ _ _ _ hS hH hl hc hs h)
  · exact h.elim
theorem js_gfr (X : jx_X p s m args meth c R G own nm cc nL mc ms) {ci i index N : Nat} {D : String} {T : u_T} (hcl : vwCl[ci]? = some (D, T, N)) (hin : ∀ w ∈ u_ws D T N, w ∈ jx_wl) (hi : i < N) (hw : Cond.fieldLink own index (T i).1 (T i).2.1 (T i).2.2.1 ∈ jx_wl) (d : decode cc pc = .ok (.getfield index, 3)) (hk : jx_KS p l e R s m args below meth c Φ G nL mc ms (pc + 3) (K)) : jx_KS p l e R s m args below meth c Φ G nL mc ms (pc) (jt_gfr ci i C J q K) := by
  intro H locs cells slots ls lv st bc bs w hS hH hl hc hs h
  unfold jt_gfr at h
  split at h
  · obtain ⟨fs, x, ho, hf, h⟩ := h; exact va_get X.1 X.2.1 X.2.2.2.2.1 hin X.2.2.2.1 X.2.2.2.2.2.2.1.1 (hH.one ho rfl) 0 rfl hcl i hi (X.2.2.2.2.1 _ hw) (fun _ z => z) hf d (hk _ _ _ _ _ _ _ _ _ _ hS hH hl hc hs h)
  · exact h.elim
theorem js_iald (X : jx_X p s m args meth c R G own nm cc nL mc ms)  (d : decode cc pc = .ok (.iaload, 1)) (hk : jx_KS p l e R s m args below meth c Φ G nL mc ms (pc + 1) (K)) : jx_KS p l e R s m args below meth c Φ G nL mc ms (pc) (jt_iald C J q K) := by
  intro H locs cells slots ls lv st bc bs w hS hH hl hc hs h
  unfold jt_iald at h
  split at h
  · obtain ⟨n, f, ho, hi, h⟩ := h; exact va_iald X.1 X.2.1 X.2.2.2.2.2.2.1.1 (hH.one ho rfl) 0 0 rfl rfl hi d (hk _ _ _ _ _ _ _ _ _ _ hS hH hl hc hs h)
  · exact h.elim
theorem js_bald (X : jx_X p s m args meth c R G own nm cc nL mc ms)  (d : decode cc pc = .ok (.baload, 1)) (hk : jx_KS p l e R s m args below meth c Φ G nL mc ms (pc + 1) (K)) : jx_KS p l e R s m args below meth c Φ G nL mc ms (pc) (jt_bald C J q K) := by
  intro H locs cells slots ls lv st bc bs w hS hH hl hc hs h
  unfold jt_bald at h
  split at h
  · obtain ⟨n, f, ho, hi, h⟩ := h; exact va_bald X.1 X.2.1 X.2.2.2.2.2.2.1.1 (hH.one ho rfl) 0 1 rfl rfl hi d (hk _ _ _ _ _ _ _ _ _ _ hS hH hl hc hs h)
  · exact h.elim
theorem jx_ro_at {w : jx_W} {H : Heap} {locs : List Loc} {a n : Nat} {f : Nat → Int32} (hF : jx_F G s) (hH : jx_H G s w H) (hS : va_S (jx_A G) s.heap H locs) (ho : jx_ro w a n f) : va_T .int a n (fun j => .int (f j)) (jx_A G) s s.heap := by
  refine (hH.2.2.1 a n f ho).kept (fun q _ hq => ?_)
  have h0 : q < s.heap.size := Nat.lt_of_lt_of_le (Nat.not_le.mp hq) hF.2.1
  exact (hS.2.1 q h0 hq).symm
theorem js_rald (X : jx_X p s m args meth c R G own nm cc nL mc ms)  (d : decode cc pc = .ok (.iaload, 1)) (hk : jx_KS p l e R s m args below meth c Φ G nL mc ms (pc + 1) (K)) : jx_KS p l e R s m args below meth c Φ G nL mc ms (pc) (jt_rald C J q K) := by
  intro H locs cells slots ls lv st bc bs w hS hH hl hc hs h
  unfold jt_rald at h
  split at h
  · obtain ⟨n, f, ho, hi, h⟩ := h; exact va_ti X.1 X.2.1 (jx_ro_at X.2.2.2.2.2.2.1 hH hS ho) hS hi rfl d (hk _ _ _ _ _ _ _ _ _ _ hS hH hl hc hs h)
  · exact h.elim
theorem js_rlen (X : jx_X p s m args meth c R G own nm cc nL mc ms)  (d : decode cc pc = .ok (.arraylength, 1)) (hk : jx_KS p l e R s m args below meth c Φ G nL mc ms (pc + 1) (K)) : jx_KS p l e R s m args below meth c Φ G nL mc ms (pc) (jt_rlen C J q K) := by
  intro H locs cells slots ls lv st bc bs w hS hH hl hc hs h
  unfold jt_rlen at h
  split at h
  · obtain ⟨n, f, ho, h⟩ := h; exact va_tlen X.1 X.2.1 (jx_ro_at X.2.2.2.2.2.2.1 hH hS ho) hS rfl d (hk _ _ _ _ _ _ _ _ _ _ hS hH hl hc hs h)
  · exact h.elim
theorem js_ilen (X : jx_X p s m args meth c R G own nm cc nL mc ms)  (d : decode cc pc = .ok (.arraylength, 1)) (hk : jx_KS p l e R s m args below meth c Φ G nL mc ms (pc + 1) (K)) : jx_KS p l e R s m args below meth c Φ G nL mc ms (pc) (jt_ilen C J q K) := by
  intro H locs cells slots ls lv st bc bs w hS hH hl hc hs h
  unfold jt_ilen at h
  split at h
  · obtain ⟨n, f, ho, h⟩ := h; exact va_alen X.1 X.2.1 X.2.2.2.2.2.2.1.1 (hH.one ho rfl) 0 0 rfl rfl rfl d (hk _ _ _ _ _ _ _ _ _ _ hS hH hl hc hs h)
  · exact h.elim
theorem js_blen (X : jx_X p s m args meth c R G own nm cc nL mc ms)  (d : decode cc pc = .ok (.arraylength, 1)) (hk : jx_KS p l e R s m args below meth c Φ G nL mc ms (pc + 1) (K)) : jx_KS p l e R s m args below meth c Φ G nL mc ms (pc) (jt_blen C J q K) := by
  intro H locs cells slots ls lv st bc bs w hS hH hl hc hs h
  unfold jt_blen at h
  split at h
  · obtain ⟨n, f, ho, h⟩ := h; exact va_alen X.1 X.2.1 X.2.2.2.2.2.2.1.1 (hH.one ho rfl) 0 1 rfl rfl rfl d (hk _ _ _ _ _ _ _ _ _ _ hS hH hl hc hs h)
  · exact h.elim
theorem js_aald (X : jx_X p s m args meth c R G own nm cc nL mc ms) {ci t0 : Nat} (ht : (jx_tys G)[t0]? = some (G.2.1 (.object (jx_nm ci)), .object (jx_nm ci))) (d : decode cc pc = .ok (.aaload, 1)) (hk : jx_KS p l e R s m args below meth c Φ G nL mc ms (pc + 1) (K)) : jx_KS p l e R s m args below meth c Φ G nL mc ms (pc) (jt_aald ci C J q K) := by
  intro H locs cells slots ls lv st bc bs w hS hH hl hc hs h
  unfold jt_aald at h
  split at h
  · obtain ⟨n, f, b, ho, hi, hb, h⟩ := h; exact va_aldq X.1 X.2.1 X.2.2.2.2.2.2.1.1 (hH.one ho rfl) 0 t0 rfl ht hi d (by rw [hb]; exact (hk _ _ _ _ _ _ _ _ _ _ hS hH hl hc hs h))
  · exact h.elim
theorem js_gs (X : jx_X p s m args meth c R G own nm cc nL mc ms) {i index : Nat} {Cn n0 d0 : String} (hi : jx_sts[i]? = some (Cn, n0, d0)) (hw : Cond.fieldLink own index Cn n0 d0 ∈ jx_wl) (d : decode cc pc = .ok (.getstatic index, 3)) (hk : jx_KS p l e R s m args below meth c Φ G nL mc ms (pc + 3) (K)) : jx_KS p l e R s m args below meth c Φ G nL mc ms (pc) (jt_gs i C J q K) := by
  intro H locs cells slots ls lv st bc bs w hS hH hl hc hs h
  unfold jt_gs at h
  rw [hH.2.1] at h
  exact va_gets X.1 X.2.1 (X.2.2.2.2.2.2.1.2.2.1 i _ hi) hS X.2.2.2.1 (X.2.2.2.2.1 _ hw) (fun _ z => z) d (hk _ _ _ _ _ _ _ _ _ _ hS hH hl hc hs h)
theorem js_oi (X : jx_X p s m args meth c R G own nm cc nL mc ms) {idx : Nat} (h1 : Cond.methodLink own idx Lib.objectInit ∈ jx_wl) (h2 : Cond.instanceMethod Lib.objectInit ∈ jx_wl) (h3 : Cond.code Lib.objectInit ⟨#[0xb1]⟩ 1 none ∈ jx_wl) (hfr : 1 ≤ R.frames) (hlo : 12 ≤ R.locals) (d : decode cc pc = .ok (.invokespecial idx, 3)) (hk : jx_KS p l e R s m args below meth c Φ G nL mc ms (pc + 3) (K)) : jx_KS p l e R s m args below meth c Φ G nL mc ms (pc) (jt_oi C J q K) := by
  intro H locs cells slots ls lv st bc bs w hS hH hl hc hs h
  unfold jt_oi at h
  split at h
  · exact W.objInit X.1 X.2.1 X.2.2.2.1 (X.2.2.2.2.1 _ h1) (X.2.2.2.2.1 _ h2) (X.2.2.2.2.1 _ h3) rfl (hl.1.trans X.2.2.1.symm) rfl d hfr (by show 2 * 0 + 0 + 12 ≤ _; omega) (hk _ _ _ _ _ _ _ _ _ _ hS hH hl hc hs h)
  · exact h.elim
end JXR
