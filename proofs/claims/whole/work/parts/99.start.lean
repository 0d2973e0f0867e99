/-! THE CLAIM OUT OF ONE WALK OF THE LAW'S BODY. Your part is whole_start (and what it stands on); all else here is the same for every law, but numbers. -/
def R_law : String := "TornStreamsLaw"
def lw_P (b : Addr) (xs : List Int32) (args : Array Value) (s : State) : Prop := args = #[.ref b] ∧ s.IntsAt b xs ∧ xs.length ≤ 1536 ∧ (Jvm.Cond.and given_1 narrow_1).before args s = true
def lw_Q (_ : Array Value) (s : State) (o : Outcome) (t : State) : Prop := o = .returned (some (.int 1)) ∧ Framed s o t [] 600000 7302250
def lw_Z (below : List Frame) (a : Array Value) (s : State) : State → Prop := fun t => ∃ o, t.status = .running ∧ Ended t below o ∧ lw_Q a s o t
/-- the law's own end, with 1 on the stack, nothing written that was there before, its room as the claim has it -/
theorem lw_ret {p : Program} {l : Launch} {e : Env} {s : State} {m : MethodId} {below : List Frame} {meth : Method} {c : Code} {b : Nat} (hx : p.tables.exec = Jvm.exec) (hb : c.code = code) (hr : meth.sig.returnType = ret) (hlocks : meth.locks = false) {pc : Nat} {H : Heap} {ls : Array Slot} (hdg : decode code pc = .ok (.ireturn, 1)) : W p l e room_1 s m #[Value.ref b] below meth c H [] 600000 7302250 (lw_Z below #[Value.ref b] s) (F0 m pc ls [.int 1]) := by
  intro T hT X
  obtain ⟨fs, hret, hrun, hended, hW, hframe⟩ := X.leave (v := some (.int 1)) (hlocks := hlocks) (fun h => by rw [hr] at h; cases h)
  have hmeth' : T.vm.method? m = some meth := X.method'
  refine ⟨T.setFrames fs, ?_, .returned (some (.int 1)), hrun, hended, rfl, ⟨_, rfl⟩, hW, hframe⟩
  jvm_step X.here [X.here.top, hx, hb, hdg, hmeth', hr, ret, narrow_b1]
  (try refine ⟨rfl, ?_⟩); (try refine ⟨rfl, ?_⟩)
  first | (intro acts; rw [hret _ acts rfl rfl rfl]) | rw [hret _ _ rfl rfl rfl]
  exact Steps.refl _
/-- what holds at the law's entry: the machine, the code, the tables' words (any of lw_tbl by 'hts w (by decide +kernel)'), the script of L ints xs at the cell b, what the Statement gives of the start (any of its parts by flat_of_before) -/
def lw_At (p : Program) (s : State) (m : MethodId) (meth : Method) (c : Code) (b L : Nat) (xs : Nat → Int32) : Prop :=
  p.tables.exec = Jvm.exec ∧ c.code = code ∧ meth.sig.returnType = ret ∧ c.maxLocals = 4 ∧ s.vm.findClass R_law = some m.cls ∧ (∀ w ∈ lw_tbl, w.before #[Value.ref b] s = true) ∧ va_X b L xs s s.heap ∧ b < s.heap.size ∧ meth.locks = false ∧ (Jvm.Cond.and given_1 narrow_1).before #[Value.ref b] s = true ∧ meth.name = "law"
theorem jx_nest_in : ∀ q ∈ jx_nest, Cond.methodLinkNest q.1 q.2.1 q.2.2.1 q.2.2.2 ∈ lw_tbl := List.forall_mem_cons.mpr ⟨List.mem_of_getElem? (i := 99) (by decide +kernel), List.forall_mem_cons.mpr ⟨List.mem_of_getElem? (i := 144) (by decide +kernel), List.forall_mem_cons.mpr ⟨List.mem_of_getElem? (i := 182) (by decide +kernel), List.forall_mem_cons.mpr ⟨List.mem_of_getElem? (i := 633) (by decide +kernel), fun _ h => by cases h⟩⟩⟩⟩
/-- two things that are said of one array of ints agree -/
theorem va_T_same {t N N' : Nat} {f f' : Nat → Value} {A : Nat → Prop} {U : State} {H : Heap} (h : va_T .int t N f A U H) (h' : va_T .int t N' f' A U H) (hN : N < 2 ^ 31) (hN' : N' < 2 ^ 31) : N = N' ∧ ∀ j, j < N → f j = f' j := by
  obtain ⟨cell, h1, -, -, h2, h3, h4, -⟩ := h
  obtain ⟨cell', g1, -, -, g2, g3, g4, -⟩ := h'
  rw [h1] at g1
  cases g1
  have e : N = N' := (nI_eq hN hN').mp (h3.symm.trans g3)
  subst e
  exact ⟨rfl, fun j hj => Option.some.inj ((h4 j hj).symm.trans (g4 j hj))⟩
/-- the store at the law's entry -/
def lw_w0 (n b L z0 z1 : Nat) (xs : Nat → Int32) : jx_W := (n, fun i => if i = 0 then z0 else z1, fun a => if a = b then some (.inl (.short, L, .inl xs)) else if a = z0 then some (.inl (.short, 3, .inl (fun j => if j = 2 then 1 else 0))) else if a = z1 then some (.inl (.short, 3, .inl (fun j => if j = 0 then 3 else if j = 1 then 15 else 40))) else none)
theorem va_X_T {b L : Nat} {xs : Nat → Int32} {A : Nat → Prop} {U : State} {H : Heap} (h : va_X b L xs U H) (hb : ¬ A b) : va_T .int b L (fun j => .int (xs j)) A U H := by
  obtain ⟨scr, h1, h2, h3, h4, h5⟩ := h
  exact ⟨scr, h1, h2, h3, Nat.le_of_eq h4.symm, by rw [h4] <;> rfl, h5, hb⟩
set_option maxHeartbeats 4000000 in
set_option maxRecDepth 100000 in
theorem whole_start {p : Program} {e : Env} {s : State} {m : MethodId} {below : List Frame} {meth : Method} {c : Code} (l : Launch) (hflags : l.flags = flags0) {b L : Nat} {xs : Nat → Int32} (hL : L ≤ 1536) (C0 : lw_At p s m meth c b L xs) : W p l e room_1 s m #[Value.ref b] below meth c s.heap [] 0 0 (lw_Z below #[Value.ref b] s) (entryFrame m ([Value.ref b] : List Value).toArray 4) := by
  obtain ⟨hx, hb, hr, hml, hown, hts0, hX, hbl, hlocks, hgv, hnm⟩ := C0
  have hts : ∀ w ∈ jx_wl, w.before #[Value.ref b] s = true := fun w hw => hts0 w (List.mem_filter.mp hw).1
  have hw : ∀ (j : Nat) (w : Cond), lw_tbl[j]? = some w → w.before #[Value.ref b] s = true := fun j w h => hts0 w (List.mem_of_getElem? h)
  obtain ⟨c0, iS0, hKn0⟩ := u_known (C := RX0) (T := TX0) (N := 9) (n := 9) hts jx_in0 (hw 98 _ (by decide +kernel))
  obtain ⟨c1, iS1, hKn1⟩ := u_known (C := RX1) (T := TX1) (N := 8) (n := 8) hts jx_in1 (hw 143 _ (by decide +kernel))
  obtain ⟨c2, iS2, hKn2⟩ := u_known (C := RX2) (T := TX2) (N := 12) (n := 12) hts jx_in2 (hw 196 _ (by decide +kernel))
  obtain ⟨c3, iS3, hKn3⟩ := u_known (C := RX3) (T := TX3) (N := 15) (n := 15) hts jx_in3 (hw 228 _ (by decide +kernel))
  obtain ⟨c4, iS4, hKn4⟩ := u_known (C := RX4) (T := TX4) (N := 4) (n := 4) hts jx_in4 (hw 202 _ (by decide +kernel))
  obtain ⟨c5, iS5, hKn5⟩ := u_known (C := RX5) (T := TX5) (N := 6) (n := 6) hts jx_in5 (hw 141 _ (by decide +kernel))
  obtain ⟨c6, iS6, hKn6⟩ := u_known (C := RX6) (T := TX6) (N := 2) (n := 2) hts jx_in6 (hw 181 _ (by decide +kernel))
  obtain ⟨c7, iS7, hKn7⟩ := u_known (C := RX7) (T := TX7) (N := 8) (n := 8) hts jx_in7 (hw 90 _ (by decide +kernel))
  obtain ⟨c8, iS8, hKn8⟩ := u_known (C := RX8) (T := TX8) (N := 17) (n := 17) hts jx_in8 (hw 814 _ (by decide +kernel))
  obtain ⟨dC, dI, hKc⟩ : ∃ (dC : Nat → ClassId) (dI : Nat → Nat → Nat), ∀ (k : Nat) (q : vw_C), vwCl[k]? = some q → u_Kn s q.1 q.2.1 q.2.2 (dC k) (dI k) := by
    refine ⟨fun k => if k = 0 then c0 else if k = 1 then c1 else if k = 2 then c2 else if k = 3 then c3 else if k = 4 then c4 else if k = 5 then c5 else if k = 6 then c6 else if k = 7 then c7 else c8, fun k => if k = 0 then iS0 else if k = 1 then iS1 else if k = 2 then iS2 else if k = 3 then iS3 else if k = 4 then iS4 else if k = 5 then iS5 else if k = 6 then iS6 else if k = 7 then iS7 else iS8, ?_⟩
    intro k q hq
    match k, hq with
    | 0, hq => cases hq; exact hKn0
    | 1, hq => cases hq; exact hKn1
    | 2, hq => cases hq; exact hKn2
    | 3, hq => cases hq; exact hKn3
    | 4, hq => cases hq; exact hKn4
    | 5, hq => cases hq; exact hKn5
    | 6, hq => cases hq; exact hKn6
    | 7, hq => cases hq; exact hKn7
    | 8, hq => cases hq; exact hKn8
    | k + 9, hq => simp [vwCl] at hq
  obtain ⟨ai, ki, pi, hai1, hai2, hai3⟩ := Cond.arrayClass_spec (hw 139 (.arrayClass .int) (by decide +kernel))
  obtain ⟨ab, kb, pb, hab1, hab2, hab3⟩ := Cond.arrayClass_spec (hw 138 (.arrayClass .byte) (by decide +kernel))
  have haf0 := hw 195 (.arrayOver (.object "TornStreams$Flow")) (by decide +kernel)
  have has0 := hw 361 (.arrayOver (.object "TornStreams$State")) (by decide +kernel)
  obtain ⟨pf, af, kf, haf1, haf2, haf3, haf4, haf5⟩ := Cond.arrayOver_spec haf0
  obtain ⟨ps, as, ks, has1, has2, has3, has4, has5⟩ := Cond.arrayOver_spec has0
  have hA0 : ∀ a : Nat, a < s.heap.size → ¬ (fun q : Nat => s.heap.size ≤ q) a := fun a h => Nat.not_le.mpr h
  have hfl := flat_of_before _ hgv
  have hini : (Cond.initialized "TornStreams").before #[Value.ref b] s = true := hw 75 _ (by decide +kernel)
  obtain ⟨z0, hz0, hT0⟩ : ∃ t : Nat, (Term.static "TornStreams" "LOWEST_SETTING" "[I").eval #[Value.ref b] s none [] s = some (.ref t) ∧ va_T .int t 3 (fun j => Value.int (if j = 2 then 1 else 0)) (fun q : Nat => s.heap.size ≤ q) s s.heap := by
    refine va_Tof (by decide) (hfl (Cond.arrayOf (Term.static "TornStreams" "LOWEST_SETTING" "[I") .int) (by decide +kernel)) (va_eqt (z := 3) (hfl (Cond.eq (Term.length (Term.static "TornStreams" "LOWEST_SETTING" "[I")) (.int 3)) (by decide +kernel))) (fun j hj => ?_) hA0
    match j, hj with
    | 0, _ => exact va_eqt (z := 0) (hfl (Cond.eq (Term.elem (Term.static "TornStreams" "LOWEST_SETTING" "[I") (.int 0)) (.int 0)) (by decide +kernel))
    | 1, _ => exact va_eqt (z := 0) (hfl (Cond.eq (Term.elem (Term.static "TornStreams" "LOWEST_SETTING" "[I") (.int 1)) (.int 0)) (by decide +kernel))
    | 2, _ => exact va_eqt (z := 1) (hfl (Cond.eq (Term.elem (Term.static "TornStreams" "LOWEST_SETTING" "[I") (.int 2)) (.int 1)) (by decide +kernel))
    | j + 3, hj => exact absurd hj (by omega)
  have hZ0 := va_Zref (A := fun q : Nat => s.heap.size ≤ q) (hw 542 (.laysStatic "TornStreams" "LOWEST_SETTING" "[I") (by decide +kernel)) hini hz0 hA0
  obtain ⟨z1, hz1, hT1⟩ : ∃ t : Nat, (Term.static "TornStreams" "HIGHEST_SETTING" "[I").eval #[Value.ref b] s none [] s = some (.ref t) ∧ va_T .int t 3 (fun j => Value.int (if j = 0 then 3 else if j = 1 then 15 else 40)) (fun q : Nat => s.heap.size ≤ q) s s.heap := by
    refine va_Tof (by decide) (hfl (Cond.arrayOf (Term.static "TornStreams" "HIGHEST_SETTING" "[I") .int) (by decide +kernel)) (va_eqt (z := 3) (hfl (Cond.eq (Term.length (Term.static "TornStreams" "HIGHEST_SETTING" "[I")) (.int 3)) (by decide +kernel))) (fun j hj => ?_) hA0
    match j, hj with
    | 0, _ => exact va_eqt (z := 3) (hfl (Cond.eq (Term.elem (Term.static "TornStreams" "HIGHEST_SETTING" "[I") (.int 0)) (.int 3)) (by decide +kernel))
    | 1, _ => exact va_eqt (z := 15) (hfl (Cond.eq (Term.elem (Term.static "TornStreams" "HIGHEST_SETTING" "[I") (.int 1)) (.int 15)) (by decide +kernel))
    | 2, _ => exact va_eqt (z := 40) (hfl (Cond.eq (Term.elem (Term.static "TornStreams" "HIGHEST_SETTING" "[I") (.int 2)) (.int 40)) (by decide +kernel))
    | j + 3, hj => exact absurd hj (by omega)
  have hZ1 := va_Zref (A := fun q : Nat => s.heap.size ≤ q) (hw 544 (.laysStatic "TornStreams" "HIGHEST_SETTING" "[I") (by decide +kernel)) hini hz1 hA0
  have hTb : va_T .int b L (fun j => .int (xs j)) (fun q : Nat => s.heap.size ≤ q) s s.heap := va_X_T hX (hA0 b hbl)
  obtain ⟨AC, hAC⟩ : ∃ AC : FieldType → ClassId, AC .int = ai ∧ AC .byte = ab ∧ AC (.object RX2) = af ∧ AC (.object RX5) = as := ⟨fun t => if t = .int then ai else if t = .byte then ab else if t = .object RX2 then af else as, if_pos rfl, (if_neg (by decide +kernel)).trans (if_pos rfl), (if_neg (by decide +kernel)).trans ((if_neg (by decide +kernel)).trans (if_pos rfl)), (if_neg (by decide +kernel)).trans ((if_neg (by decide +kernel)).trans (if_neg (by decide +kernel)))⟩
  obtain ⟨hAC1, hAC2, hAC3, hAC4⟩ := hAC
  let G : jx_G := ((dC, dI), AC, s.heap.size, fun i => if i = 0 then z0 else z1)
  have hK : va_K (dC, dI) vwCl (jx_tys G) s := by
    refine ⟨hKc, fun k q hq => ?_⟩
    match k, hq with
    | 0, hq => cases hq; refine ⟨?_, ?_⟩ <;> show _ <;> dsimp only [G] <;> rw [hAC1]
               · exact fun n z => ⟨fun k h => (by cases h), ki, hai2, pi, hai3⟩
               · exact hai1
    | 1, hq => cases hq; refine ⟨?_, ?_⟩ <;> show _ <;> dsimp only [G] <;> rw [hAC2]
               · exact fun n z => ⟨fun k h => (by cases h), kb, hab2, pb, hab3⟩
               · exact hab1
    | 2, hq => cases hq; refine ⟨?_, ?_⟩ <;> show _ <;> dsimp only [G] <;> rw [hAC3]
               · exact fun n z => ⟨fun k h => (by cases h), kf, haf3, pf, haf4⟩
               · exact ⟨kf, pf, haf3, haf4, haf1, haf5⟩
    | 3, hq => cases hq; refine ⟨?_, ?_⟩ <;> show _ <;> dsimp only [G] <;> rw [hAC4]
               · exact fun n z => ⟨fun k h => (by cases h), ks, has3, ps, has4⟩
               · exact ⟨ks, ps, has3, has4, has1, has5⟩
    | k + 4, hq => cases hq
  have hF : jx_F G s := by
    refine ⟨hK, Nat.le_refl _, fun i q hi => ?_, va_AO.of haf0, va_AO.of has0, fun q hq => ?_⟩
    · match i, hi with
      | 0, hi => cases hi; exact hZ0
      | 1, hi => cases hi; exact hZ1
      | i + 2, hi => cases hi
    · exact va_Nw.of rfl (hts0 _ (jx_nest_in q hq))
  have hz0l : z0 < s.heap.size := by obtain ⟨cell, h1, -⟩ := hT0; exact (Array.getElem?_eq_some_iff.mp h1).1
  have hz1l : z1 < s.heap.size := by obtain ⟨cell, h1, -⟩ := hT1; exact (Array.getElem?_eq_some_iff.mp h1).1
  have hH : jx_H G s (lw_w0 s.heap.size b L z0 z1 xs) s.heap := by
    refine ⟨rfl, rfl, fun a n f ha => ?_, fun a e0 ha ho => ?_⟩
    · have ha' : (if a = b then some (.inl (.short, L, .inl xs)) else if a = z0 then some (.inl (.short, 3, .inl (fun j => if j = 2 then 1 else 0))) else if a = z1 then some (.inl (.short, 3, .inl (fun j => if j = 0 then 3 else if j = 1 then 15 else 40))) else none : Option jx_E) = some (.inl (.short, n, .inl f)) := ha
      split at ha'
      · rename_i h; cases ha'; rw [h]; exact hTb
      · split at ha'
        · rename_i h; cases ha'; rw [h]; exact hT0
        · split at ha'
          · rename_i h; cases ha'; rw [h]; exact hT1
          · cases ha'
    · have ha' : (if a = b then some (.inl (.short, L, .inl xs)) else if a = z0 then some (.inl (.short, 3, .inl (fun j => if j = 2 then 1 else 0))) else if a = z1 then some (.inl (.short, 3, .inl (fun j => if j = 0 then 3 else if j = 1 then 15 else 40))) else none : Option jx_E) = some e0 := ha
      split at ha'
      · cases ha'; cases ho
      · split at ha'
        · cases ha'; cases ho
        · split at ha'
          · cases ha'; cases ho
          · cases ha'
  have hX0 : jx_X p s m #[Value.ref b] meth c (jx_rm (zz.1 n_L_law).1) G (zz.1 n_L_law).1.1.cls (zz.1 n_L_law).1.1.name (zz.1 n_L_law).1.2.1 (zz.1 n_L_law).1.2.2.1 (zz.1 n_L_law).1.2.2.2.2.1.1 (zz.1 n_L_law).1.2.2.2.2.1.2 := ⟨hx, hb, hml, hown, hts, hnm, hF, rfl, rfl⟩
  have hR : jx_RS p l e (jx_rm (zz.1 n_L_law).1) s m #[Value.ref b] below meth c (lw_Z below #[Value.ref b] s) G 600000 7302250 code ret (fun _ r => r = some (.int 1)) := by
    intro H locs ls pc w r hS hH hq hd
    subst hq
    exact va_forget (fun q hq => hS.2.2 q hq) (lw_ret hx hb hr hlocks hd.1)
  have hl := lv_entry ([.ref b]) (n := 4) (Nat.le_of_ble_eq_true rfl)
  rw [lg_entry_eq]
  have hrun : zwp n_L_law 0 [(0, .ref b)] [] 600000 7302250 (lw_w0 s.heap.size b L z0 z1 xs) (fun _ r => r = some (.int 1)) := by
    refine law_run (xs := xs) hL ?_ ?_ ?_ hbl hz0l hz1l (fun a ha => ?_)
    · show (if b = b then _ else _) = _
      rw [if_pos rfl]
    · by_cases h0 : z0 = b
      · subst h0
        obtain ⟨e1, e2⟩ := va_T_same hT0 hTb (by decide) (by omega)
        refine ⟨xs, ?_, ?_, ?_, ?_⟩
        · show (if z0 = z0 then _ else _) = _
          rw [if_pos rfl, ← e1]
        · exact (Value.int.inj (e2 0 (by decide))).symm
        · exact (Value.int.inj (e2 1 (by decide))).symm
        · exact (Value.int.inj (e2 2 (by decide))).symm
      · refine ⟨(fun j => if j = 2 then 1 else 0), ?_, rfl, rfl, rfl⟩
        show (if z0 = b then _ else if z0 = z0 then _ else _) = _
        rw [if_neg h0, if_pos rfl]
    · by_cases h0 : z1 = b
      · subst h0
        obtain ⟨e1, e2⟩ := va_T_same hT1 hTb (by decide) (by omega)
        refine ⟨xs, ?_, ?_, ?_, ?_⟩
        · show (if z1 = z1 then _ else _) = _
          rw [if_pos rfl, ← e1]
        · exact (Value.int.inj (e2 0 (by decide))).symm
        · exact (Value.int.inj (e2 1 (by decide))).symm
        · exact (Value.int.inj (e2 2 (by decide))).symm
      · by_cases h1 : z1 = z0
        · subst h1
          obtain ⟨e1, e2⟩ := va_T_same hT1 hT0 (by decide) (by decide)
          have := Value.int.inj (e2 0 (by decide))
          exact absurd this (by decide)
        · refine ⟨(fun j => if j = 0 then 3 else if j = 1 then 15 else 40), ?_, rfl, rfl, rfl⟩
          show (if z1 = b then _ else if z1 = z0 then _ else if z1 = z1 then _ else _) = _
          rw [if_neg h0, if_neg h1, if_pos rfl]
    · show (if a = b then _ else if a = z0 then _ else if a = z1 then _ else _) = _
      have ha : s.heap.size ≤ a := ha
      rw [if_neg (by omega), if_neg (by omega), if_neg (by omega)]
  exact jx_sound jx_vld hrun G p e s m #[Value.ref b] below meth c _ hX0 hR s.heap [] 0 0 _ va_S.rf hH hl rfl rfl
-- ===== YOUR PART ENDS =====
set_option maxHeartbeats 4000000 in
theorem lw_walk (l : Launch) (hflags : l.flags = flags0) (b : Addr) (xs : List Int32) : MetFree l x (headSpec (Jvm.Cond.code x code maxLocals ret :: tables_1) room_1) (lw_P b xs) (fun _ _ _ _ _ => True) lw_Q := by
  refine MetFree.of_bodyS (code := code) (maxLocals := maxLocals) (ret := ret) (by decide) ?_ ?_
  · intro args s m h hn
    obtain ⟨meth, c, h1, h2, h3, h4, h5, h6, -, -⟩ := Cond.code_spec hn (atoms_spec (ws := Jvm.Cond.code x code maxLocals ret :: tables_1) h _ List.mem_cons_self)
    exact ⟨meth, c, h1, h2, h3, h4, h5, h6⟩
  · intro p e s m args below meth c s₁ B hml0 hP _
    obtain ⟨rfl, hx, hbd, hgv⟩ := hP
    obtain ⟨scr, harrAt, hlist, hof, hsmall⟩ := hx
    obtain ⟨hcb, hkn, -, -⟩ := State.arrayAt?_spec harrAt
    have hown : s.vm.findClass R_law = some m.cls := findClass_of_methodNamed B.named
    have hts0 : ∀ c ∈ (Jvm.Cond.code x code maxLocals ret :: tables_1), c.before #[Value.ref b] s = true := atoms_spec (ws := Jvm.Cond.code x code maxLocals ret :: tables_1) B.pre
    have hts : ∀ w ∈ lw_tbl, w.before #[Value.ref b] s = true := k2_hts_sels lw_privs (fun w hw => hts0 w (List.mem_cons_of_mem _ hw)) lw_privs_ok
    have hml : c.maxLocals = 4 := B.maxLocals_eq (hts0 _ List.mem_cons_self)
    have X₀ : Stand p l e room_1 s m #[Value.ref b] below meth c s₁ [] 0 0 := Stand.of_body B
    have hh0 : s₁.heap = s.heap := by rw [B.state]; rfl
    have hsz : scr.slots.size = xs.length := by rw [← Array.length_toList, hlist, List.length_map]
    have hval : ∀ j : Nat, j < xs.length → scr.slots[j]? = some (.int (xs.getD j 0)) := fun j hj => by
      rw [← Array.getElem?_toList, hlist]
      simp [hj]
    have hbl : b < s.heap.size := (Array.getElem?_eq_some_iff.mp hcb).1
    have hX : va_X b xs.length (fun j => xs.getD j 0) s s.heap := ⟨scr, hcb, hof, hkn, hsz, hval⟩
    have K : W p l e room_1 s m #[Value.ref b] below meth c s₁.heap [] 0 0 (lw_Z below #[Value.ref b] s) (entryFrame m ([Value.ref b] : List Value).toArray 4) := by
      rw [hh0]
      exact whole_start l hflags hbd ⟨B.exec, B.bytes, B.returns, hml, hown, hts, hX, hbl, B.notSynchronized, hgv, (name_of_methodNamed B.named B.method).1⟩
    obtain ⟨t, a1, o, b1, b2, b3⟩ := K s₁ rfl X₀
    exact ⟨t, o, a1, b1, b2, b3⟩
theorem lw_pre_spec {args : Array Value} {s : State} (h : (Jvm.Cond.and given_1 narrow_1).before args s = true) (hr : rest_1_c.before args s = true) : ∃ (b : Addr) (xs : List Int32), lw_P b xs args s := by
  have hs := flat_of_before _ h
  have hq := flat_of_before _ hr
  have hc : (Cond.count 1).before args s = true := hs _ (by decide +kernel)
  have harr : (Cond.arrayOf (.arg 0) .int).before args s = true := hs _ (by decide +kernel)
  have hle : (Cond.le (.length (.arg 0)) (.int 1536)).before args s = true := hs _ (by decide +kernel)
  have hlen : (Cond.isInt (.length (.arg 0))).before args s = true := hq _ (by decide +kernel)
  have hall : (Cond.all (.arg 0) (.isInt (.elem (.arg 0) (.index 0)))).before args s = true := hq _ (by decide +kernel)
  obtain ⟨b, xs, hb, hx⟩ := State.ints_of_pre rfl harr hlen hall
  have hsm : xs.length < 2 ^ 31 := hx.choose_spec.2.2.2
  have hev : (Term.length (.arg 0)).eval args s none [] s = some (.int xs.length.toInt32) := hx.length_eval hb
  have hv := Cond.le_ints hev (show (Term.int 1536).eval args s none [] s = some (.int 1536) from rfl)
  have hd : xs.length.toInt32 ≤ 1536 := by
    simpa [Cond.before, Cond.holds, hv] using hle
  have hN : xs.length ≤ 1536 := (Int32.ofNat_le_ofNat hsm (by decide)).mp (show Int32.ofNat xs.length ≤ Int32.ofNat 1536 from hd)
  exact ⟨b, xs, Cond.one_arg hc (show args[0]? = some (.ref b) from hb), hx, hN, h⟩
theorem lw_comes (l : Launch) (hflags : l.flags = flags0) : Comes l x (Jvm.Cond.code x code maxLocals ret :: tables_1) room_1 (fun tb e args s => Calls_1 tb e args s ∧ rest_1 tb e args s ∧ Pre_1 tb e args s)
    (fun _ _ args s o t => lw_Q args s o t) := by
  intro p e ha hc hk s m args below hf hfit hheap happ hpre
  obtain ⟨b, xs, hP⟩ := lw_pre_spec hpre.2.2 hpre.2.1
  obtain ⟨k, o, h1, h2, h3, hQ⟩ := lw_walk l hflags b xs p e ha hc hk s m args below hf ((Spec.applies_iff_loose hf).mp happ).1 hP trivial
  exact ⟨k, o, h1, h2, h3, hQ⟩
theorem lw_frame {s t : State} {o : Outcome} {args : Array Value} (h : Framed s o t [] 600000 7302250) :
    Framed s o t (fieldLocs frame_1_writes args s ++ arrayLocs frame_1_arrays args s ++ staticLocs frame_1_statics s) 600000 7302250 := h
theorem lw_limb (L : Cond) (hL : ∀ (args : Array Value) (s t : State), L.after args s (.returned (some (.int 1))) t = true) :
    ArmFor flags0 classFile x code maxLocals ret World_1 tables_1 room_1 Calls_1 rest_1 Pre_1
      (fun tb e a s o t => postC L tb e a s o t ∧ Framed s o t (fieldLocs frame_1_writes a s ++ arrayLocs frame_1_arrays a s ++ staticLocs frame_1_statics s) 600000 7302250) := by
  intro l hflags _ _ p e ha hc hk s m args below hf hfit hheap happ hpre
  obtain ⟨k, o, h1, h2, h3, rfl, hF⟩ := lw_comes l hflags p e ha hc hk s m args below hf hfit hheap happ hpre
  exact ⟨k, _, h1, h2, h3, hL args s _, lw_frame hF⟩
theorem i_vc : Claimed_1_1 ∧ Claimed_1_2 := ⟨lw_limb limb_1_1 (fun args s t => by simp [limb_1_1, Cond.after, Cond.holds, Cond.value]), lw_limb limb_1_2 (fun args s t => Cond.after_iff.mpr (by
  first | (rw [show limb_1_2 = Cond.eq .result (.int 1) from rfl, Cond.eq_ints (x := 1) (y := 1) rfl rfl]; simp; done) | (simp [limb_1_2, Cond.value, Term.eval]; done)))⟩
