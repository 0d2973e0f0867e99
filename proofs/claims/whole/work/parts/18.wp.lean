/-! WHAT A RUN OF THE PLAIN MACHINE COMES TO: the least predicate that is closed under its steps; and that it is sound -/
def jx_le (C C' : jx_C) : Prop := ∀ (y : Nat) (As : List Value) (w : jx_W) (K K' : jx_Q), (∀ w r, K w r → K' w r) → C y As w K → C' y As w K'
def jx_Mo (τ : jx_T) : Prop := ∀ (C C' : jx_C) (J J' : jx_J) (q q' : jx_Q) (k k' : jx_K), jx_le C C' → (∀ b lv st bc bs w, J b lv st bc bs w → J' b lv st bc bs w) → (∀ w r, q w r → q' w r) → (∀ lv st bc bs w, k lv st bc bs w → k' lv st bc bs w) → ∀ lv st bc bs w, τ C J q k lv st bc bs w → τ C' J' q' k' lv st bc bs w
theorem jm_bad : jx_Mo jt_bad := fun _ _ _ _ _ _ _ _ _ _ _ _ _ _ _ _ _ h => h.elim
theorem jm_c (v : Value) : jx_Mo (jt_c v) := by
  intro C C' J J' q q' k k' hC hJ hq hk lv st bc bs w h
  exact hk _ _ _ _ _ h
theorem jm_ldi (i : Nat) : jx_Mo (jt_ldi i) := by
  intro C C' J J' q q' k k' hC hJ hq hk lv st bc bs w h
  unfold jt_ldi at h ⊢
  split at h
  · exact hk _ _ _ _ _ h
  · exact h.elim
theorem jm_ldl (i : Nat) : jx_Mo (jt_ldl i) := by
  intro C C' J J' q q' k k' hC hJ hq hk lv st bc bs w h
  unfold jt_ldl at h ⊢
  split at h
  · exact hk _ _ _ _ _ h
  · exact h.elim
theorem jm_lda (i : Nat) : jx_Mo (jt_lda i) := by
  intro C C' J J' q q' k k' hC hJ hq hk lv st bc bs w h
  unfold jt_lda at h ⊢
  split at h
  · exact hk _ _ _ _ _ h
  · exact h.elim
theorem jm_inc (i : Nat) (v : Int32) : jx_Mo (jt_inc i v) := by
  intro C C' J J' q q' k k' hC hJ hq hk lv st bc bs w h
  unfold jt_inc at h ⊢
  split at h
  · exact hk _ _ _ _ _ h
  · exact h.elim
theorem jm_sti (i : Nat) : jx_Mo (jt_sti i) := by
  intro C C' J J' q q' k k' hC hJ hq hk lv st bc bs w h
  unfold jt_sti at h ⊢
  split at h
  · exact hk _ _ _ _ _ h
  · exact h.elim
theorem jm_stl (i : Nat) : jx_Mo (jt_stl i) := by
  intro C C' J J' q q' k k' hC hJ hq hk lv st bc bs w h
  unfold jt_stl at h ⊢
  split at h
  · exact hk _ _ _ _ _ h
  · exact h.elim
theorem jm_sta (i : Nat) : jx_Mo (jt_sta i) := by
  intro C C' J J' q q' k k' hC hJ hq hk lv st bc bs w h
  unfold jt_sta at h ⊢
  split at h
  · exact hk _ _ _ _ _ h
  · exact h.elim
theorem jm_ii (f : Int32 → Int32 → Int32) : jx_Mo (jt_ii f) := by
  intro C C' J J' q q' k k' hC hJ hq hk lv st bc bs w h
  unfold jt_ii at h ⊢
  split at h
  · exact hk _ _ _ _ _ h
  · exact h.elim
theorem jm_ll (f : Int64 → Int64 → Int64) : jx_Mo (jt_ll f) := by
  intro C C' J J' q q' k k' hC hJ hq hk lv st bc bs w h
  unfold jt_ll at h ⊢
  split at h
  · exact hk _ _ _ _ _ h
  · exact h.elim
theorem jm_li (f : Int64 → Int32 → Int64) : jx_Mo (jt_li f) := by
  intro C C' J J' q q' k k' hC hJ hq hk lv st bc bs w h
  unfold jt_li at h ⊢
  split at h
  · exact hk _ _ _ _ _ h
  · exact h.elim
theorem jm_lcmp : jx_Mo (jt_lcmp) := by
  intro C C' J J' q q' k k' hC hJ hq hk lv st bc bs w h
  unfold jt_lcmp at h ⊢
  split at h
  · exact hk _ _ _ _ _ h
  · exact h.elim
theorem jm_i2l : jx_Mo (jt_i2l) := by
  intro C C' J J' q q' k k' hC hJ hq hk lv st bc bs w h
  unfold jt_i2l at h ⊢
  split at h
  · exact hk _ _ _ _ _ h
  · exact h.elim
theorem jm_l2i : jx_Mo (jt_l2i) := by
  intro C C' J J' q q' k k' hC hJ hq hk lv st bc bs w h
  unfold jt_l2i at h ⊢
  split at h
  · exact hk _ _ _ _ _ h
  · exact h.elim
theorem jm_i2b : jx_Mo (jt_i2b) := by
  intro C C' J J' q q' k k' hC hJ hq hk lv st bc bs w h
  unfold jt_i2b at h ⊢
  split at h
  · exact hk _ _ _ _ _ h
  · exact h.elim
theorem jm_dup2 : jx_Mo (jt_dup2) := by
  intro C C' J J' q q' k k' hC hJ hq hk lv st bc bs w h
  unfold jt_dup2 at h ⊢
  split at h
  · exact hk _ _ _ _ _ h
  · exact h.elim
theorem jm_oi : jx_Mo (jt_oi) := by
  intro C C' J J' q q' k k' hC hJ hq hk lv st bc bs w h
  unfold jt_oi at h ⊢
  split at h
  · exact hk _ _ _ _ _ h
  · exact h.elim
theorem jm_irem : jx_Mo (jt_irem) := by
  intro C C' J J' q q' k k' hC hJ hq hk lv st bc bs w h
  unfold jt_irem at h ⊢
  split at h
  · exact ⟨h.1, hk _ _ _ _ _ h.2⟩
  · exact h.elim
theorem jm_dup : jx_Mo (jt_dup) := by
  intro C C' J J' q q' k k' hC hJ hq hk lv st bc bs w h
  unfold jt_dup at h ⊢
  split at h
  · exact hk _ _ _ _ _ h
  · exact hk _ _ _ _ _ h
  · exact h.elim
theorem jm_pop : jx_Mo (jt_pop) := by
  intro C C' J J' q q' k k' hC hJ hq hk lv st bc bs w h
  unfold jt_pop at h ⊢
  split at h
  · exact hk _ _ _ _ _ h
  · exact hk _ _ _ _ _ h
  · exact h.elim
theorem jm_if (f : Int32 → Prop) (g : Int32 → Prop) (b : Nat) : jx_Mo (jt_if f g b) := by
  intro C C' J J' q q' k k' hC hJ hq hk lv st bc bs w h
  unfold jt_if at h ⊢
  split at h
  · exact ⟨fun z => hJ _ _ _ _ _ _ (h.1 z), fun z => hk _ _ _ _ _ (h.2 z)⟩
  · exact h.elim
theorem jm_cmp (f : Int32 → Int32 → Prop) (g : Int32 → Int32 → Prop) (b : Nat) : jx_Mo (jt_cmp f g b) := by
  intro C C' J J' q q' k k' hC hJ hq hk lv st bc bs w h
  unfold jt_cmp at h ⊢
  split at h
  · exact ⟨fun z => hJ _ _ _ _ _ _ (h.1 z), fun z => hk _ _ _ _ _ (h.2 z)⟩
  · exact h.elim
theorem jm_go (b : Nat) : jx_Mo (jt_go b) := by
  intro C C' J J' q q' k k' hC hJ hq hk lv st bc bs w h
  exact hJ _ _ _ _ _ _ h
theorem jx_sw_mono {x : Int32} {lo : Int} {d : Nat} {jj jj' : Nat → Prop} (hj : ∀ b, jj b → jj' b) : ∀ (l : List Nat) (n : Int), jx_sw x lo d jj l n → jx_sw x lo d jj' l n
  | [], n, h => fun z => hj _ (h z)
  | b :: t, n, h => ⟨fun z => hj _ (h.1 z), jx_sw_mono hj t (n + 1) h.2⟩
theorem jm_sw (lo : Int) (d : Nat) (bs0 : List Nat) : jx_Mo (jt_sw lo d bs0) := by
  intro C C' J J' q q' k k' hC hJ hq hk lv st bc bs w h
  unfold jt_sw at h ⊢
  split at h
  · exact jx_sw_mono (fun b hb => hJ _ _ _ _ _ _ hb) _ _ h
  · exact h.elim
theorem jm_gfi (ci : Nat) (i : Nat) : jx_Mo (jt_gfi ci i) := by
  intro C C' J J' q q' k k' hC hJ hq hk lv st bc bs w h
  unfold jt_gfi at h ⊢
  split at h
  · obtain ⟨fs, x, h1, h2, h⟩ := h; exact ⟨fs, x, h1, h2, hk _ _ _ _ _ h⟩
  · exact h.elim
theorem jm_gfl (ci : Nat) (i : Nat) : jx_Mo (jt_gfl ci i) := by
  intro C C' J J' q q' k k' hC hJ hq hk lv st bc bs w h
  unfold jt_gfl at h ⊢
  split at h
  · obtain ⟨fs, x, h1, h2, h⟩ := h; exact ⟨fs, x, h1, h2, hk _ _ _ _ _ h⟩
  · exact h.elim
theorem jm_gfr (ci : Nat) (i : Nat) : jx_Mo (jt_gfr ci i) := by
  intro C C' J J' q q' k k' hC hJ hq hk lv st bc bs w h
  unfold jt_gfr at h ⊢
  split at h
  · obtain ⟨fs, x, h1, h2, h⟩ := h; exact ⟨fs, x, h1, h2, hk _ _ _ _ _ h⟩
  · exact h.elim
theorem jm_pfi (ci : Nat) (i : Nat) : jx_Mo (jt_pfi ci i) := by
  intro C C' J J' q q' k k' hC hJ hq hk lv st bc bs w h
  unfold jt_pfi at h ⊢
  split at h
  · obtain ⟨fs, h1, h2, h⟩ := h; exact ⟨fs, h1, h2, hk _ _ _ _ _ h⟩
  · exact h.elim
theorem jm_pfl (ci : Nat) (i : Nat) : jx_Mo (jt_pfl ci i) := by
  intro C C' J J' q q' k k' hC hJ hq hk lv st bc bs w h
  unfold jt_pfl at h ⊢
  split at h
  · obtain ⟨fs, h1, h2, h⟩ := h; exact ⟨fs, h1, h2, hk _ _ _ _ _ h⟩
  · exact h.elim
theorem jm_pfr (ci : Nat) (i : Nat) : jx_Mo (jt_pfr ci i) := by
  intro C C' J J' q q' k k' hC hJ hq hk lv st bc bs w h
  unfold jt_pfr at h ⊢
  split at h
  · obtain ⟨fs, h1, h2, h⟩ := h; exact ⟨fs, h1, h2, hk _ _ _ _ _ h⟩
  · exact h.elim
theorem jm_pfz (ci : Nat) (i : Nat) : jx_Mo (jt_pfz ci i) := by
  intro C C' J J' q q' k k' hC hJ hq hk lv st bc bs w h
  unfold jt_pfz at h ⊢
  split at h
  · obtain ⟨fs, h1, h2, h3, h⟩ := h; exact ⟨fs, h1, h2, h3, hk _ _ _ _ _ h⟩
  · exact h.elim
theorem jm_gs (i : Nat) : jx_Mo (jt_gs i) := by
  intro C C' J J' q q' k k' hC hJ hq hk lv st bc bs w h
  exact hk _ _ _ _ _ h
theorem jm_iald : jx_Mo (jt_iald) := by
  intro C C' J J' q q' k k' hC hJ hq hk lv st bc bs w h
  unfold jt_iald at h ⊢
  split at h
  · obtain ⟨n, f, h1, h2, h⟩ := h; exact ⟨n, f, h1, h2, hk _ _ _ _ _ h⟩
  · exact h.elim
theorem jm_rald : jx_Mo (jt_rald) := by
  intro C C' J J' q q' k k' hC hJ hq hk lv st bc bs w h
  unfold jt_rald at h ⊢
  split at h
  · obtain ⟨n, f, h1, h2, h⟩ := h; exact ⟨n, f, h1, h2, hk _ _ _ _ _ h⟩
  · exact h.elim
theorem jm_bald : jx_Mo (jt_bald) := by
  intro C C' J J' q q' k k' hC hJ hq hk lv st bc bs w h
  unfold jt_bald at h ⊢
  split at h
  · obtain ⟨n, f, h1, h2, h⟩ := h; exact ⟨n, f, h1, h2, hk _ _ _ _ _ h⟩
  · exact h.elim
theorem jm_iast : jx_Mo (jt_iast) := by
  intro C C' J J' q q' k k' hC hJ hq hk lv st bc bs w h
  unfold jt_iast at h ⊢
  split at h
  · obtain ⟨n, f, h1, h2, h⟩ := h; exact ⟨n, f, h1, h2, hk _ _ _ _ _ h⟩
  · exact h.elim
theorem jm_bast : jx_Mo (jt_bast) := by
  intro C C' J J' q q' k k' hC hJ hq hk lv st bc bs w h
  unfold jt_bast at h ⊢
  split at h
  · obtain ⟨n, f, h1, h2, h⟩ := h; exact ⟨n, f, h1, h2, hk _ _ _ _ _ h⟩
  · exact h.elim
theorem jm_aald (ci : Nat) : jx_Mo (jt_aald ci) := by
  intro C C' J J' q q' k k' hC hJ hq hk lv st bc bs w h
  unfold jt_aald at h ⊢
  split at h
  · obtain ⟨n, f, b, h1, h2, h3, h⟩ := h; exact ⟨n, f, b, h1, h2, h3, hk _ _ _ _ _ h⟩
  · exact h.elim
theorem jm_aast (ci : Nat) : jx_Mo (jt_aast ci) := by
  intro C C' J J' q q' k k' hC hJ hq hk lv st bc bs w h
  unfold jt_aast at h ⊢
  split at h
  · obtain ⟨n, f, b, h1, h2, h3, h⟩ := h; exact ⟨n, f, b, h1, h2, h3, hk _ _ _ _ _ h⟩
  · exact h.elim
theorem jm_ilen : jx_Mo (jt_ilen) := by
  intro C C' J J' q q' k k' hC hJ hq hk lv st bc bs w h
  unfold jt_ilen at h ⊢
  split at h
  · obtain ⟨n, f, h1, h⟩ := h; exact ⟨n, f, h1, hk _ _ _ _ _ h⟩
  · exact h.elim
theorem jm_rlen : jx_Mo (jt_rlen) := by
  intro C C' J J' q q' k k' hC hJ hq hk lv st bc bs w h
  unfold jt_rlen at h ⊢
  split at h
  · obtain ⟨n, f, h1, h⟩ := h; exact ⟨n, f, h1, hk _ _ _ _ _ h⟩
  · exact h.elim
theorem jm_blen : jx_Mo (jt_blen) := by
  intro C C' J J' q q' k k' hC hJ hq hk lv st bc bs w h
  unfold jt_blen at h ⊢
  split at h
  · obtain ⟨n, f, h1, h⟩ := h; exact ⟨n, f, h1, hk _ _ _ _ _ h⟩
  · exact h.elim
theorem jm_new (ci : Nat) (N : Nat) (fs : List Value) : jx_Mo (jt_new ci N fs) := by
  intro C C' J J' q q' k k' hC hJ hq hk lv st bc bs w h
  exact ⟨h.1, h.2.1, hk _ _ _ _ _ h.2.2⟩
theorem jm_newi : jx_Mo (jt_newi) := by
  intro C C' J J' q q' k k' hC hJ hq hk lv st bc bs w h
  unfold jt_newi at h ⊢
  split at h
  · obtain ⟨N, h1, h2, h3, h4, h⟩ := h; exact ⟨N, h1, h2, h3, h4, hk _ _ _ _ _ h⟩
  · exact h.elim
theorem jm_newb : jx_Mo (jt_newb) := by
  intro C C' J J' q q' k k' hC hJ hq hk lv st bc bs w h
  unfold jt_newb at h ⊢
  split at h
  · obtain ⟨N, h1, h2, h3, h4, h⟩ := h; exact ⟨N, h1, h2, h3, h4, hk _ _ _ _ _ h⟩
  · exact h.elim
theorem jm_newr (ci : Nat) : jx_Mo (jt_newr ci) := by
  intro C C' J J' q q' k k' hC hJ hq hk lv st bc bs w h
  unfold jt_newr at h ⊢
  split at h
  · obtain ⟨N, h1, h2, h3, h4, h⟩ := h; exact ⟨N, h1, h2, h3, h4, hk _ _ _ _ _ h⟩
  · exact h.elim
theorem jm_cpy (ty : FieldType) : jx_Mo (jt_cpy ty) := by
  intro C C' J J' q q' k k' hC hJ hq hk lv st bc bs w h
  unfold jt_cpy at h ⊢
  split at h
  · obtain ⟨n0, n1, f, g, h1, h2, h3, h4, h5, h6, h7, h8, h⟩ := h; exact ⟨n0, n1, f, g, h1, h2, h3, h4, h5, h6, h7, h8, hk _ _ _ _ _ h⟩
  · exact h.elim
theorem jm_mmin : jx_Mo (jt_mmin) := by
  intro C C' J J' q q' k k' hC hJ hq hk lv st bc bs w h
  unfold jt_mmin at h ⊢
  split at h
  · split at h
    · exact hk _ _ _ _ _ h
    · exact h.elim
  · exact h.elim
theorem jm_mmax : jx_Mo (jt_mmax) := by
  intro C C' J J' q q' k k' hC hJ hq hk lv st bc bs w h
  unfold jt_mmax at h ⊢
  split at h
  · split at h
    · exact hk _ _ _ _ _ h
    · exact h.elim
  · exact h.elim
theorem jm_ri : jx_Mo (jt_ri) := by
  intro C C' J J' q q' k k' hC hJ hq hk lv st bc bs w h
  unfold jt_ri at h ⊢
  split at h
  · exact hq _ _ h
  · exact h.elim
theorem jm_rl : jx_Mo (jt_rl) := by
  intro C C' J J' q q' k k' hC hJ hq hk lv st bc bs w h
  unfold jt_rl at h ⊢
  split at h
  · exact hq _ _ h
  · exact h.elim
theorem jm_rr : jx_Mo (jt_rr) := by
  intro C C' J J' q q' k k' hC hJ hq hk lv st bc bs w h
  unfold jt_rr at h ⊢
  split at h
  · exact hq _ _ h
  · exact h.elim
theorem jm_rv : jx_Mo (jt_rv) := by
  intro C C' J J' q q' k k' hC hJ hq hk lv st bc bs w h
  unfold jt_rv at h ⊢
  split at h
  · exact hq _ _ h
  · exact h.elim
theorem jm_rz : jx_Mo (jt_rz) := by
  intro C C' J J' q q' k k' hC hJ hq hk lv st bc bs w h
  unfold jt_rz at h ⊢
  split at h
  · exact ⟨h.1, hq _ _ h.2⟩
  · exact h.elim
theorem jx_ret_mono {k k' : List Value → jx_W → Prop} (hk : ∀ st w, k st w → k' st w) {rest : List Value} : ∀ (rk : Nat) (w : jx_W) (r : Option Value), jx_ret rk k rest w r → jx_ret rk k' rest w r
  | 0, _, _, h => ⟨h.1, hk _ _ h.2⟩
  | 1, _, _, ⟨x, h1, h⟩ => ⟨x, h1, hk _ _ h⟩
  | 2, _, _, ⟨x, h1, h⟩ => ⟨x, h1, hk _ _ h⟩
  | n + 3, _, _, ⟨x, h1, h⟩ => ⟨x, h1, hk _ _ h⟩
theorem jm_call (Tb : Nat → jx_Me) (y na rk : Nat) : jx_Mo (jt_call Tb y na rk) := by
  intro C C' J J' q q' k k' hC hJ hq hk lv st bc bs w h
  unfold jt_call at h ⊢
  split at h
  · skip

    exact hC _ _ _ _ _ (jx_ret_mono (fun _ _ hh => hk _ _ _ _ _ hh) rk) h
  · exact h.elim
theorem jm_callV (Tb : Nat → jx_Me) (ci y na rk : Nat) : jx_Mo (jt_callV Tb ci y na rk) := by
  intro C C' J J' q q' k k' hC hJ hq hk lv st bc bs w h
  unfold jt_callV at h ⊢
  split at h
  · skip

    exact ⟨h.1, hC _ _ _ _ _ (jx_ret_mono (fun _ _ hh => hk _ _ _ _ _ hh) rk) h.2⟩
  · exact h.elim
theorem jm_callA (Tb : Nat → jx_Me) (y na : Nat) : jx_Mo (jt_callA Tb y na) := by
  intro C C' J J' q q' k k' hC hJ hq hk lv st bc bs w h
  unfold jt_callA at h ⊢
  split at h
  · skip

    exact ⟨h.1, h.2.1, hC _ _ _ _ _ (fun _ _ hh => ⟨hh.1, hk _ _ _ _ _ hh.2⟩) h.2.2⟩
  · exact h.elim
set_option maxHeartbeats 4000000 in
theorem jm_tr (Tb : Nat → jx_Me) (i : jx_I) : jx_Mo (jx_tr Tb i) := by
  obtain ⟨len, ins, x⟩ := i
  cases ins
  case nop => exact jm_go _
  case iconst => exact jm_c _
  case bipush => exact jm_c _
  case sipush => exact jm_c _
  case ldc => exact jm_c _
  case ldc_w => exact jm_c _
  case ldc2_w => exact jm_c _
  case lconst => exact jm_c _
  case iload => exact jm_ldi _
  case iload_n => exact jm_ldi _
  case lload => exact jm_ldl _
  case lload_n => exact jm_ldl _
  case aload => exact jm_lda _
  case aload_n => exact jm_lda _
  case istore => exact jm_sti _
  case istore_n => exact jm_sti _
  case lstore => exact jm_stl _
  case lstore_n => exact jm_stl _
  case astore => exact jm_sta _
  case astore_n => exact jm_sta _
  case iinc => exact jm_inc _ _
  case iadd => exact jm_ii _
  case isub => exact jm_ii _
  case imul => exact jm_ii _
  case iand => exact jm_ii _
  case ior => exact jm_ii _
  case ixor => exact jm_ii _
  case ishl => exact jm_ii _
  case ishr => exact jm_ii _
  case iushr => exact jm_ii _
  case irem => exact jm_irem
  case ladd => exact jm_ll _
  case lsub => exact jm_ll _
  case lmul => exact jm_ll _
  case land => exact jm_ll _
  case lor => exact jm_ll _
  case lshl => exact jm_li _
  case lushr => exact jm_li _
  case lcmp => exact jm_lcmp
  case i2l => exact jm_i2l
  case l2i => exact jm_l2i
  case i2b => exact jm_i2b
  case dup => exact jm_dup
  case dup2 => exact jm_dup2
  case pop => exact jm_pop
  case ifCond cd off => cases cd <;> exact jm_if _ _ _
  case if_icmp cd off => cases cd <;> exact jm_cmp _ _ _
  case goto => exact jm_go _
  case tableswitch => exact jm_sw _ _ _
  case getfield =>
    show jx_Mo (jx_gf x)
    unfold jx_gf
    generalize jx_x x 0 = z
    rcases z with _ | _ | z
    · exact jm_gfi _ _
    · exact jm_gfl _ _
    · exact jm_gfr _ _
  case putfield =>
    show jx_Mo (jx_pf x)
    unfold jx_pf
    generalize jx_x x 0 = z
    rcases z with _ | _ | _ | z
    · exact jm_pfi _ _
    · exact jm_pfl _ _
    · exact jm_pfr _ _
    · exact jm_pfz _ _
  case getstatic => exact jm_gs _
  case iaload =>
    show jx_Mo (jx_al0 x)
    unfold jx_al0
    generalize jx_x x 0 = z
    rcases z with _ | z
    · exact jm_iald
    · exact jm_rald
  case baload => exact jm_bald
  case aaload => exact jm_aald _
  case iastore => exact jm_iast
  case bastore => exact jm_bast
  case aastore => exact jm_aast _
  case arraylength =>
    show jx_Mo (jx_len x)
    unfold jx_len
    generalize jx_x x 0 = z
    rcases z with _ | _ | z
    · exact jm_ilen
    · exact jm_rlen
    · exact jm_blen
  case new => exact jm_new _ _ _
  case newarray t =>
    cases t
    case int => exact jm_newi
    case byte => exact jm_newb
    all_goals exact jm_bad
  case anewarray => exact jm_newr _
  case invokevirtual => exact jm_callV _ _ _ _ _
  case invokestatic =>
    show jx_Mo (jx_ist Tb x)
    unfold jx_ist
    generalize jx_x x 0 = z
    rcases z with _ | _ | _ | _ | _ | z
    · exact jm_call _ _ _ _
    · exact jm_call _ _ _ _
    · exact jm_cpy _
    · exact jm_cpy _
    · exact jm_mmin
    · exact jm_mmax
  case invokespecial =>
    show jx_Mo (jx_isp Tb x)
    unfold jx_isp
    generalize jx_x x 0 = z
    rcases z with _ | _ | z
    · exact jm_callA _ _ _
    · exact jm_callA _ _ _
    · exact jm_oi
  case ireturn =>
    show jx_Mo (jx_ire x)
    unfold jx_ire
    generalize jx_x x 0 = z
    rcases z with _ | z
    · exact jm_ri
    · exact jm_rz
  case lreturn => exact jm_rl
  case areturn => exact jm_rr
  case return_ => exact jm_rv
  all_goals exact jm_bad
/-- a block: where it begins, the locals that it wants, its instructions -/
abbrev jx_B : Type := Nat × List Nat × List jx_I
abbrev jx_Z : Type := (Nat → jx_Mt) × (Nat → Nat → jx_B)
abbrev jx_XX : Type := Nat → Nat → jx_L → List Value → Nat → Nat → jx_W → jx_Q → Prop
def jx_cl (Z : jx_Z) (X : jx_XX) : jx_C := fun y As w K => X y 0 (jx_pick (Z.2 y 0).2.1 (lv_args 0 As)) [] (Z.1 y).1.2.2.2.2.1.1 (Z.1 y).1.2.2.2.2.1.2 w K
def jx_jp (Z : jx_Z) (X : jx_XX) (μ : Nat) (Q : jx_Q) : jx_J := fun b lv st bc bs w => X μ b (jx_pick (Z.2 μ b).2.1 lv) st bc bs w Q
def jx_blk (Tb : Nat → jx_Me) (C : jx_C) (J : jx_J) (q : jx_Q) (is : List jx_I) : jx_K := is.foldr (fun i k => jx_tr Tb i C J q k) (fun _ _ _ _ _ => False)
def jx_step (Z : jx_Z) (X : jx_XX) : jx_XX := fun μ b lv st bc bs w Q => jx_blk (jx_Tb Z.1) (jx_cl Z X) (jx_jp Z X μ Q) Q (Z.2 μ b).2.2 lv st bc bs w
def jx_mono (X : jx_XX) : Prop := ∀ (μ b : Nat) (lv : jx_L) (st : List Value) (bc bs : Nat) (w : jx_W) (Q Q' : jx_Q), (∀ w r, Q w r → Q' w r) → X μ b lv st bc bs w Q → X μ b lv st bc bs w Q'
def jx_wp (Z : jx_Z) : jx_XX := fun μ b lv st bc bs w Q => ∀ X : jx_XX, jx_mono X → (∀ (μ b : Nat) (lv : jx_L) (st : List Value) (bc bs : Nat) (w : jx_W) (Q : jx_Q), jx_step Z X μ b lv st bc bs w Q → X μ b lv st bc bs w Q) → X μ b lv st bc bs w Q
theorem jx_wp_mono (Z : jx_Z) : jx_mono (jx_wp Z) := fun μ b lv st bc bs w Q Q' hQ h X hm hc => hm μ b lv st bc bs w Q Q' hQ (h X hm hc)
theorem jx_blk_mono {Tb : Nat → jx_Me} {C C' : jx_C} {J J' : jx_J} {q : jx_Q} (hC : jx_le C C') (hJ : ∀ b lv st bc bs w, J b lv st bc bs w → J' b lv st bc bs w) : ∀ (is : List jx_I) (lv : jx_L) (st : List Value) (bc bs : Nat) (w : jx_W), jx_blk Tb C J q is lv st bc bs w → jx_blk Tb C' J' q is lv st bc bs w
  | [], _, _, _, _, _, h => h
  | i :: t, lv, st, bc, bs, w, h => jm_tr Tb i C C' J J' q q _ _ hC hJ (fun _ _ z => z) (jx_blk_mono hC hJ t) lv st bc bs w h
/-- ONE STEP: a block's condition, over what runs come to, is what a run from it comes to -/
theorem jx_unfold {Z : jx_Z} {μ b : Nat} {lv : jx_L} {st : List Value} {bc bs : Nat} {w : jx_W} {Q : jx_Q} (h : jx_step Z (jx_wp Z) μ b lv st bc bs w Q) : jx_wp Z μ b lv st bc bs w Q := by
  intro X hm hc
  refine hc μ b lv st bc bs w Q (jx_blk_mono ?_ ?_ _ lv st bc bs w h)
  · intro y As w K K' hK h1
    exact hm _ _ _ _ _ _ _ K K' hK (h1 X hm hc)
  · intro b lv st bc bs w h1
    exact h1 X hm hc
def jx_sim (l : Launch) (Z : jx_Z) : jx_XX := fun μ b lv st bc bs w Q => ∀ (G : jx_G) (p : Program) (e : Env) (s : State) (m : MethodId) (args : Array Value) (below : List Frame) (meth : Method) (c : Code) (Φ : State → Prop),
  jx_X p s m args meth c (jx_rm (Z.1 μ).1) G (Z.1 μ).1.1.cls (Z.1 μ).1.1.name (Z.1 μ).1.2.1 (Z.1 μ).1.2.2.1 (Z.1 μ).1.2.2.2.2.1.1 (Z.1 μ).1.2.2.2.2.1.2 →
  jx_RS p l e (jx_rm (Z.1 μ).1) s m args below meth c Φ G (Z.1 μ).1.2.2.2.2.1.1 (Z.1 μ).1.2.2.2.2.1.2 (Z.1 μ).1.2.1 (Z.1 μ).1.2.2.2.1 Q →
  ∀ (H : Heap) (locs : List Loc) (cells slots : Nat) (ls : Array Slot), va_S (jx_A G) s.heap H locs → jx_H G s w H → lv_has ls (Z.1 μ).1.2.2.1 lv → cells + bc = (Z.1 μ).1.2.2.2.2.1.1 → slots + bs = (Z.1 μ).1.2.2.2.2.1.2 → W p l e (jx_rm (Z.1 μ).1) s m args below meth c H locs cells slots Φ (F0 m (Z.2 μ b).1 ls st)
theorem jx_sim_mono (l : Launch) (Z : jx_Z) : jx_mono (jx_sim l Z) := fun μ b lv st bc bs w Q Q' hQ h G p e s m args below meth c Φ X hR H locs cells slots ls hS hH hl hc hs => h G p e s m args below meth c Φ X (fun H locs ls pc w r hS hH hq hd => hR H locs ls pc w r hS hH (hQ w r hq) hd) H locs cells slots ls hS hH hl hc hs
def jx_bchk (nM : Nat) (Mt : Nat → jx_Mt) (tg : Nat → Nat) (M : jx_Me) : Nat → List jx_I → Bool
  | _, [] => true
  | pc, i :: t => jx_chk nM Mt tg M pc i && jx_bchk nM Mt tg M (pc + i.1) t
def jx_valid (Z : jx_Z) (nM : Nat) : Prop := (∀ y, y < nM → jx_mchk (Z.1 y) = true) ∧ ∀ μ : Nat, plainName (Z.1 μ).1.1.cls = true ∧ (Z.2 μ 0).1 = 0 ∧ ∀ b : Nat, jx_bchk nM Z.1 (fun b => (Z.2 μ b).1) (Z.1 μ).1 (Z.2 μ b).1 (Z.2 μ b).2.2 = true
theorem jx_met {l : Launch} {Z : jx_Z} {nM : Nat} (hv : jx_valid Z nM) (G : jx_G) : jx_CS l G (jx_Tb Z.1) (jx_cl Z (jx_sim l Z)) := by
  intro y As w K hlen h
  unfold jx_Met
  refine Met.ofW (cc := (Z.1 y).1.2.1) (maxL := (Z.1 y).1.2.2.1) (ret := (Z.1 y).1.2.2.2.1) (hv.2 y).1 rfl ?_
  intro p e s m args below meth c s₁ B hml hpc
  obtain ⟨rfl, hF, hH⟩ := hpc
  have hts := atoms_spec (ws := jx_ws (Z.1 y).1) B.pre
  have X : jx_X p s m As.toArray meth c (jx_rm (Z.1 y).1) G (Z.1 y).1.1.cls (Z.1 y).1.1.name (Z.1 y).1.2.1 (Z.1 y).1.2.2.1 (Z.1 y).1.2.2.2.2.1.1 (Z.1 y).1.2.2.2.2.1.2 := ⟨B.exec, B.bytes, hml, findClass_of_methodNamed B.named, fun w hw => hts w (List.mem_cons_of_mem _ hw), (name_of_methodNamed B.named B.method).1, hF, rfl, rfl⟩
  have hl := lv_entry As (n := (Z.1 y).1.2.2.1) hlen
  show W p l e _ s m As.toArray below meth c s.heap [] 0 0 _ (entryFrame m As.toArray (Z.1 y).1.2.2.1)
  rw [lg_entry_eq]
  have h1 := h G p e s m As.toArray below meth c _ X (jx_RS_of X B.returns B.notSynchronized) s.heap [] 0 0 _ va_S.rf hH (jx_pick_has hl _) (Nat.zero_add _) (Nat.zero_add _)
  rw [(hv.2 y).2.1] at h1
  exact h1
theorem jx_sim_step {l : Launch} {Z : jx_Z} {nM : Nat} (hv : jx_valid Z nM) (μ b : Nat) (lv : jx_L) (st : List Value) (bc bs : Nat) (w : jx_W) (Q : jx_Q) (h : jx_step Z (jx_sim l Z) μ b lv st bc bs w Q) : jx_sim l Z μ b lv st bc bs w Q := by
  intro G p e s m args below meth c Φ X hR H locs cells slots ls hS hH hl hc hs
  have hj : ∀ b, jx_KS p l e (jx_rm (Z.1 μ).1) s m args below meth c Φ G (Z.1 μ).1.2.2.1 (Z.1 μ).1.2.2.2.2.1.1 (Z.1 μ).1.2.2.2.2.1.2 ((fun b => (Z.2 μ b).1) b) (jx_jp Z (jx_sim l Z) μ Q b) := fun b H locs cells slots ls lv st bc bs w hS hH hl hc hs hh => hh G p e s m args below meth c Φ X hR H locs cells slots ls hS hH (jx_pick_has hl _) hc hs
  have key : ∀ (is : List jx_I) (pc : Nat), jx_bchk nM Z.1 (fun b => (Z.2 μ b).1) (Z.1 μ).1 pc is = true → jx_KS p l e (jx_rm (Z.1 μ).1) s m args below meth c Φ G (Z.1 μ).1.2.2.1 (Z.1 μ).1.2.2.2.2.1.1 (Z.1 μ).1.2.2.2.2.1.2 pc (jx_blk (jx_Tb Z.1) (jx_cl Z (jx_sim l Z)) (jx_jp Z (jx_sim l Z) μ Q) Q is) := by
    intro is
    induction is with
    | nil => intro pc _ H locs cells slots ls lv st bc bs w _ _ _ _ _ hh; exact hh.elim
    | cons i t ih =>
      intro pc hb
      unfold jx_bchk at hb
      simp only [Bool.and_eq_true] at hb
      exact jx_chk_ok X hv.1 (jx_met hv G) hR hj hb.1 (ih (pc + i.1) hb.2)
  exact key _ _ ((hv.2 μ).2.2 b) H locs cells slots ls lv st bc bs w hS hH hl hc hs h
/-- THE SIMULATION -/
theorem jx_sound {l : Launch} {Z : jx_Z} {nM : Nat} (hv : jx_valid Z nM) {μ b : Nat} {lv : jx_L} {st : List Value} {bc bs : Nat} {w : jx_W} {Q : jx_Q} (h : jx_wp Z μ b lv st bc bs w Q) : jx_sim l Z μ b lv st bc bs w Q := h (jx_sim l Z) (jx_sim_mono l Z) (jx_sim_step hv)
