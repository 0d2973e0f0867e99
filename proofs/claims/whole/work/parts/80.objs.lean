/-! THE CLASS's OBJECTS as blocks of cells -/
def At (W : jx_W) (b n : Nat) (C : Nat → Option jx_E) : Prop := ∀ j, j < n → W.2.2 (b + j) = C j
theorem At_bw {W : jx_W} {b n : Nat} {C : Nat → Option jx_E} : At (bw W b n C) b n C := fun _ h => bw_at h
theorem At_out {W : jx_W} {b n b' n' : Nat} {C C' : Nat → Option jx_E} (h : At W b n C) (hd : b + n ≤ b' ∨ b' + n' ≤ b) : At (bw W b' n' C') b n C := fun j hj => (bw_out (by omega)).trans (h j hj)
theorem At_eq {W : jx_W} {b n : Nat} {C : Nat → Option jx_E} (h : At W b n C) : bw W b n C = W := bw_self h
theorem bw_same {W : jx_W} {b n : Nat} {C D : Nat → Option jx_E} : bw (bw W b n C) b n D = bw W b n D := by
  refine jx_ext rfl rfl (fun a => ?_)
  show (if b ≤ a ∧ a < b + n then D (a - b) else if b ≤ a ∧ a < b + n then C (a - b) else W.2.2 a) = if b ≤ a ∧ a < b + n then D (a - b) else W.2.2 a
  by_cases h : b ≤ a ∧ a < b + n
  · rw [if_pos h, if_pos h]
  · rw [if_neg h, if_neg h, if_neg h]
/-! Fd -/
def FdF (a : Nat) (c : Nat → Int32) : List Value := [.int (c 0), .int (c 1), .int (c 2), .int (c 3), .ref (a + 1), .ref (a + 2), .ref (a + 3), .ref (a + 4)]
theorem FdF_0 (a : Nat) (c : Nat → Int32) : (FdF a c)[0]? = some (.int (c 0)) := rfl
theorem FdF_s0 (a : Nat) (c : Nat → Int32) (x : Int32) : (FdF a c).set 0 (.int x) = FdF a (upd c 0 x) := rfl
theorem FdF_1 (a : Nat) (c : Nat → Int32) : (FdF a c)[1]? = some (.int (c 1)) := rfl
theorem FdF_s1 (a : Nat) (c : Nat → Int32) (x : Int32) : (FdF a c).set 1 (.int x) = FdF a (upd c 1 x) := rfl
theorem FdF_2 (a : Nat) (c : Nat → Int32) : (FdF a c)[2]? = some (.int (c 2)) := rfl
theorem FdF_s2 (a : Nat) (c : Nat → Int32) (x : Int32) : (FdF a c).set 2 (.int x) = FdF a (upd c 2 x) := rfl
theorem FdF_3 (a : Nat) (c : Nat → Int32) : (FdF a c)[3]? = some (.int (c 3)) := rfl
theorem FdF_s3 (a : Nat) (c : Nat → Int32) (x : Int32) : (FdF a c).set 3 (.int x) = FdF a (upd c 3 x) := rfl
theorem FdF_4 (a : Nat) (c : Nat → Int32) : (FdF a c)[4]? = some (.ref (a + 1)) := rfl
theorem FdF_5 (a : Nat) (c : Nat → Int32) : (FdF a c)[5]? = some (.ref (a + 2)) := rfl
theorem FdF_6 (a : Nat) (c : Nat → Int32) : (FdF a c)[6]? = some (.ref (a + 3)) := rfl
theorem FdF_7 (a : Nat) (c : Nat → Int32) : (FdF a c)[7]? = some (.ref (a + 4)) := rfl
theorem FdF_len (a : Nat) (c : Nat → Int32) : (FdF a c).length = 8 := rfl
def FdC (a : Nat) (c : Nat → Int32) (r : Nat → Nat → Int32) : Nat → Option jx_E
  | 0 => some (.inr (1, FdF a c))
  | 1 => some (.inl (.int, 30, .inl (r 4)))
  | 2 => some (.inl (.int, 30, .inl (r 5)))
  | 3 => some (.inl (.int, 30, .inl (r 6)))
  | 4 => some (.inl (.int, 30, .inl (r 7)))
  | _ => none
def Fdw (W : jx_W) (a : Nat) (c : Nat → Int32) (r : Nat → Nat → Int32) : jx_W := bw W a 5 (FdC a c r)
theorem Fdw_ob (W : jx_W) (a : Nat) (c : Nat → Int32) (r : Nat → Nat → Int32) (fs : List Value) : jx_ob (Fdw W a c r) a 1 fs ↔ fs = FdF a c := ob_iff (bw_at (k := 0) (by decide))
theorem Fdw_uob (W : jx_W) (a : Nat) (c : Nat → Int32) (r : Nat → Nat → Int32) (c' : Nat → Int32) : jx_uob (Fdw W a c r) a 1 (FdF a c') = Fdw W a c' r := (bw_up (k := 0) (by decide)).trans (bw_congr (fun j h => lt12 (P := fun j => (if j = 0 then some (.inr (1, FdF a c')) else FdC a c r j) = FdC a c' r j) (Nat.lt_of_lt_of_le h (by decide)) rfl rfl rfl rfl rfl rfl rfl rfl rfl rfl rfl rfl))
theorem Fdw_4 (W : jx_W) (a : Nat) (c : Nat → Int32) (r : Nat → Nat → Int32) (m : Nat) (f : Nat → Int32) : jx_ia (Fdw W a c r) (a + 1) m f ↔ m = 30 ∧ f = r 4 := ia_iff (bw_at (k := 1) (by decide))
theorem Fdw_g4 (W : jx_W) (a : Nat) (c : Nat → Int32) (r : Nat → Nat → Int32) : (Fdw W a c r).2.2 (a + 1) = some (.inl (.int, 30, .inl (r 4))) := bw_at (k := 1) (by decide)
theorem Fdw_v4 (W : jx_W) (a : Nat) (c : Nat → Int32) (r : Nat → Nat → Int32) (f : Nat → Int32) : jx_up (Fdw W a c r) (a + 1) (.inl (.int, 30, .inl f)) = Fdw W a c (rup r 4 f) := (bw_up (k := 1) (by decide)).trans (bw_congr (fun j h => lt12 (P := fun j => (if j = 1 then some (.inl (.int, 30, .inl f)) else FdC a c r j) = FdC a c (rup r 4 f) j) (Nat.lt_of_lt_of_le h (by decide)) rfl rfl rfl rfl rfl rfl rfl rfl rfl rfl rfl rfl))
theorem Fdw_u4 (W : jx_W) (a : Nat) (c : Nat → Int32) (r : Nat → Nat → Int32) (f : Nat → Int32) : jx_uia (Fdw W a c r) (a + 1) 30 f = Fdw W a c (rup r 4 f) := Fdw_v4 W a c r f
theorem Fdw_5 (W : jx_W) (a : Nat) (c : Nat → Int32) (r : Nat → Nat → Int32) (m : Nat) (f : Nat → Int32) : jx_ia (Fdw W a c r) (a + 2) m f ↔ m = 30 ∧ f = r 5 := ia_iff (bw_at (k := 2) (by decide))
theorem Fdw_g5 (W : jx_W) (a : Nat) (c : Nat → Int32) (r : Nat → Nat → Int32) : (Fdw W a c r).2.2 (a + 2) = some (.inl (.int, 30, .inl (r 5))) := bw_at (k := 2) (by decide)
theorem Fdw_v5 (W : jx_W) (a : Nat) (c : Nat → Int32) (r : Nat → Nat → Int32) (f : Nat → Int32) : jx_up (Fdw W a c r) (a + 2) (.inl (.int, 30, .inl f)) = Fdw W a c (rup r 5 f) := (bw_up (k := 2) (by decide)).trans (bw_congr (fun j h => lt12 (P := fun j => (if j = 2 then some (.inl (.int, 30, .inl f)) else FdC a c r j) = FdC a c (rup r 5 f) j) (Nat.lt_of_lt_of_le h (by decide)) rfl rfl rfl rfl rfl rfl rfl rfl rfl rfl rfl rfl))
theorem Fdw_u5 (W : jx_W) (a : Nat) (c : Nat → Int32) (r : Nat → Nat → Int32) (f : Nat → Int32) : jx_uia (Fdw W a c r) (a + 2) 30 f = Fdw W a c (rup r 5 f) := Fdw_v5 W a c r f
theorem Fdw_6 (W : jx_W) (a : Nat) (c : Nat → Int32) (r : Nat → Nat → Int32) (m : Nat) (f : Nat → Int32) : jx_ia (Fdw W a c r) (a + 3) m f ↔ m = 30 ∧ f = r 6 := ia_iff (bw_at (k := 3) (by decide))
theorem Fdw_g6 (W : jx_W) (a : Nat) (c : Nat → Int32) (r : Nat → Nat → Int32) : (Fdw W a c r).2.2 (a + 3) = some (.inl (.int, 30, .inl (r 6))) := bw_at (k := 3) (by decide)
theorem Fdw_v6 (W : jx_W) (a : Nat) (c : Nat → Int32) (r : Nat → Nat → Int32) (f : Nat → Int32) : jx_up (Fdw W a c r) (a + 3) (.inl (.int, 30, .inl f)) = Fdw W a c (rup r 6 f) := (bw_up (k := 3) (by decide)).trans (bw_congr (fun j h => lt12 (P := fun j => (if j = 3 then some (.inl (.int, 30, .inl f)) else FdC a c r j) = FdC a c (rup r 6 f) j) (Nat.lt_of_lt_of_le h (by decide)) rfl rfl rfl rfl rfl rfl rfl rfl rfl rfl rfl rfl))
theorem Fdw_u6 (W : jx_W) (a : Nat) (c : Nat → Int32) (r : Nat → Nat → Int32) (f : Nat → Int32) : jx_uia (Fdw W a c r) (a + 3) 30 f = Fdw W a c (rup r 6 f) := Fdw_v6 W a c r f
theorem Fdw_7 (W : jx_W) (a : Nat) (c : Nat → Int32) (r : Nat → Nat → Int32) (m : Nat) (f : Nat → Int32) : jx_ia (Fdw W a c r) (a + 4) m f ↔ m = 30 ∧ f = r 7 := ia_iff (bw_at (k := 4) (by decide))
theorem Fdw_g7 (W : jx_W) (a : Nat) (c : Nat → Int32) (r : Nat → Nat → Int32) : (Fdw W a c r).2.2 (a + 4) = some (.inl (.int, 30, .inl (r 7))) := bw_at (k := 4) (by decide)
theorem Fdw_v7 (W : jx_W) (a : Nat) (c : Nat → Int32) (r : Nat → Nat → Int32) (f : Nat → Int32) : jx_up (Fdw W a c r) (a + 4) (.inl (.int, 30, .inl f)) = Fdw W a c (rup r 7 f) := (bw_up (k := 4) (by decide)).trans (bw_congr (fun j h => lt12 (P := fun j => (if j = 4 then some (.inl (.int, 30, .inl f)) else FdC a c r j) = FdC a c (rup r 7 f) j) (Nat.lt_of_lt_of_le h (by decide)) rfl rfl rfl rfl rfl rfl rfl rfl rfl rfl rfl rfl))
theorem Fdw_u7 (W : jx_W) (a : Nat) (c : Nat → Int32) (r : Nat → Nat → Int32) (f : Nat → Int32) : jx_uia (Fdw W a c r) (a + 4) 30 f = Fdw W a c (rup r 7 f) := Fdw_v7 W a c r f
/-! Wd -/
def WdF (a : Nat) : List Value := [.ref (a + 1), .ref (a + 2)]
theorem WdF_0 (a : Nat) : (WdF a)[0]? = some (.ref (a + 1)) := rfl
theorem WdF_1 (a : Nat) : (WdF a)[1]? = some (.ref (a + 2)) := rfl
theorem WdF_len (a : Nat) : (WdF a).length = 2 := rfl
def WdC (a : Nat) (r : Nat → Nat → Int32) : Nat → Option jx_E
  | 0 => some (.inr (6, WdF a))
  | 1 => some (.inl (.int, 6, .inl (r 0)))
  | 2 => some (.inl (.byte, 48, .inl (r 1)))
  | _ => none
def Wdw (W : jx_W) (a : Nat) (r : Nat → Nat → Int32) : jx_W := bw W a 3 (WdC a r)
theorem Wdw_ob (W : jx_W) (a : Nat) (r : Nat → Nat → Int32) (fs : List Value) : jx_ob (Wdw W a r) a 6 fs ↔ fs = WdF a := ob_iff (bw_at (k := 0) (by decide))
theorem Wdw_0 (W : jx_W) (a : Nat) (r : Nat → Nat → Int32) (m : Nat) (f : Nat → Int32) : jx_ia (Wdw W a r) (a + 1) m f ↔ m = 6 ∧ f = r 0 := ia_iff (bw_at (k := 1) (by decide))
theorem Wdw_g0 (W : jx_W) (a : Nat) (r : Nat → Nat → Int32) : (Wdw W a r).2.2 (a + 1) = some (.inl (.int, 6, .inl (r 0))) := bw_at (k := 1) (by decide)
theorem Wdw_v0 (W : jx_W) (a : Nat) (r : Nat → Nat → Int32) (f : Nat → Int32) : jx_up (Wdw W a r) (a + 1) (.inl (.int, 6, .inl f)) = Wdw W a (rup r 0 f) := (bw_up (k := 1) (by decide)).trans (bw_congr (fun j h => lt12 (P := fun j => (if j = 1 then some (.inl (.int, 6, .inl f)) else WdC a r j) = WdC a (rup r 0 f) j) (Nat.lt_of_lt_of_le h (by decide)) rfl rfl rfl rfl rfl rfl rfl rfl rfl rfl rfl rfl))
theorem Wdw_u0 (W : jx_W) (a : Nat) (r : Nat → Nat → Int32) (f : Nat → Int32) : jx_uia (Wdw W a r) (a + 1) 6 f = Wdw W a (rup r 0 f) := Wdw_v0 W a r f
theorem Wdw_1 (W : jx_W) (a : Nat) (r : Nat → Nat → Int32) (m : Nat) (f : Nat → Int32) : jx_ba (Wdw W a r) (a + 2) m f ↔ m = 48 ∧ f = r 1 := ba_iff (bw_at (k := 2) (by decide))
theorem Wdw_g1 (W : jx_W) (a : Nat) (r : Nat → Nat → Int32) : (Wdw W a r).2.2 (a + 2) = some (.inl (.byte, 48, .inl (r 1))) := bw_at (k := 2) (by decide)
theorem Wdw_v1 (W : jx_W) (a : Nat) (r : Nat → Nat → Int32) (f : Nat → Int32) : jx_up (Wdw W a r) (a + 2) (.inl (.byte, 48, .inl f)) = Wdw W a (rup r 1 f) := (bw_up (k := 2) (by decide)).trans (bw_congr (fun j h => lt12 (P := fun j => (if j = 2 then some (.inl (.byte, 48, .inl f)) else WdC a r j) = WdC a (rup r 1 f) j) (Nat.lt_of_lt_of_le h (by decide)) rfl rfl rfl rfl rfl rfl rfl rfl rfl rfl rfl rfl))
theorem Wdw_u1 (W : jx_W) (a : Nat) (r : Nat → Nat → Int32) (f : Nat → Int32) : jx_uba (Wdw W a r) (a + 2) 48 f = Wdw W a (rup r 1 f) := Wdw_v1 W a r f
/-! Au -/
def AuF (a : Nat) (c : Nat → Int32) : List Value := [.int (c 0), .ref (a + 1), .ref (a + 2), .ref (a + 3), .ref (a + 4), .ref (a + 5), .ref (a + 6), .ref (a + 7), .ref (a + 8)]
theorem AuF_0 (a : Nat) (c : Nat → Int32) : (AuF a c)[0]? = some (.int (c 0)) := rfl
theorem AuF_s0 (a : Nat) (c : Nat → Int32) (x : Int32) : (AuF a c).set 0 (.int x) = AuF a (upd c 0 x) := rfl
theorem AuF_1 (a : Nat) (c : Nat → Int32) : (AuF a c)[1]? = some (.ref (a + 1)) := rfl
theorem AuF_2 (a : Nat) (c : Nat → Int32) : (AuF a c)[2]? = some (.ref (a + 2)) := rfl
theorem AuF_3 (a : Nat) (c : Nat → Int32) : (AuF a c)[3]? = some (.ref (a + 3)) := rfl
theorem AuF_4 (a : Nat) (c : Nat → Int32) : (AuF a c)[4]? = some (.ref (a + 4)) := rfl
theorem AuF_5 (a : Nat) (c : Nat → Int32) : (AuF a c)[5]? = some (.ref (a + 5)) := rfl
theorem AuF_6 (a : Nat) (c : Nat → Int32) : (AuF a c)[6]? = some (.ref (a + 6)) := rfl
theorem AuF_7 (a : Nat) (c : Nat → Int32) : (AuF a c)[7]? = some (.ref (a + 7)) := rfl
theorem AuF_8 (a : Nat) (c : Nat → Int32) : (AuF a c)[8]? = some (.ref (a + 8)) := rfl
theorem AuF_len (a : Nat) (c : Nat → Int32) : (AuF a c).length = 9 := rfl
def AuC (a : Nat) (c : Nat → Int32) (r : Nat → Nat → Int32) : Nat → Option jx_E
  | 0 => some (.inr (0, AuF a c))
  | 1 => some (.inl (.int, 49, .inl (r 1)))
  | 2 => some (.inl (.int, 49, .inl (r 2)))
  | 3 => some (.inl (.int, 49, .inl (r 3)))
  | 4 => some (.inl (.int, 49, .inl (r 4)))
  | 5 => some (.inl (.int, 49, .inl (r 5)))
  | 6 => some (.inl (.int, 6, .inl (r 6)))
  | 7 => some (.inl (.int, 1274, .inl (r 7)))
  | 8 => some (.inl (.int, 6, .inl (r 8)))
  | _ => none
def Auw (W : jx_W) (a : Nat) (c : Nat → Int32) (r : Nat → Nat → Int32) : jx_W := bw W a 9 (AuC a c r)
theorem Auw_ob (W : jx_W) (a : Nat) (c : Nat → Int32) (r : Nat → Nat → Int32) (fs : List Value) : jx_ob (Auw W a c r) a 0 fs ↔ fs = AuF a c := ob_iff (bw_at (k := 0) (by decide))
theorem Auw_uob (W : jx_W) (a : Nat) (c : Nat → Int32) (r : Nat → Nat → Int32) (c' : Nat → Int32) : jx_uob (Auw W a c r) a 0 (AuF a c') = Auw W a c' r := (bw_up (k := 0) (by decide)).trans (bw_congr (fun j h => lt12 (P := fun j => (if j = 0 then some (.inr (0, AuF a c')) else AuC a c r j) = AuC a c' r j) (Nat.lt_of_lt_of_le h (by decide)) rfl rfl rfl rfl rfl rfl rfl rfl rfl rfl rfl rfl))
theorem Auw_1 (W : jx_W) (a : Nat) (c : Nat → Int32) (r : Nat → Nat → Int32) (m : Nat) (f : Nat → Int32) : jx_ia (Auw W a c r) (a + 1) m f ↔ m = 49 ∧ f = r 1 := ia_iff (bw_at (k := 1) (by decide))
theorem Auw_g1 (W : jx_W) (a : Nat) (c : Nat → Int32) (r : Nat → Nat → Int32) : (Auw W a c r).2.2 (a + 1) = some (.inl (.int, 49, .inl (r 1))) := bw_at (k := 1) (by decide)
theorem Auw_v1 (W : jx_W) (a : Nat) (c : Nat → Int32) (r : Nat → Nat → Int32) (f : Nat → Int32) : jx_up (Auw W a c r) (a + 1) (.inl (.int, 49, .inl f)) = Auw W a c (rup r 1 f) := (bw_up (k := 1) (by decide)).trans (bw_congr (fun j h => lt12 (P := fun j => (if j = 1 then some (.inl (.int, 49, .inl f)) else AuC a c r j) = AuC a c (rup r 1 f) j) (Nat.lt_of_lt_of_le h (by decide)) rfl rfl rfl rfl rfl rfl rfl rfl rfl rfl rfl rfl))
theorem Auw_u1 (W : jx_W) (a : Nat) (c : Nat → Int32) (r : Nat → Nat → Int32) (f : Nat → Int32) : jx_uia (Auw W a c r) (a + 1) 49 f = Auw W a c (rup r 1 f) := Auw_v1 W a c r f
theorem Auw_2 (W : jx_W) (a : Nat) (c : Nat → Int32) (r : Nat → Nat → Int32) (m : Nat) (f : Nat → Int32) : jx_ia (Auw W a c r) (a + 2) m f ↔ m = 49 ∧ f = r 2 := ia_iff (bw_at (k := 2) (by decide))
theorem Auw_g2 (W : jx_W) (a : Nat) (c : Nat → Int32) (r : Nat → Nat → Int32) : (Auw W a c r).2.2 (a + 2) = some (.inl (.int, 49, .inl (r 2))) := bw_at (k := 2) (by decide)
theorem Auw_v2 (W : jx_W) (a : Nat) (c : Nat → Int32) (r : Nat → Nat → Int32) (f : Nat → Int32) : jx_up (Auw W a c r) (a + 2) (.inl (.int, 49, .inl f)) = Auw W a c (rup r 2 f) := (bw_up (k := 2) (by decide)).trans (bw_congr (fun j h => lt12 (P := fun j => (if j = 2 then some (.inl (.int, 49, .inl f)) else AuC a c r j) = AuC a c (rup r 2 f) j) (Nat.lt_of_lt_of_le h (by decide)) rfl rfl rfl rfl rfl rfl rfl rfl rfl rfl rfl rfl))
theorem Auw_u2 (W : jx_W) (a : Nat) (c : Nat → Int32) (r : Nat → Nat → Int32) (f : Nat → Int32) : jx_uia (Auw W a c r) (a + 2) 49 f = Auw W a c (rup r 2 f) := Auw_v2 W a c r f
theorem Auw_3 (W : jx_W) (a : Nat) (c : Nat → Int32) (r : Nat → Nat → Int32) (m : Nat) (f : Nat → Int32) : jx_ia (Auw W a c r) (a + 3) m f ↔ m = 49 ∧ f = r 3 := ia_iff (bw_at (k := 3) (by decide))
theorem Auw_g3 (W : jx_W) (a : Nat) (c : Nat → Int32) (r : Nat → Nat → Int32) : (Auw W a c r).2.2 (a + 3) = some (.inl (.int, 49, .inl (r 3))) := bw_at (k := 3) (by decide)
theorem Auw_v3 (W : jx_W) (a : Nat) (c : Nat → Int32) (r : Nat → Nat → Int32) (f : Nat → Int32) : jx_up (Auw W a c r) (a + 3) (.inl (.int, 49, .inl f)) = Auw W a c (rup r 3 f) := (bw_up (k := 3) (by decide)).trans (bw_congr (fun j h => lt12 (P := fun j => (if j = 3 then some (.inl (.int, 49, .inl f)) else AuC a c r j) = AuC a c (rup r 3 f) j) (Nat.lt_of_lt_of_le h (by decide)) rfl rfl rfl rfl rfl rfl rfl rfl rfl rfl rfl rfl))
theorem Auw_u3 (W : jx_W) (a : Nat) (c : Nat → Int32) (r : Nat → Nat → Int32) (f : Nat → Int32) : jx_uia (Auw W a c r) (a + 3) 49 f = Auw W a c (rup r 3 f) := Auw_v3 W a c r f
theorem Auw_4 (W : jx_W) (a : Nat) (c : Nat → Int32) (r : Nat → Nat → Int32) (m : Nat) (f : Nat → Int32) : jx_ia (Auw W a c r) (a + 4) m f ↔ m = 49 ∧ f = r 4 := ia_iff (bw_at (k := 4) (by decide))
theorem Auw_g4 (W : jx_W) (a : Nat) (c : Nat → Int32) (r : Nat → Nat → Int32) : (Auw W a c r).2.2 (a + 4) = some (.inl (.int, 49, .inl (r 4))) := bw_at (k := 4) (by decide)
theorem Auw_v4 (W : jx_W) (a : Nat) (c : Nat → Int32) (r : Nat → Nat → Int32) (f : Nat → Int32) : jx_up (Auw W a c r) (a + 4) (.inl (.int, 49, .inl f)) = Auw W a c (rup r 4 f) := (bw_up (k := 4) (by decide)).trans (bw_congr (fun j h => lt12 (P := fun j => (if j = 4 then some (.inl (.int, 49, .inl f)) else AuC a c r j) = AuC a c (rup r 4 f) j) (Nat.lt_of_lt_of_le h (by decide)) rfl rfl rfl rfl rfl rfl rfl rfl rfl rfl rfl rfl))
theorem Auw_u4 (W : jx_W) (a : Nat) (c : Nat → Int32) (r : Nat → Nat → Int32) (f : Nat → Int32) : jx_uia (Auw W a c r) (a + 4) 49 f = Auw W a c (rup r 4 f) := Auw_v4 W a c r f
theorem Auw_5 (W : jx_W) (a : Nat) (c : Nat → Int32) (r : Nat → Nat → Int32) (m : Nat) (f : Nat → Int32) : jx_ia (Auw W a c r) (a + 5) m f ↔ m = 49 ∧ f = r 5 := ia_iff (bw_at (k := 5) (by decide))
theorem Auw_g5 (W : jx_W) (a : Nat) (c : Nat → Int32) (r : Nat → Nat → Int32) : (Auw W a c r).2.2 (a + 5) = some (.inl (.int, 49, .inl (r 5))) := bw_at (k := 5) (by decide)
theorem Auw_v5 (W : jx_W) (a : Nat) (c : Nat → Int32) (r : Nat → Nat → Int32) (f : Nat → Int32) : jx_up (Auw W a c r) (a + 5) (.inl (.int, 49, .inl f)) = Auw W a c (rup r 5 f) := (bw_up (k := 5) (by decide)).trans (bw_congr (fun j h => lt12 (P := fun j => (if j = 5 then some (.inl (.int, 49, .inl f)) else AuC a c r j) = AuC a c (rup r 5 f) j) (Nat.lt_of_lt_of_le h (by decide)) rfl rfl rfl rfl rfl rfl rfl rfl rfl rfl rfl rfl))
theorem Auw_u5 (W : jx_W) (a : Nat) (c : Nat → Int32) (r : Nat → Nat → Int32) (f : Nat → Int32) : jx_uia (Auw W a c r) (a + 5) 49 f = Auw W a c (rup r 5 f) := Auw_v5 W a c r f
theorem Auw_6 (W : jx_W) (a : Nat) (c : Nat → Int32) (r : Nat → Nat → Int32) (m : Nat) (f : Nat → Int32) : jx_ia (Auw W a c r) (a + 6) m f ↔ m = 6 ∧ f = r 6 := ia_iff (bw_at (k := 6) (by decide))
theorem Auw_g6 (W : jx_W) (a : Nat) (c : Nat → Int32) (r : Nat → Nat → Int32) : (Auw W a c r).2.2 (a + 6) = some (.inl (.int, 6, .inl (r 6))) := bw_at (k := 6) (by decide)
theorem Auw_v6 (W : jx_W) (a : Nat) (c : Nat → Int32) (r : Nat → Nat → Int32) (f : Nat → Int32) : jx_up (Auw W a c r) (a + 6) (.inl (.int, 6, .inl f)) = Auw W a c (rup r 6 f) := (bw_up (k := 6) (by decide)).trans (bw_congr (fun j h => lt12 (P := fun j => (if j = 6 then some (.inl (.int, 6, .inl f)) else AuC a c r j) = AuC a c (rup r 6 f) j) (Nat.lt_of_lt_of_le h (by decide)) rfl rfl rfl rfl rfl rfl rfl rfl rfl rfl rfl rfl))
theorem Auw_u6 (W : jx_W) (a : Nat) (c : Nat → Int32) (r : Nat → Nat → Int32) (f : Nat → Int32) : jx_uia (Auw W a c r) (a + 6) 6 f = Auw W a c (rup r 6 f) := Auw_v6 W a c r f
theorem Auw_7 (W : jx_W) (a : Nat) (c : Nat → Int32) (r : Nat → Nat → Int32) (m : Nat) (f : Nat → Int32) : jx_ia (Auw W a c r) (a + 7) m f ↔ m = 1274 ∧ f = r 7 := ia_iff (bw_at (k := 7) (by decide))
theorem Auw_g7 (W : jx_W) (a : Nat) (c : Nat → Int32) (r : Nat → Nat → Int32) : (Auw W a c r).2.2 (a + 7) = some (.inl (.int, 1274, .inl (r 7))) := bw_at (k := 7) (by decide)
theorem Auw_v7 (W : jx_W) (a : Nat) (c : Nat → Int32) (r : Nat → Nat → Int32) (f : Nat → Int32) : jx_up (Auw W a c r) (a + 7) (.inl (.int, 1274, .inl f)) = Auw W a c (rup r 7 f) := (bw_up (k := 7) (by decide)).trans (bw_congr (fun j h => lt12 (P := fun j => (if j = 7 then some (.inl (.int, 1274, .inl f)) else AuC a c r j) = AuC a c (rup r 7 f) j) (Nat.lt_of_lt_of_le h (by decide)) rfl rfl rfl rfl rfl rfl rfl rfl rfl rfl rfl rfl))
theorem Auw_u7 (W : jx_W) (a : Nat) (c : Nat → Int32) (r : Nat → Nat → Int32) (f : Nat → Int32) : jx_uia (Auw W a c r) (a + 7) 1274 f = Auw W a c (rup r 7 f) := Auw_v7 W a c r f
theorem Auw_8 (W : jx_W) (a : Nat) (c : Nat → Int32) (r : Nat → Nat → Int32) (m : Nat) (f : Nat → Int32) : jx_ia (Auw W a c r) (a + 8) m f ↔ m = 6 ∧ f = r 8 := ia_iff (bw_at (k := 8) (by decide))
theorem Auw_g8 (W : jx_W) (a : Nat) (c : Nat → Int32) (r : Nat → Nat → Int32) : (Auw W a c r).2.2 (a + 8) = some (.inl (.int, 6, .inl (r 8))) := bw_at (k := 8) (by decide)
theorem Auw_v8 (W : jx_W) (a : Nat) (c : Nat → Int32) (r : Nat → Nat → Int32) (f : Nat → Int32) : jx_up (Auw W a c r) (a + 8) (.inl (.int, 6, .inl f)) = Auw W a c (rup r 8 f) := (bw_up (k := 8) (by decide)).trans (bw_congr (fun j h => lt12 (P := fun j => (if j = 8 then some (.inl (.int, 6, .inl f)) else AuC a c r j) = AuC a c (rup r 8 f) j) (Nat.lt_of_lt_of_le h (by decide)) rfl rfl rfl rfl rfl rfl rfl rfl rfl rfl rfl rfl))
theorem Auw_u8 (W : jx_W) (a : Nat) (c : Nat → Int32) (r : Nat → Nat → Int32) (f : Nat → Int32) : jx_uia (Auw W a c r) (a + 8) 6 f = Auw W a c (rup r 8 f) := Auw_v8 W a c r f
/-! Sg -/
def SgF (a : Nat) (c : Nat → Int32) : List Value := [.int (c 0), .ref (a + 1), .ref (a + 2), .ref (a + 3)]
theorem SgF_0 (a : Nat) (c : Nat → Int32) : (SgF a c)[0]? = some (.int (c 0)) := rfl
theorem SgF_s0 (a : Nat) (c : Nat → Int32) (x : Int32) : (SgF a c).set 0 (.int x) = SgF a (upd c 0 x) := rfl
theorem SgF_1 (a : Nat) (c : Nat → Int32) : (SgF a c)[1]? = some (.ref (a + 1)) := rfl
theorem SgF_2 (a : Nat) (c : Nat → Int32) : (SgF a c)[2]? = some (.ref (a + 2)) := rfl
theorem SgF_3 (a : Nat) (c : Nat → Int32) : (SgF a c)[3]? = some (.ref (a + 3)) := rfl
theorem SgF_len (a : Nat) (c : Nat → Int32) : (SgF a c).length = 4 := rfl
def SgC (a : Nat) (n : Nat) (c : Nat → Int32) (r : Nat → Nat → Int32) : Nat → Option jx_E
  | 0 => some (.inr (4, SgF a c))
  | 1 => some (.inl (.int, n, .inl (r 1)))
  | 2 => some (.inl (.int, n, .inl (r 2)))
  | 3 => some (.inl (.byte, (40 * n), .inl (r 3)))
  | _ => none
def Sgw (W : jx_W) (a : Nat) (n : Nat) (c : Nat → Int32) (r : Nat → Nat → Int32) : jx_W := bw W a 4 (SgC a n c r)
theorem Sgw_ob (W : jx_W) (a : Nat) (n : Nat) (c : Nat → Int32) (r : Nat → Nat → Int32) (fs : List Value) : jx_ob (Sgw W a n c r) a 4 fs ↔ fs = SgF a c := ob_iff (bw_at (k := 0) (by decide))
theorem Sgw_uob (W : jx_W) (a : Nat) (n : Nat) (c : Nat → Int32) (r : Nat → Nat → Int32) (c' : Nat → Int32) : jx_uob (Sgw W a n c r) a 4 (SgF a c') = Sgw W a n c' r := (bw_up (k := 0) (by decide)).trans (bw_congr (fun j h => lt12 (P := fun j => (if j = 0 then some (.inr (4, SgF a c')) else SgC a n c r j) = SgC a n c' r j) (Nat.lt_of_lt_of_le h (by decide)) rfl rfl rfl rfl rfl rfl rfl rfl rfl rfl rfl rfl))
theorem Sgw_1 (W : jx_W) (a : Nat) (n : Nat) (c : Nat → Int32) (r : Nat → Nat → Int32) (m : Nat) (f : Nat → Int32) : jx_ia (Sgw W a n c r) (a + 1) m f ↔ m = n ∧ f = r 1 := ia_iff (bw_at (k := 1) (by decide))
theorem Sgw_g1 (W : jx_W) (a : Nat) (n : Nat) (c : Nat → Int32) (r : Nat → Nat → Int32) : (Sgw W a n c r).2.2 (a + 1) = some (.inl (.int, n, .inl (r 1))) := bw_at (k := 1) (by decide)
theorem Sgw_v1 (W : jx_W) (a : Nat) (n : Nat) (c : Nat → Int32) (r : Nat → Nat → Int32) (f : Nat → Int32) : jx_up (Sgw W a n c r) (a + 1) (.inl (.int, n, .inl f)) = Sgw W a n c (rup r 1 f) := (bw_up (k := 1) (by decide)).trans (bw_congr (fun j h => lt12 (P := fun j => (if j = 1 then some (.inl (.int, n, .inl f)) else SgC a n c r j) = SgC a n c (rup r 1 f) j) (Nat.lt_of_lt_of_le h (by decide)) rfl rfl rfl rfl rfl rfl rfl rfl rfl rfl rfl rfl))
theorem Sgw_u1 (W : jx_W) (a : Nat) (n : Nat) (c : Nat → Int32) (r : Nat → Nat → Int32) (f : Nat → Int32) : jx_uia (Sgw W a n c r) (a + 1) n f = Sgw W a n c (rup r 1 f) := Sgw_v1 W a n c r f
theorem Sgw_2 (W : jx_W) (a : Nat) (n : Nat) (c : Nat → Int32) (r : Nat → Nat → Int32) (m : Nat) (f : Nat → Int32) : jx_ia (Sgw W a n c r) (a + 2) m f ↔ m = n ∧ f = r 2 := ia_iff (bw_at (k := 2) (by decide))
theorem Sgw_g2 (W : jx_W) (a : Nat) (n : Nat) (c : Nat → Int32) (r : Nat → Nat → Int32) : (Sgw W a n c r).2.2 (a + 2) = some (.inl (.int, n, .inl (r 2))) := bw_at (k := 2) (by decide)
theorem Sgw_v2 (W : jx_W) (a : Nat) (n : Nat) (c : Nat → Int32) (r : Nat → Nat → Int32) (f : Nat → Int32) : jx_up (Sgw W a n c r) (a + 2) (.inl (.int, n, .inl f)) = Sgw W a n c (rup r 2 f) := (bw_up (k := 2) (by decide)).trans (bw_congr (fun j h => lt12 (P := fun j => (if j = 2 then some (.inl (.int, n, .inl f)) else SgC a n c r j) = SgC a n c (rup r 2 f) j) (Nat.lt_of_lt_of_le h (by decide)) rfl rfl rfl rfl rfl rfl rfl rfl rfl rfl rfl rfl))
theorem Sgw_u2 (W : jx_W) (a : Nat) (n : Nat) (c : Nat → Int32) (r : Nat → Nat → Int32) (f : Nat → Int32) : jx_uia (Sgw W a n c r) (a + 2) n f = Sgw W a n c (rup r 2 f) := Sgw_v2 W a n c r f
theorem Sgw_3 (W : jx_W) (a : Nat) (n : Nat) (c : Nat → Int32) (r : Nat → Nat → Int32) (m : Nat) (f : Nat → Int32) : jx_ba (Sgw W a n c r) (a + 3) m f ↔ m = (40 * n) ∧ f = r 3 := ba_iff (bw_at (k := 3) (by decide))
theorem Sgw_g3 (W : jx_W) (a : Nat) (n : Nat) (c : Nat → Int32) (r : Nat → Nat → Int32) : (Sgw W a n c r).2.2 (a + 3) = some (.inl (.byte, (40 * n), .inl (r 3))) := bw_at (k := 3) (by decide)
theorem Sgw_v3 (W : jx_W) (a : Nat) (n : Nat) (c : Nat → Int32) (r : Nat → Nat → Int32) (f : Nat → Int32) : jx_up (Sgw W a n c r) (a + 3) (.inl (.byte, (40 * n), .inl f)) = Sgw W a n c (rup r 3 f) := (bw_up (k := 3) (by decide)).trans (bw_congr (fun j h => lt12 (P := fun j => (if j = 3 then some (.inl (.byte, (40 * n), .inl f)) else SgC a n c r j) = SgC a n c (rup r 3 f) j) (Nat.lt_of_lt_of_le h (by decide)) rfl rfl rfl rfl rfl rfl rfl rfl rfl rfl rfl rfl))
theorem Sgw_u3 (W : jx_W) (a : Nat) (n : Nat) (c : Nat → Int32) (r : Nat → Nat → Int32) (f : Nat → Int32) : jx_uba (Sgw W a n c r) (a + 3) (40 * n) f = Sgw W a n c (rup r 3 f) := Sgw_v3 W a n c r f
/-! Rd -/
def RdF (a : Nat) (au fd : Nat) (c : Nat → Int32) (p : Int64) : List Value := [.ref au, .ref fd, .int (c 2), .int (c 3), .int (c 4), .int (c 5), .int (c 6), .int (c 7), .long p, .ref (a + 1), .ref (a + 2), .int (c 11), .int (c 12), .int (c 13), .int (c 14)]
theorem RdF_0 (a : Nat) (au fd : Nat) (c : Nat → Int32) (p : Int64) : (RdF a au fd c p)[0]? = some (.ref au) := rfl
theorem RdF_1 (a : Nat) (au fd : Nat) (c : Nat → Int32) (p : Int64) : (RdF a au fd c p)[1]? = some (.ref fd) := rfl
theorem RdF_2 (a : Nat) (au fd : Nat) (c : Nat → Int32) (p : Int64) : (RdF a au fd c p)[2]? = some (.int (c 2)) := rfl
theorem RdF_s2 (a : Nat) (au fd : Nat) (c : Nat → Int32) (p : Int64) (x : Int32) : (RdF a au fd c p).set 2 (.int x) = RdF a au fd (upd c 2 x) p := rfl
theorem RdF_3 (a : Nat) (au fd : Nat) (c : Nat → Int32) (p : Int64) : (RdF a au fd c p)[3]? = some (.int (c 3)) := rfl
theorem RdF_s3 (a : Nat) (au fd : Nat) (c : Nat → Int32) (p : Int64) (x : Int32) : (RdF a au fd c p).set 3 (.int x) = RdF a au fd (upd c 3 x) p := rfl
theorem RdF_4 (a : Nat) (au fd : Nat) (c : Nat → Int32) (p : Int64) : (RdF a au fd c p)[4]? = some (.int (c 4)) := rfl
theorem RdF_s4 (a : Nat) (au fd : Nat) (c : Nat → Int32) (p : Int64) (x : Int32) : (RdF a au fd c p).set 4 (.int x) = RdF a au fd (upd c 4 x) p := rfl
theorem RdF_5 (a : Nat) (au fd : Nat) (c : Nat → Int32) (p : Int64) : (RdF a au fd c p)[5]? = some (.int (c 5)) := rfl
theorem RdF_s5 (a : Nat) (au fd : Nat) (c : Nat → Int32) (p : Int64) (x : Int32) : (RdF a au fd c p).set 5 (.int x) = RdF a au fd (upd c 5 x) p := rfl
theorem RdF_6 (a : Nat) (au fd : Nat) (c : Nat → Int32) (p : Int64) : (RdF a au fd c p)[6]? = some (.int (c 6)) := rfl
theorem RdF_s6 (a : Nat) (au fd : Nat) (c : Nat → Int32) (p : Int64) (x : Int32) : (RdF a au fd c p).set 6 (.int x) = RdF a au fd (upd c 6 x) p := rfl
theorem RdF_7 (a : Nat) (au fd : Nat) (c : Nat → Int32) (p : Int64) : (RdF a au fd c p)[7]? = some (.int (c 7)) := rfl
theorem RdF_s7 (a : Nat) (au fd : Nat) (c : Nat → Int32) (p : Int64) (x : Int32) : (RdF a au fd c p).set 7 (.int x) = RdF a au fd (upd c 7 x) p := rfl
theorem RdF_8 (a : Nat) (au fd : Nat) (c : Nat → Int32) (p : Int64) : (RdF a au fd c p)[8]? = some (.long p) := rfl
theorem RdF_s8 (a : Nat) (au fd : Nat) (c : Nat → Int32) (p : Int64) (x : Int64) : (RdF a au fd c p).set 8 (.long x) = RdF a au fd c x := rfl
theorem RdF_9 (a : Nat) (au fd : Nat) (c : Nat → Int32) (p : Int64) : (RdF a au fd c p)[9]? = some (.ref (a + 1)) := rfl
theorem RdF_10 (a : Nat) (au fd : Nat) (c : Nat → Int32) (p : Int64) : (RdF a au fd c p)[10]? = some (.ref (a + 2)) := rfl
theorem RdF_11 (a : Nat) (au fd : Nat) (c : Nat → Int32) (p : Int64) : (RdF a au fd c p)[11]? = some (.int (c 11)) := rfl
theorem RdF_s11 (a : Nat) (au fd : Nat) (c : Nat → Int32) (p : Int64) (x : Int32) : (RdF a au fd c p).set 11 (.int x) = RdF a au fd (upd c 11 x) p := rfl
theorem RdF_12 (a : Nat) (au fd : Nat) (c : Nat → Int32) (p : Int64) : (RdF a au fd c p)[12]? = some (.int (c 12)) := rfl
theorem RdF_s12 (a : Nat) (au fd : Nat) (c : Nat → Int32) (p : Int64) (x : Int32) : (RdF a au fd c p).set 12 (.int x) = RdF a au fd (upd c 12 x) p := rfl
theorem RdF_13 (a : Nat) (au fd : Nat) (c : Nat → Int32) (p : Int64) : (RdF a au fd c p)[13]? = some (.int (c 13)) := rfl
theorem RdF_s13 (a : Nat) (au fd : Nat) (c : Nat → Int32) (p : Int64) (x : Int32) : (RdF a au fd c p).set 13 (.int x) = RdF a au fd (upd c 13 x) p := rfl
theorem RdF_14 (a : Nat) (au fd : Nat) (c : Nat → Int32) (p : Int64) : (RdF a au fd c p)[14]? = some (.int (c 14)) := rfl
theorem RdF_s14 (a : Nat) (au fd : Nat) (c : Nat → Int32) (p : Int64) (x : Int32) : (RdF a au fd c p).set 14 (.int x) = RdF a au fd (upd c 14 x) p := rfl
theorem RdF_len (a : Nat) (au fd : Nat) (c : Nat → Int32) (p : Int64) : (RdF a au fd c p).length = 15 := rfl
def RdC (a : Nat) (au fd : Nat) (c : Nat → Int32) (p : Int64) (r : Nat → Nat → Int32) : Nat → Option jx_E
  | 0 => some (.inr (3, RdF a au fd c p))
  | 1 => some (.inl (.int, 8, .inl (r 9)))
  | 2 => some (.inl (.int, 8, .inl (r 10)))
  | _ => none
def Rdw (W : jx_W) (a : Nat) (au fd : Nat) (c : Nat → Int32) (p : Int64) (r : Nat → Nat → Int32) : jx_W := bw W a 3 (RdC a au fd c p r)
theorem Rdw_ob (W : jx_W) (a : Nat) (au fd : Nat) (c : Nat → Int32) (p : Int64) (r : Nat → Nat → Int32) (fs : List Value) : jx_ob (Rdw W a au fd c p r) a 3 fs ↔ fs = RdF a au fd c p := ob_iff (bw_at (k := 0) (by decide))
theorem Rdw_uob (W : jx_W) (a : Nat) (au fd : Nat) (c : Nat → Int32) (p : Int64) (r : Nat → Nat → Int32) (c' : Nat → Int32) (p' : Int64) : jx_uob (Rdw W a au fd c p r) a 3 (RdF a au fd c' p') = Rdw W a au fd c' p' r := (bw_up (k := 0) (by decide)).trans (bw_congr (fun j h => lt12 (P := fun j => (if j = 0 then some (.inr (3, RdF a au fd c' p')) else RdC a au fd c p r j) = RdC a au fd c' p' r j) (Nat.lt_of_lt_of_le h (by decide)) rfl rfl rfl rfl rfl rfl rfl rfl rfl rfl rfl rfl))
theorem Rdw_9 (W : jx_W) (a : Nat) (au fd : Nat) (c : Nat → Int32) (p : Int64) (r : Nat → Nat → Int32) (m : Nat) (f : Nat → Int32) : jx_ia (Rdw W a au fd c p r) (a + 1) m f ↔ m = 8 ∧ f = r 9 := ia_iff (bw_at (k := 1) (by decide))
theorem Rdw_g9 (W : jx_W) (a : Nat) (au fd : Nat) (c : Nat → Int32) (p : Int64) (r : Nat → Nat → Int32) : (Rdw W a au fd c p r).2.2 (a + 1) = some (.inl (.int, 8, .inl (r 9))) := bw_at (k := 1) (by decide)
theorem Rdw_v9 (W : jx_W) (a : Nat) (au fd : Nat) (c : Nat → Int32) (p : Int64) (r : Nat → Nat → Int32) (f : Nat → Int32) : jx_up (Rdw W a au fd c p r) (a + 1) (.inl (.int, 8, .inl f)) = Rdw W a au fd c p (rup r 9 f) := (bw_up (k := 1) (by decide)).trans (bw_congr (fun j h => lt12 (P := fun j => (if j = 1 then some (.inl (.int, 8, .inl f)) else RdC a au fd c p r j) = RdC a au fd c p (rup r 9 f) j) (Nat.lt_of_lt_of_le h (by decide)) rfl rfl rfl rfl rfl rfl rfl rfl rfl rfl rfl rfl))
theorem Rdw_u9 (W : jx_W) (a : Nat) (au fd : Nat) (c : Nat → Int32) (p : Int64) (r : Nat → Nat → Int32) (f : Nat → Int32) : jx_uia (Rdw W a au fd c p r) (a + 1) 8 f = Rdw W a au fd c p (rup r 9 f) := Rdw_v9 W a au fd c p r f
theorem Rdw_10 (W : jx_W) (a : Nat) (au fd : Nat) (c : Nat → Int32) (p : Int64) (r : Nat → Nat → Int32) (m : Nat) (f : Nat → Int32) : jx_ia (Rdw W a au fd c p r) (a + 2) m f ↔ m = 8 ∧ f = r 10 := ia_iff (bw_at (k := 2) (by decide))
theorem Rdw_g10 (W : jx_W) (a : Nat) (au fd : Nat) (c : Nat → Int32) (p : Int64) (r : Nat → Nat → Int32) : (Rdw W a au fd c p r).2.2 (a + 2) = some (.inl (.int, 8, .inl (r 10))) := bw_at (k := 2) (by decide)
theorem Rdw_v10 (W : jx_W) (a : Nat) (au fd : Nat) (c : Nat → Int32) (p : Int64) (r : Nat → Nat → Int32) (f : Nat → Int32) : jx_up (Rdw W a au fd c p r) (a + 2) (.inl (.int, 8, .inl f)) = Rdw W a au fd c p (rup r 10 f) := (bw_up (k := 2) (by decide)).trans (bw_congr (fun j h => lt12 (P := fun j => (if j = 2 then some (.inl (.int, 8, .inl f)) else RdC a au fd c p r j) = RdC a au fd c p (rup r 10 f) j) (Nat.lt_of_lt_of_le h (by decide)) rfl rfl rfl rfl rfl rfl rfl rfl rfl rfl rfl rfl))
theorem Rdw_u10 (W : jx_W) (a : Nat) (au fd : Nat) (c : Nat → Int32) (p : Int64) (r : Nat → Nat → Int32) (f : Nat → Int32) : jx_uia (Rdw W a au fd c p r) (a + 2) 8 f = Rdw W a au fd c p (rup r 10 f) := Rdw_v10 W a au fd c p r f
/-! the flow: its object (a), its pieces (from a + gp + 1), its log (a + gp + 5), its reader (a + gp + 9) -/
abbrev cSg : Type := (Nat → Int32) × (Nat → Nat → Int32)
abbrev cRd : Type := (Nat → Int32) × Int64 × (Nat → Nat → Int32)
abbrev cFl : Type := (Nat → Int32) × cSg × cSg × cRd
theorem bw_up_out {W : jx_W} {b n x : Nat} {C : Nat → Option jx_E} {e : jx_E} (h : x < b ∨ b + n ≤ x) : jx_up (bw W b n C) x e = bw (jx_up W x e) b n C := by
  refine jx_ext rfl rfl (fun a => ?_)
  show (if a = x then some e else if b ≤ a ∧ a < b + n then C (a - b) else W.2.2 a) = if b ≤ a ∧ a < b + n then C (a - b) else (if a = x then some e else W.2.2 a)
  by_cases h1 : a = x
  · rw [if_pos h1, if_neg (by omega), if_pos h1]
  · rw [if_neg h1, if_neg h1]
def FlF (b : Nat) (c : Nat → Int32) : List Value := [.int (c 0), .int (c 1), .int (c 2), .int (c 3), .ref (b + 1), .ref (b + 5), .ref (b + 9), .int (c 7), .int (c 8), .int (c 9), .int (c 10), .int (c 11)]
theorem FlF_0 (b : Nat) (c : Nat → Int32) : (FlF b c)[0]? = some (.int (c 0)) := rfl
theorem FlF_s0 (b : Nat) (c : Nat → Int32) (x : Int32) : (FlF b c).set 0 (.int x) = FlF b (upd c 0 x) := rfl
theorem FlF_1 (b : Nat) (c : Nat → Int32) : (FlF b c)[1]? = some (.int (c 1)) := rfl
theorem FlF_s1 (b : Nat) (c : Nat → Int32) (x : Int32) : (FlF b c).set 1 (.int x) = FlF b (upd c 1 x) := rfl
theorem FlF_2 (b : Nat) (c : Nat → Int32) : (FlF b c)[2]? = some (.int (c 2)) := rfl
theorem FlF_s2 (b : Nat) (c : Nat → Int32) (x : Int32) : (FlF b c).set 2 (.int x) = FlF b (upd c 2 x) := rfl
theorem FlF_3 (b : Nat) (c : Nat → Int32) : (FlF b c)[3]? = some (.int (c 3)) := rfl
theorem FlF_s3 (b : Nat) (c : Nat → Int32) (x : Int32) : (FlF b c).set 3 (.int x) = FlF b (upd c 3 x) := rfl
theorem FlF_4 (b : Nat) (c : Nat → Int32) : (FlF b c)[4]? = some (.ref (b + 1)) := rfl
theorem FlF_5 (b : Nat) (c : Nat → Int32) : (FlF b c)[5]? = some (.ref (b + 5)) := rfl
theorem FlF_6 (b : Nat) (c : Nat → Int32) : (FlF b c)[6]? = some (.ref (b + 9)) := rfl
theorem FlF_7 (b : Nat) (c : Nat → Int32) : (FlF b c)[7]? = some (.int (c 7)) := rfl
theorem FlF_s7 (b : Nat) (c : Nat → Int32) (x : Int32) : (FlF b c).set 7 (.int x) = FlF b (upd c 7 x) := rfl
theorem FlF_8 (b : Nat) (c : Nat → Int32) : (FlF b c)[8]? = some (.int (c 8)) := rfl
theorem FlF_s8 (b : Nat) (c : Nat → Int32) (x : Int32) : (FlF b c).set 8 (.int x) = FlF b (upd c 8 x) := rfl
theorem FlF_9 (b : Nat) (c : Nat → Int32) : (FlF b c)[9]? = some (.int (c 9)) := rfl
theorem FlF_s9 (b : Nat) (c : Nat → Int32) (x : Int32) : (FlF b c).set 9 (.int x) = FlF b (upd c 9 x) := rfl
theorem FlF_10 (b : Nat) (c : Nat → Int32) : (FlF b c)[10]? = some (.int (c 10)) := rfl
theorem FlF_s10 (b : Nat) (c : Nat → Int32) (x : Int32) : (FlF b c).set 10 (.int x) = FlF b (upd c 10 x) := rfl
theorem FlF_11 (b : Nat) (c : Nat → Int32) : (FlF b c)[11]? = some (.int (c 11)) := rfl
theorem FlF_s11 (b : Nat) (c : Nat → Int32) (x : Int32) : (FlF b c).set 11 (.int x) = FlF b (upd c 11 x) := rfl
theorem FlF_len (b : Nat) (c : Nat → Int32) : (FlF b c).length = 12 := rfl
def FbC (b au fd : Nat) (Y : cSg × cSg × cRd) : Nat → Option jx_E
  | 0 => SgC (b + 1) 6 Y.1.1 Y.1.2 0
  | 1 => SgC (b + 1) 6 Y.1.1 Y.1.2 1
  | 2 => SgC (b + 1) 6 Y.1.1 Y.1.2 2
  | 3 => SgC (b + 1) 6 Y.1.1 Y.1.2 3
  | 4 => SgC (b + 5) 10 Y.2.1.1 Y.2.1.2 0
  | 5 => SgC (b + 5) 10 Y.2.1.1 Y.2.1.2 1
  | 6 => SgC (b + 5) 10 Y.2.1.1 Y.2.1.2 2
  | 7 => SgC (b + 5) 10 Y.2.1.1 Y.2.1.2 3
  | 8 => RdC (b + 9) au fd Y.2.2.1 Y.2.2.2.1 Y.2.2.2.2 0
  | 9 => RdC (b + 9) au fd Y.2.2.1 Y.2.2.2.1 Y.2.2.2.2 1
  | 10 => RdC (b + 9) au fd Y.2.2.1 Y.2.2.2.1 Y.2.2.2.2 2
  | _ => none
def FoC (b : Nat) (c : Nat → Int32) : Nat → Option jx_E := fun _ => some (.inr (2, FlF b c))
def Flw (W : jx_W) (a gp au fd : Nat) (X : cFl) : jx_W := bw (bw W (a + gp + 1) 11 (FbC (a + gp) au fd X.2)) a 1 (FoC (a + gp) X.1)
def FAt (W : jx_W) (a gp au fd : Nat) (X : cFl) : Prop := W.2.2 a = some (.inr (2, FlF (a + gp) X.1)) ∧ At W (a + gp + 1) 11 (FbC (a + gp) au fd X.2)
theorem Flw_at {W : jx_W} {a gp au fd : Nat} {X : cFl} : FAt (Flw W a gp au fd X) a gp au fd X := ⟨bw_at (k := 0) (by decide), At_out At_bw (by omega)⟩
theorem Flw_eq {W : jx_W} {a gp au fd : Nat} {X : cFl} (h : FAt W a gp au fd X) : Flw W a gp au fd X = W := by
  unfold Flw
  rw [bw_self h.2]
  refine bw_self (fun j hj => ?_)
  obtain rfl : j = 0 := by omega
  exact h.1
theorem Flw_same {W : jx_W} {a gp au fd : Nat} {X X' : cFl} : Flw (Flw W a gp au fd X) a gp au fd X' = Flw W a gp au fd X' := by
  unfold Flw
  rw [bw_comm (b := a) (n := 1) (b' := a + gp + 1) (n' := 11) (by omega), bw_same, bw_same]
theorem FAt_out {W : jx_W} {a gp au fd : Nat} {X : cFl} {b n : Nat} {C : Nat → Option jx_E} (h : FAt W a gp au fd X) (h1 : b + n ≤ a ∨ a < b) (h2 : b + n ≤ a + gp + 1 ∨ a + gp + 12 ≤ b) : FAt (bw W b n C) a gp au fd X := ⟨(bw_out (by omega)).trans h.1, At_out h.2 (by omega)⟩
theorem Flw_ob (W : jx_W) (a gp au fd : Nat) (X : cFl) (fs : List Value) : jx_ob (Flw W a gp au fd X) a 2 fs ↔ fs = FlF (a + gp) X.1 := ob_iff (bw_at (k := 0) (by decide))
theorem Flw_uob (W : jx_W) (a gp au fd : Nat) (X : cFl) (c' : Nat → Int32) : jx_uob (Flw W a gp au fd X) a 2 (FlF (a + gp) c') = Flw W a gp au fd (c', X.2) := (bw_up (k := 0) (by decide)).trans (bw_congr (fun j h => by
  obtain rfl : j = 0 := by omega
  rfl))
theorem Flw_b (W : jx_W) (a gp au fd : Nat) (X : cFl) (k : Nat) (h : k < 11) : (Flw W a gp au fd X).2.2 (a + gp + 1 + k) = FbC (a + gp) au fd X.2 k := (bw_out (by omega)).trans (bw_at h)
theorem Flw_pob (W : jx_W) (a gp au fd : Nat) (X : cFl) (fs : List Value) : jx_ob (Flw W a gp au fd X) (a + gp + 1) 4 fs ↔ fs = SgF (a + gp + 1) X.2.1.1 := ob_iff (Flw_b W a gp au fd X 0 (by decide))
theorem Flw_upob (W : jx_W) (a gp au fd : Nat) (X : cFl) (c' : Nat → Int32) : jx_uob (Flw W a gp au fd X) (a + gp + 1) 4 (SgF (a + gp + 1) c') = Flw W a gp au fd (X.1, (c', X.2.1.2), X.2.2) := by
  show jx_up (bw (bw W (a + gp + 1) 11 (FbC (a + gp) au fd X.2)) a 1 (FoC (a + gp) X.1)) (a + gp + 1 + 0) _ = _
  rw [bw_up_out (by omega), bw_up (k := 0) (by decide)]
  show bw _ a 1 _ = bw _ a 1 _
  congr 1
  exact bw_congr (fun j h => lt12 (P := fun j => (if j = 0 then some (.inr (4, SgF (a + gp + 1) c')) else FbC (a + gp) au fd X.2 j) = FbC (a + gp) au fd ((X.1, (c', X.2.1.2), X.2.2) : cFl).2 j) (Nat.lt_of_lt_of_le h (by decide)) rfl rfl rfl rfl rfl rfl rfl rfl rfl rfl rfl rfl)
theorem Flw_p1 (W : jx_W) (a gp au fd : Nat) (X : cFl) (m : Nat) (f : Nat → Int32) : jx_ia (Flw W a gp au fd X) (a + gp + 1 + 1) m f ↔ m = 6 ∧ f = X.2.1.2 1 := ia_iff (Flw_b W a gp au fd X 1 (by decide))
theorem Flw_p2 (W : jx_W) (a gp au fd : Nat) (X : cFl) (m : Nat) (f : Nat → Int32) : jx_ia (Flw W a gp au fd X) (a + gp + 1 + 2) m f ↔ m = 6 ∧ f = X.2.1.2 2 := ia_iff (Flw_b W a gp au fd X 2 (by decide))
theorem Flw_p3 (W : jx_W) (a gp au fd : Nat) (X : cFl) (m : Nat) (f : Nat → Int32) : jx_ba (Flw W a gp au fd X) (a + gp + 1 + 3) m f ↔ m = 240 ∧ f = X.2.1.2 3 := ba_iff (Flw_b W a gp au fd X 3 (by decide))
theorem Flw_lob (W : jx_W) (a gp au fd : Nat) (X : cFl) (fs : List Value) : jx_ob (Flw W a gp au fd X) (a + gp + 5) 4 fs ↔ fs = SgF (a + gp + 5) X.2.2.1.1 := ob_iff (Flw_b W a gp au fd X 4 (by decide))
theorem Flw_ulob (W : jx_W) (a gp au fd : Nat) (X : cFl) (c' : Nat → Int32) : jx_uob (Flw W a gp au fd X) (a + gp + 5) 4 (SgF (a + gp + 5) c') = Flw W a gp au fd (X.1, X.2.1, (c', X.2.2.1.2), X.2.2.2) := by
  show jx_up (bw (bw W (a + gp + 1) 11 (FbC (a + gp) au fd X.2)) a 1 (FoC (a + gp) X.1)) (a + gp + 1 + 4) _ = _
  rw [bw_up_out (by omega), bw_up (k := 4) (by decide)]
  show bw _ a 1 _ = bw _ a 1 _
  congr 1
  exact bw_congr (fun j h => lt12 (P := fun j => (if j = 4 then some (.inr (4, SgF (a + gp + 5) c')) else FbC (a + gp) au fd X.2 j) = FbC (a + gp) au fd ((X.1, X.2.1, (c', X.2.2.1.2), X.2.2.2) : cFl).2 j) (Nat.lt_of_lt_of_le h (by decide)) rfl rfl rfl rfl rfl rfl rfl rfl rfl rfl rfl rfl)
theorem Flw_l1 (W : jx_W) (a gp au fd : Nat) (X : cFl) (m : Nat) (f : Nat → Int32) : jx_ia (Flw W a gp au fd X) (a + gp + 5 + 1) m f ↔ m = 10 ∧ f = X.2.2.1.2 1 := ia_iff (Flw_b W a gp au fd X 5 (by decide))
theorem Flw_l2 (W : jx_W) (a gp au fd : Nat) (X : cFl) (m : Nat) (f : Nat → Int32) : jx_ia (Flw W a gp au fd X) (a + gp + 5 + 2) m f ↔ m = 10 ∧ f = X.2.2.1.2 2 := ia_iff (Flw_b W a gp au fd X 6 (by decide))
theorem Flw_l3 (W : jx_W) (a gp au fd : Nat) (X : cFl) (m : Nat) (f : Nat → Int32) : jx_ba (Flw W a gp au fd X) (a + gp + 5 + 3) m f ↔ m = 400 ∧ f = X.2.2.1.2 3 := ba_iff (Flw_b W a gp au fd X 7 (by decide))
theorem Flw_rob (W : jx_W) (a gp au fd : Nat) (X : cFl) (fs : List Value) : jx_ob (Flw W a gp au fd X) (a + gp + 9) 3 fs ↔ fs = RdF (a + gp + 9) au fd X.2.2.2.1 X.2.2.2.2.1 := ob_iff (Flw_b W a gp au fd X 8 (by decide))
theorem FlP {W : jx_W} {a gp au fd : Nat} {X : cFl} (h : FAt W a gp au fd X) : At W (a + gp + 1) 4 (SgC (a + gp + 1) 6 X.2.1.1 X.2.1.2) := fun j hj => (h.2 j (by omega)).trans (match j, hj with
  | 0, _ => rfl
  | 1, _ => rfl
  | 2, _ => rfl
  | 3, _ => rfl
  | j + 4, h => absurd h (by omega))
theorem FlL {W : jx_W} {a gp au fd : Nat} {X : cFl} (h : FAt W a gp au fd X) : At W (a + gp + 5) 4 (SgC (a + gp + 5) 10 X.2.2.1.1 X.2.2.1.2) := fun j hj => (show a + gp + 5 + j = a + gp + 1 + (4 + j) by omega) ▸ (h.2 (4 + j) (by omega)).trans (match j, hj with
  | 0, _ => rfl
  | 1, _ => rfl
  | 2, _ => rfl
  | 3, _ => rfl
  | j + 4, h => absurd h (by omega))
theorem FlR {W : jx_W} {a gp au fd : Nat} {X : cFl} (h : FAt W a gp au fd X) : At W (a + gp + 9) 3 (RdC (a + gp + 9) au fd X.2.2.2.1 X.2.2.2.2.1 X.2.2.2.2.2) := fun j hj => (show a + gp + 9 + j = a + gp + 1 + (8 + j) by omega) ▸ (h.2 (8 + j) (by omega)).trans (match j, hj with
  | 0, _ => rfl
  | 1, _ => rfl
  | 2, _ => rfl
  | j + 3, h => absurd h (by omega))
theorem Flw_atP {W : jx_W} {a gp au fd : Nat} {X : cFl} : At (Flw W a gp au fd X) (a + gp + 1) 4 (SgC (a + gp + 1) 6 X.2.1.1 X.2.1.2) := FlP Flw_at
theorem Flw_atL {W : jx_W} {a gp au fd : Nat} {X : cFl} : At (Flw W a gp au fd X) (a + gp + 5) 4 (SgC (a + gp + 5) 10 X.2.2.1.1 X.2.2.1.2) := FlL Flw_at
theorem Flw_atR {W : jx_W} {a gp au fd : Nat} {X : cFl} : At (Flw W a gp au fd X) (a + gp + 9) 3 (RdC (a + gp + 9) au fd X.2.2.2.1 X.2.2.2.2.1 X.2.2.2.2.2) := FlR Flw_at
theorem Flw_bP (W : jx_W) (a gp au fd : Nat) (X : cFl) (c' : Nat → Int32) (r' : Nat → Nat → Int32) : Sgw (Flw W a gp au fd X) (a + gp + 1) 6 c' r' = Flw W a gp au fd (X.1, (c', r'), X.2.2) := by
  show bw (bw (bw W (a + gp + 1) 11 (FbC (a + gp) au fd X.2)) a 1 (FoC (a + gp) X.1)) (a + gp + 1 + 0) 4 (SgC (a + gp + 1) 6 c' r') = _
  rw [bw_comm (b := a) (n := 1) (b' := a + gp + 1 + 0) (n' := 4) (by omega), bw_bw (o := 0) (m := 4) (by decide)]
  show bw _ a 1 _ = bw _ a 1 _
  congr 1
  exact bw_congr (fun j h => lt12 (P := fun j => (if 0 ≤ j ∧ j < 0 + 4 then SgC (a + gp + 1) 6 c' r' (j - 0) else FbC (a + gp) au fd X.2 j) = FbC (a + gp) au fd ((X.1, (c', r'), X.2.2) : cFl).2 j) (Nat.lt_of_lt_of_le h (by decide)) rfl rfl rfl rfl rfl rfl rfl rfl rfl rfl rfl rfl)
theorem Flw_bL (W : jx_W) (a gp au fd : Nat) (X : cFl) (c' : Nat → Int32) (r' : Nat → Nat → Int32) : Sgw (Flw W a gp au fd X) (a + gp + 5) 10 c' r' = Flw W a gp au fd (X.1, X.2.1, (c', r'), X.2.2.2) := by
  show bw (bw (bw W (a + gp + 1) 11 (FbC (a + gp) au fd X.2)) a 1 (FoC (a + gp) X.1)) (a + gp + 1 + 4) 4 (SgC (a + gp + 5) 10 c' r') = _
  rw [bw_comm (b := a) (n := 1) (b' := a + gp + 1 + 4) (n' := 4) (by omega), bw_bw (o := 4) (m := 4) (by decide)]
  show bw _ a 1 _ = bw _ a 1 _
  congr 1
  exact bw_congr (fun j h => lt12 (P := fun j => (if 4 ≤ j ∧ j < 4 + 4 then SgC (a + gp + 5) 10 c' r' (j - 4) else FbC (a + gp) au fd X.2 j) = FbC (a + gp) au fd ((X.1, X.2.1, (c', r'), X.2.2.2) : cFl).2 j) (Nat.lt_of_lt_of_le h (by decide)) rfl rfl rfl rfl rfl rfl rfl rfl rfl rfl rfl rfl)
theorem Flw_bR (W : jx_W) (a gp au fd : Nat) (X : cFl) (c' : Nat → Int32) (p' : Int64) (r' : Nat → Nat → Int32) : Rdw (Flw W a gp au fd X) (a + gp + 9) au fd c' p' r' = Flw W a gp au fd (X.1, X.2.1, X.2.2.1, c', p', r') := by
  show bw (bw (bw W (a + gp + 1) 11 (FbC (a + gp) au fd X.2)) a 1 (FoC (a + gp) X.1)) (a + gp + 1 + 8) 3 (RdC (a + gp + 9) au fd c' p' r') = _
  rw [bw_comm (b := a) (n := 1) (b' := a + gp + 1 + 8) (n' := 3) (by omega), bw_bw (o := 8) (m := 3) (by decide)]
  show bw _ a 1 _ = bw _ a 1 _
  congr 1
  exact bw_congr (fun j h => lt12 (P := fun j => (if 8 ≤ j ∧ j < 8 + 3 then RdC (a + gp + 9) au fd c' p' r' (j - 8) else FbC (a + gp) au fd X.2 j) = FbC (a + gp) au fd ((X.1, X.2.1, X.2.2.1, c', p', r') : cFl).2 j) (Nat.lt_of_lt_of_le h (by decide)) rfl rfl rfl rfl rfl rfl rfl rfl rfl rfl rfl rfl)
