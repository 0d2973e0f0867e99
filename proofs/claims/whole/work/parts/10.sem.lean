/-! THE PLAIN MACHINE: a store, and what each instruction asks of it (a predicate transformer). A cell: an array (its type, length, contents) or an object (its class' number, its fields); an array marked .short is one of ints that is only read. -/
abbrev jx_E : Type := (FieldType × vp_A) ⊕ (Nat × List Value)
/-- where the next cell comes; the static references; the cells -/
abbrev jx_W : Type := Nat × (Nat → Nat) × (Nat → Option jx_E)
abbrev jx_L : Type := List (Nat × Value)
abbrev jx_Q : Type := jx_W → Option Value → Prop
abbrev jx_K : Type := jx_L → List Value → Nat → Nat → jx_W → Prop
abbrev jx_C : Type := Nat → List Value → jx_W → jx_Q → Prop
abbrev jx_J : Type := Nat → jx_K
abbrev jx_T : Type := jx_C → jx_J → jx_Q → jx_K → jx_K
/-- an instruction: its length, itself, what it is linked to -/
abbrev jx_I : Type := Nat × Instr × List Nat
def jx_up (w : jx_W) (a : Nat) (e : jx_E) : jx_W := (w.1, w.2.1, fun b => if b = a then some e else w.2.2 b)
def jx_al (w : jx_W) (e : jx_E) : jx_W := (w.1 + 1, w.2.1, fun b => if b = w.1 then some e else w.2.2 b)
def jx_ob (w : jx_W) (a ci : Nat) (fs : List Value) : Prop := w.2.2 a = some (.inr (ci, fs))
def jx_ia (w : jx_W) (a n : Nat) (f : Nat → Int32) : Prop := w.2.2 a = some (.inl (.int, n, .inl f))
def jx_ba (w : jx_W) (a n : Nat) (f : Nat → Int32) : Prop := w.2.2 a = some (.inl (.byte, n, .inl f))
def jx_ro (w : jx_W) (a n : Nat) (f : Nat → Int32) : Prop := w.2.2 a = some (.inl (.short, n, .inl f))
def jx_ra (w : jx_W) (a : Nat) (C : String) (n : Nat) (f : Nat → Option Nat) : Prop := w.2.2 a = some (.inl (.object C, n, .inr (.inr (.inr (.inr f)))))
def jx_uob (w : jx_W) (a ci : Nat) (fs : List Value) : jx_W := jx_up w a (.inr (ci, fs))
def jx_uia (w : jx_W) (a n : Nat) (f : Nat → Int32) : jx_W := jx_up w a (.inl (.int, n, .inl f))
def jx_uba (w : jx_W) (a n : Nat) (f : Nat → Int32) : jx_W := jx_up w a (.inl (.byte, n, .inl f))
def jx_ura (w : jx_W) (a : Nat) (C : String) (n : Nat) (f : Nat → Option Nat) : jx_W := jx_up w a (.inl (.object C, n, .inr (.inr (.inr (.inr f)))))
def jx_nm (ci : Nat) : String := match vwCl[ci]? with
  | some r => r.1
  | none => ""
def jx_get : jx_L → Nat → Option Value
  | [], _ => none
  | (j, v) :: t, i => match Nat.beq j i with
    | true => some v
    | false => jx_get t i
def jx_s1 (lv : jx_L) (i : Nat) (v : Value) : jx_L := (i, v) :: lv.filter (fun q => !(q.1 == i) && !(q.1 + 1 == i && q.2.category == 2))
def jx_s2 (lv : jx_L) (i : Nat) (v : Value) : jx_L := (i, v) :: lv.filter (fun q => !(q.1 == i) && (!(q.1 == i + 1) && !(q.1 + 1 == i && q.2.category == 2)))
/-- the locals that a block wants, in its order -/
def jx_pick : List Nat → jx_L → jx_L
  | [], _ => []
  | i :: t, lv => match jx_get lv i with
    | some v => (i, v) :: jx_pick t lv
    | none => jx_pick t lv
def jx_lit : List Nat → Int32
  | [0, n] => Int32.ofNat n
  | [1, n] => -(Int32.ofNat n)
  | _ => 0
def jt_bad : jx_T := fun _ _ _ _ _ _ _ _ _ => False
def jt_c (v : Value) : jx_T := fun _ _ _ k lv st bc bs w => k lv (v :: st) bc bs w
def jt_ldi (i : Nat) : jx_T := fun _ _ _ k lv st bc bs w => match jx_get lv i with
  | some (.int x) => k lv (.int x :: st) bc bs w
  | _ => False
def jt_ldl (i : Nat) : jx_T := fun _ _ _ k lv st bc bs w => match jx_get lv i with
  | some (.long x) => k lv (.long x :: st) bc bs w
  | _ => False
def jt_lda (i : Nat) : jx_T := fun _ _ _ k lv st bc bs w => match jx_get lv i with
  | some (.ref x) => k lv (.ref x :: st) bc bs w
  | _ => False
def jt_sti (i : Nat) : jx_T := fun _ _ _ k lv st bc bs w => match st with
  | .int x :: r => k (jx_s1 lv i (.int x)) r bc bs w
  | _ => False
def jt_stl (i : Nat) : jx_T := fun _ _ _ k lv st bc bs w => match st with
  | .long x :: r => k (jx_s2 lv i (.long x)) r bc bs w
  | _ => False
def jt_sta (i : Nat) : jx_T := fun _ _ _ k lv st bc bs w => match st with
  | .ref x :: r => k (jx_s1 lv i (.ref x)) r bc bs w
  | _ => False
def jt_inc (i : Nat) (v : Int32) : jx_T := fun _ _ _ k lv st bc bs w => match jx_get lv i with
  | some (.int x) => k (jx_s1 lv i (.int (x + v))) st bc bs w
  | _ => False
def jt_ii (f : Int32 → Int32 → Int32) : jx_T := fun _ _ _ k lv st bc bs w => match st with
  | .int y :: .int x :: r => k lv (.int (f x y) :: r) bc bs w
  | _ => False
def jt_irem : jx_T := fun _ _ _ k lv st bc bs w => match st with
  | .int y :: .int x :: r => ¬ y = 0 ∧ k lv (.int (x - x / y * y) :: r) bc bs w
  | _ => False
def jt_ll (f : Int64 → Int64 → Int64) : jx_T := fun _ _ _ k lv st bc bs w => match st with
  | .long y :: .long x :: r => k lv (.long (f x y) :: r) bc bs w
  | _ => False
def jt_li (f : Int64 → Int32 → Int64) : jx_T := fun _ _ _ k lv st bc bs w => match st with
  | .int y :: .long x :: r => k lv (.long (f x y) :: r) bc bs w
  | _ => False
def jt_lcmp : jx_T := fun _ _ _ k lv st bc bs w => match st with
  | .long y :: .long x :: r => k lv (.int (lg_cmp x y) :: r) bc bs w
  | _ => False
def jt_i2l : jx_T := fun _ _ _ k lv st bc bs w => match st with
  | .int x :: r => k lv (.long x.toInt64 :: r) bc bs w
  | _ => False
def jt_l2i : jx_T := fun _ _ _ k lv st bc bs w => match st with
  | .long x :: r => k lv (.int x.toInt32 :: r) bc bs w
  | _ => False
def jt_i2b : jx_T := fun _ _ _ k lv st bc bs w => match st with
  | .int x :: r => k lv (.int x.toInt8.toInt32 :: r) bc bs w
  | _ => False
def jt_dup : jx_T := fun _ _ _ k lv st bc bs w => match st with
  | .int x :: r => k lv (.int x :: .int x :: r) bc bs w
  | .ref x :: r => k lv (.ref x :: .ref x :: r) bc bs w
  | _ => False
def jt_dup2 : jx_T := fun _ _ _ k lv st bc bs w => match st with
  | .int y :: .ref x :: r => k lv (.int y :: .ref x :: .int y :: .ref x :: r) bc bs w
  | _ => False
def jt_pop : jx_T := fun _ _ _ k lv st bc bs w => match st with
  | .int _ :: r => k lv r bc bs w
  | .ref _ :: r => k lv r bc bs w
  | _ => False
def jt_if (f g : Int32 → Prop) (b : Nat) : jx_T := fun _ j _ k lv st bc bs w => match st with
  | .int x :: r => (f x → j b lv r bc bs w) ∧ (g x → k lv r bc bs w)
  | _ => False
def jt_cmp (f g : Int32 → Int32 → Prop) (b : Nat) : jx_T := fun _ j _ k lv st bc bs w => match st with
  | .int y :: .int x :: r => (f x y → j b lv r bc bs w) ∧ (g x y → k lv r bc bs w)
  | _ => False
def jt_go (b : Nat) : jx_T := fun _ j _ _ lv st bc bs w => j b lv st bc bs w
/-- a table of jumps from lo on, then the default's -/
def jx_sw (x : Int32) (lo : Int) (d : Nat) (jj : Nat → Prop) : List Nat → Int → Prop
  | [], n => (x.toInt < lo ∨ n ≤ x.toInt) → jj d
  | b :: t, n => (x.toInt = n → jj b) ∧ jx_sw x lo d jj t (n + 1)
def jt_sw (lo : Int) (d : Nat) (bs0 : List Nat) : jx_T := fun _ j _ _ lv st bc bs w => match st with
  | .int x :: r => jx_sw x lo d (fun b => j b lv r bc bs w) bs0 lo
  | _ => False
def jt_gfi (ci i : Nat) : jx_T := fun _ _ _ k lv st bc bs w => match st with
  | .ref a :: r => ∃ (fs : List Value) (x : Int32), jx_ob w a ci fs ∧ fs[i]? = some (.int x) ∧ k lv (.int x :: r) bc bs w
  | _ => False
def jt_gfl (ci i : Nat) : jx_T := fun _ _ _ k lv st bc bs w => match st with
  | .ref a :: r => ∃ (fs : List Value) (x : Int64), jx_ob w a ci fs ∧ fs[i]? = some (.long x) ∧ k lv (.long x :: r) bc bs w
  | _ => False
def jt_gfr (ci i : Nat) : jx_T := fun _ _ _ k lv st bc bs w => match st with
  | .ref a :: r => ∃ (fs : List Value) (x : Nat), jx_ob w a ci fs ∧ fs[i]? = some (.ref x) ∧ k lv (.ref x :: r) bc bs w
  | _ => False
def jt_pfi (ci i : Nat) : jx_T := fun _ _ _ k lv st bc bs w => match st with
  | .int x :: .ref a :: r => ∃ fs : List Value, jx_ob w a ci fs ∧ i < fs.length ∧ k lv r bc bs (jx_uob w a ci (fs.set i (.int x)))
  | _ => False
def jt_pfz (ci i : Nat) : jx_T := fun _ _ _ k lv st bc bs w => match st with
  | .int x :: .ref a :: r => ∃ fs : List Value, jx_ob w a ci fs ∧ i < fs.length ∧ (x = 0 ∨ x = 1) ∧ k lv r bc bs (jx_uob w a ci (fs.set i (.int x)))
  | _ => False
def jt_pfl (ci i : Nat) : jx_T := fun _ _ _ k lv st bc bs w => match st with
  | .long x :: .ref a :: r => ∃ fs : List Value, jx_ob w a ci fs ∧ i < fs.length ∧ k lv r bc bs (jx_uob w a ci (fs.set i (.long x)))
  | _ => False
def jt_pfr (ci i : Nat) : jx_T := fun _ _ _ k lv st bc bs w => match st with
  | .ref x :: .ref a :: r => ∃ fs : List Value, jx_ob w a ci fs ∧ i < fs.length ∧ k lv r bc bs (jx_uob w a ci (fs.set i (.ref x)))
  | _ => False
def jt_gs (i : Nat) : jx_T := fun _ _ _ k lv st bc bs w => k lv (.ref (w.2.1 i) :: st) bc bs w
def jt_iald : jx_T := fun _ _ _ k lv st bc bs w => match st with
  | .int i :: .ref a :: r => ∃ (n : Nat) (f : Nat → Int32), jx_ia w a n f ∧ vp_in i n ∧ k lv (.int (f i.toNatClampNeg) :: r) bc bs w
  | _ => False
def jt_rald : jx_T := fun _ _ _ k lv st bc bs w => match st with
  | .int i :: .ref a :: r => ∃ (n : Nat) (f : Nat → Int32), jx_ro w a n f ∧ vp_in i n ∧ k lv (.int (f i.toNatClampNeg) :: r) bc bs w
  | _ => False
def jt_bald : jx_T := fun _ _ _ k lv st bc bs w => match st with
  | .int i :: .ref a :: r => ∃ (n : Nat) (f : Nat → Int32), jx_ba w a n f ∧ vp_in i n ∧ k lv (.int (f i.toNatClampNeg) :: r) bc bs w
  | _ => False
def jt_aald (ci : Nat) : jx_T := fun _ _ _ k lv st bc bs w => match st with
  | .int i :: .ref a :: r => ∃ (n : Nat) (f : Nat → Option Nat) (b : Nat), jx_ra w a (jx_nm ci) n f ∧ vp_in i n ∧ f i.toNatClampNeg = some b ∧ k lv (.ref b :: r) bc bs w
  | _ => False
def jt_iast : jx_T := fun _ _ _ k lv st bc bs w => match st with
  | .int x :: .int i :: .ref a :: r => ∃ (n : Nat) (f : Nat → Int32), jx_ia w a n f ∧ vp_in i n ∧ k lv r bc bs (jx_uia w a n (upd f i.toNatClampNeg x))
  | _ => False
def jt_bast : jx_T := fun _ _ _ k lv st bc bs w => match st with
  | .int x :: .int i :: .ref a :: r => ∃ (n : Nat) (f : Nat → Int32), jx_ba w a n f ∧ vp_in i n ∧ k lv r bc bs (jx_uba w a n (upd f i.toNatClampNeg (vp_nar .byte x)))
  | _ => False
def jt_aast (ci : Nat) : jx_T := fun _ _ _ k lv st bc bs w => match st with
  | .ref v :: .int i :: .ref a :: r => ∃ (n : Nat) (f : Nat → Option Nat) (vs : List Value), jx_ra w a (jx_nm ci) n f ∧ jx_ob w v ci vs ∧ vp_in i n ∧ k lv r bc bs (jx_ura w a (jx_nm ci) n (va_up f i.toNatClampNeg (some v)))
  | _ => False
def jt_ilen : jx_T := fun _ _ _ k lv st bc bs w => match st with
  | .ref a :: r => ∃ (n : Nat) (f : Nat → Int32), jx_ia w a n f ∧ k lv (.int (Int32.ofNat n) :: r) bc bs w
  | _ => False
def jt_rlen : jx_T := fun _ _ _ k lv st bc bs w => match st with
  | .ref a :: r => ∃ (n : Nat) (f : Nat → Int32), jx_ro w a n f ∧ k lv (.int (Int32.ofNat n) :: r) bc bs w
  | _ => False
def jt_blen : jx_T := fun _ _ _ k lv st bc bs w => match st with
  | .ref a :: r => ∃ (n : Nat) (f : Nat → Int32), jx_ba w a n f ∧ k lv (.int (Int32.ofNat n) :: r) bc bs w
  | _ => False
/-- an object of class ci with N fields, as it is born -/
def jt_new (ci N : Nat) (fs : List Value) : jx_T := fun _ _ _ k lv st bc bs w => 1 ≤ bc ∧ N ≤ bs ∧ k lv (.ref w.1 :: st) (bc - 1) (bs - N) (jx_al w (.inr (ci, fs)))
def jt_newi : jx_T := fun _ _ _ k lv st bc bs w => match st with
  | .int n :: r => ∃ N : Nat, n = Int32.ofNat N ∧ N ≤ 100000 ∧ 1 ≤ bc ∧ N ≤ bs ∧ k lv (.ref w.1 :: r) (bc - 1) (bs - N) (jx_al w (.inl (.int, N, .inl (fun _ => 0))))
  | _ => False
def jt_newb : jx_T := fun _ _ _ k lv st bc bs w => match st with
  | .int n :: r => ∃ N : Nat, n = Int32.ofNat N ∧ N ≤ 100000 ∧ 1 ≤ bc ∧ N ≤ bs ∧ k lv (.ref w.1 :: r) (bc - 1) (bs - N) (jx_al w (.inl (.byte, N, .inl (fun _ => 0))))
  | _ => False
def jt_newr (ci : Nat) : jx_T := fun _ _ _ k lv st bc bs w => match st with
  | .int n :: r => ∃ N : Nat, n = Int32.ofNat N ∧ N ≤ 100000 ∧ 1 ≤ bc ∧ N ≤ bs ∧ k lv (.ref w.1 :: r) (bc - 1) (bs - N) (jx_al w (.inl (.object (jx_nm ci), N, .inr (.inr (.inr (.inr (fun _ => none)))))))
  | _ => False
def jt_cpy (ty : FieldType) : jx_T := fun _ _ _ k lv st bc bs w => match st with
  | [.int n, .int dp, .ref a, .int sp, .ref a0] => ∃ (n0 n1 : Nat) (f g : Nat → Int32), w.2.2 a0 = some (.inl (ty, n0, .inl f)) ∧ w.2.2 a = some (.inl (ty, n1, .inl g)) ∧ ¬ sp < 0 ∧ ¬ dp < 0 ∧ ¬ n < 0 ∧ sp.toNatClampNeg + n.toNatClampNeg ≤ n0 ∧ dp.toNatClampNeg + n.toNatClampNeg ≤ n1 ∧ (∀ i, i < n.toNatClampNeg → fits ty (.int (f (sp.toNatClampNeg + i))) = true) ∧ k lv [] bc bs (jx_up w a (.inl (ty, n1, .inl (va_cpy f g sp.toNatClampNeg dp.toNatClampNeg n.toNatClampNeg))))
  | _ => False
def jt_mmin : jx_T := fun _ _ _ k lv st bc bs w => match st with
  | .int y :: .int x :: r => match Nat.ble ((r.map fun v => v.category).sum) 8 with
    | true => k lv (.int (if y < x then y else x) :: r) bc bs w
    | false => False
  | _ => False
def jt_mmax : jx_T := fun _ _ _ k lv st bc bs w => match st with
  | .int y :: .int x :: r => match Nat.ble ((r.map fun v => v.category).sum) 8 with
    | true => k lv (.int (if x < y then y else x) :: r) bc bs w
    | false => False
  | _ => False
def jt_oi : jx_T := fun _ _ _ k lv st bc bs w => match st with
  | [.ref _] => k lv [] bc bs w
  | _ => False
def jt_ri : jx_T := fun _ _ q _ _ st _ _ w => match st with
  | [.int x] => q w (some (.int x))
  | _ => False
def jt_rz : jx_T := fun _ _ q _ _ st _ _ w => match st with
  | [.int x] => (x = 0 ∨ x = 1) ∧ q w (some (.int x))
  | _ => False
def jt_rl : jx_T := fun _ _ q _ _ st _ _ w => match st with
  | [.long x] => q w (some (.long x))
  | _ => False
def jt_rr : jx_T := fun _ _ q _ _ st _ _ w => match st with
  | [.ref x] => q w (some (.ref x))
  | _ => False
def jt_rv : jx_T := fun _ _ q _ _ st _ _ w => match st with
  | [] => q w none
  | _ => False
/-- a method: its name, code, locals, answer, the cells and slots that it may make, its frames and locals' words below it -/
abbrev jx_Me : Type := MethodName × ByteArray × Nat × Option FieldType × (Nat × Nat) × (Nat × Nat)
/-- a call of y with na values off the stack; rk: what comes back (0 nothing, 1 int, 2 long, 3 reference) -/
def jx_ret (rk : Nat) (k : List Value → jx_W → Prop) (rest : List Value) : jx_Q := match rk with
  | 0 => fun w r => r = none ∧ k rest w
  | 1 => fun w r => ∃ x : Int32, r = some (.int x) ∧ k (.int x :: rest) w
  | 2 => fun w r => ∃ x : Int64, r = some (.long x) ∧ k (.long x :: rest) w
  | _ => fun w r => ∃ x : Nat, r = some (.ref x) ∧ k (.ref x :: rest) w
def jx_fit (rest : List Value) (args : List Value) (maxL : Nat) : Bool := Nat.ble ((rest.map fun v => v.category).sum) 8 && Nat.ble (lg_sl args).length maxL
def jt_call (Tb : Nat → jx_Me) (y na rk : Nat) : jx_T := fun c _ _ k lv st bc bs w => match jx_fit (st.drop na) (st.take na).reverse (Tb y).2.2.1, Nat.beq (st.take na).length na with
  | true, true => c y (st.take na).reverse w (jx_ret rk (fun st' w' => k lv st' bc bs w') (st.drop na))
  | _, _ => False
/-- a call on an object of class ci -/
def jt_callV (Tb : Nat → jx_Me) (ci y na rk : Nat) : jx_T := fun c _ _ k lv st bc bs w => match jx_fit (st.drop na) (st.take na).reverse (Tb y).2.2.1, Nat.beq (st.take na).length na, (st.take na).reverse with
  | true, true, .ref a :: As => (∃ fs, jx_ob w a ci fs) ∧ c y (.ref a :: As) w (jx_ret rk (fun st' w' => k lv st' bc bs w') (st.drop na))
  | _, _, _ => False
/-- a constructor's call: it makes cells -/
def jt_callA (Tb : Nat → jx_Me) (y na : Nat) : jx_T := fun c _ _ k lv st bc bs w => match jx_fit (st.drop na) (st.take na).reverse (Tb y).2.2.1, Nat.beq (st.take na).length na, (st.take na).reverse with
  | true, true, .ref a :: As => (Tb y).2.2.2.2.1.1 ≤ bc ∧ (Tb y).2.2.2.2.1.2 ≤ bs ∧ c y (.ref a :: As) w (fun w' r => r = none ∧ k lv (st.drop na) (bc - (Tb y).2.2.2.2.1.1) (bs - (Tb y).2.2.2.2.1.2) w')
  | _, _, _ => False
