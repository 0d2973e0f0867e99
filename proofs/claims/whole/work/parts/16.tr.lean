/-! WHICH OP AN INSTRUCTION IS, whether it is linked as its data say, and that this is sound -/
def jx_x (x : List Nat) (i : Nat) : Nat := x.getD i 0
def jx_litL : List Nat → Int64
  | 0 :: n :: _ => Int64.ofNat n
  | 1 :: n :: _ => -(Int64.ofNat n)
  | _ => 0
def jx_gf (x : List Nat) : jx_T := match jx_x x 0 with
  | 0 => jt_gfi (jx_x x 1) (jx_x x 2)
  | 1 => jt_gfl (jx_x x 1) (jx_x x 2)
  | _ => jt_gfr (jx_x x 1) (jx_x x 2)
def jx_pf (x : List Nat) : jx_T := match jx_x x 0 with
  | 0 => jt_pfi (jx_x x 1) (jx_x x 2)
  | 1 => jt_pfl (jx_x x 1) (jx_x x 2)
  | 2 => jt_pfr (jx_x x 1) (jx_x x 2)
  | _ => jt_pfz (jx_x x 1) (jx_x x 2)
def jx_dv : FieldType → Value
  | .int => .int 0
  | .boolean => .int 0
  | .long => .long 0
  | _ => .null
def jx_born (ci : Nat) : List Value := match ci with
  | 0 => [.int 0, .null, .null, .null, .null, .null, .null, .null, .null]
  | 1 => [.int 0, .int 0, .int 0, .int 0, .null, .null, .null, .null]
  | 2 => [.int 0, .int 0, .int 0, .int 0, .null, .null, .null, .int 0, .int 0, .int 0, .int 0, .int 0]
  | 3 => [.null, .null, .int 0, .int 0, .int 0, .int 0, .int 0, .int 0, .long 0, .null, .null, .int 0, .int 0, .int 0, .int 0]
  | 4 => [.int 0, .null, .null, .null]
  | 5 => [.null, .null, .null, .null, .int 0, .int 0]
  | 6 => [.null, .null]
  | 7 => [.null, .int 0, .null, .null, .null, .null, .null, .int 0]
  | _ => [.null, .int 0, .null, .int 0, .int 0, .null, .null, .null, .null, .null, .null, .null, .int 0, .int 0, .int 0, .null, .null]
def jx_nf (ci : Nat) : Nat := match vwCl[ci]? with
  | some r => r.2.2
  | none => 0
def jx_al0 (x : List Nat) : jx_T := match jx_x x 0 with
  | 0 => jt_iald
  | _ => jt_rald
def jx_len (x : List Nat) : jx_T := match jx_x x 0 with
  | 0 => jt_ilen
  | 1 => jt_rlen
  | _ => jt_blen
def jx_na (t : ArrayType) : jx_T := match t with
  | .int => jt_newi
  | .byte => jt_newb
  | _ => jt_bad
def jx_ist (Tb : Nat → jx_Me) (x : List Nat) : jx_T := match jx_x x 0 with
  | 0 => jt_call Tb (jx_x x 1) (jx_x x 2) (jx_x x 3)
  | 1 => jt_call Tb (jx_x x 1) (jx_x x 2) (jx_x x 3)
  | 2 => jt_cpy .int
  | 3 => jt_cpy .byte
  | 4 => jt_mmin
  | _ => jt_mmax
def jx_isp (Tb : Nat → jx_Me) (x : List Nat) : jx_T := match jx_x x 0 with
  | 0 => jt_callA Tb (jx_x x 1) (jx_x x 2)
  | 1 => jt_callA Tb (jx_x x 1) (jx_x x 2)
  | _ => jt_oi
def jx_ire (x : List Nat) : jx_T := match jx_x x 0 with
  | 0 => jt_ri
  | _ => jt_rz
def jx_tr (Tb : Nat → jx_Me) (i : jx_I) : jx_T := match i.2.1 with
  | .nop => jt_go (jx_x i.2.2 0)
  | .iconst _ => jt_c (.int (jx_lit i.2.2))
  | .bipush _ => jt_c (.int (jx_lit i.2.2))
  | .sipush _ => jt_c (.int (jx_lit i.2.2))
  | .ldc _ => jt_c (.int (Int32.ofNat (jx_x i.2.2 0)))
  | .ldc_w _ => jt_c (.int (Int32.ofNat (jx_x i.2.2 0)))
  | .ldc2_w _ => jt_c (.long (jx_litL i.2.2))
  | .lconst n => jt_c (.long (Int64.ofNat n))
  | .iload j => jt_ldi j
  | .iload_n j => jt_ldi j
  | .lload j => jt_ldl j
  | .lload_n j => jt_ldl j
  | .aload j => jt_lda j
  | .aload_n j => jt_lda j
  | .istore j => jt_sti j
  | .istore_n j => jt_sti j
  | .lstore j => jt_stl j
  | .lstore_n j => jt_stl j
  | .astore j => jt_sta j
  | .astore_n j => jt_sta j
  | .iinc j _ => jt_inc j (jx_lit i.2.2)
  | .iadd => jt_ii (fun x y => x + y)
  | .isub => jt_ii (fun x y => x - y)
  | .imul => jt_ii (fun x y => x * y)
  | .iand => jt_ii (fun x y => x &&& y)
  | .ior => jt_ii (fun x y => x ||| y)
  | .ixor => jt_ii (fun x y => x ^^^ y)
  | .ishl => jt_ii (fun x y => x <<< (y &&& 31))
  | .ishr => jt_ii (fun x y => x >>> (y &&& 31))
  | .iushr => jt_ii (fun x y => (x.toUInt32 >>> (y.toUInt32 &&& Int32.toUInt32 31)).toInt32)
  | .irem => jt_irem
  | .ladd => jt_ll (fun x y => x + y)
  | .lsub => jt_ll (fun x y => x - y)
  | .lmul => jt_ll (fun x y => x * y)
  | .land => jt_ll (fun x y => x &&& y)
  | .lor => jt_ll (fun x y => x ||| y)
  | .lshl => jt_li (fun x y => x <<< (y.toInt64 &&& 63))
  | .lushr => jt_li (fun x y => (x.toUInt64 >>> (y.toInt64.toUInt64 &&& Int64.toUInt64 63)).toInt64)
  | .lcmp => jt_lcmp
  | .i2l => jt_i2l
  | .l2i => jt_l2i
  | .i2b => jt_i2b
  | .dup => jt_dup
  | .dup2 => jt_dup2
  | .pop => jt_pop
  | .ifCond .eq _ => jt_if (fun x => x = 0) (fun x => ¬ x = 0) (jx_x i.2.2 0)
  | .ifCond .ne _ => jt_if (fun x => ¬ x = 0) (fun x => x = 0) (jx_x i.2.2 0)
  | .ifCond .lt _ => jt_if (fun x => x < 0) (fun x => ¬ x < 0) (jx_x i.2.2 0)
  | .ifCond .ge _ => jt_if (fun x => 0 ≤ x) (fun x => ¬ 0 ≤ x) (jx_x i.2.2 0)
  | .ifCond .gt _ => jt_if (fun x => 0 < x) (fun x => ¬ 0 < x) (jx_x i.2.2 0)
  | .ifCond .le _ => jt_if (fun x => x ≤ 0) (fun x => ¬ x ≤ 0) (jx_x i.2.2 0)
  | .if_icmp .eq _ => jt_cmp (fun x y => x = y) (fun x y => ¬ x = y) (jx_x i.2.2 0)
  | .if_icmp .ne _ => jt_cmp (fun x y => ¬ x = y) (fun x y => x = y) (jx_x i.2.2 0)
  | .if_icmp .lt _ => jt_cmp (fun x y => x < y) (fun x y => ¬ x < y) (jx_x i.2.2 0)
  | .if_icmp .ge _ => jt_cmp (fun x y => y ≤ x) (fun x y => ¬ y ≤ x) (jx_x i.2.2 0)
  | .if_icmp .gt _ => jt_cmp (fun x y => y < x) (fun x y => ¬ y < x) (jx_x i.2.2 0)
  | .if_icmp .le _ => jt_cmp (fun x y => x ≤ y) (fun x y => ¬ x ≤ y) (jx_x i.2.2 0)
  | .goto _ => jt_go (jx_x i.2.2 0)
  | .tableswitch _ lo _ _ => jt_sw lo (jx_x i.2.2 0) i.2.2.tail
  | .getfield _ => jx_gf i.2.2
  | .putfield _ => jx_pf i.2.2
  | .getstatic _ => jt_gs (jx_x i.2.2 0)
  | .iaload => jx_al0 i.2.2
  | .baload => jt_bald
  | .aaload => jt_aald (jx_x i.2.2 0)
  | .iastore => jt_iast
  | .bastore => jt_bast
  | .aastore => jt_aast (jx_x i.2.2 0)
  | .arraylength => jx_len i.2.2
  | .new _ => jt_new (jx_x i.2.2 0) (jx_nf (jx_x i.2.2 0)) (jx_born (jx_x i.2.2 0))
  | .newarray t => jx_na t
  | .anewarray _ => jt_newr (jx_x i.2.2 0)
  | .invokevirtual _ => jt_callV Tb (jx_x i.2.2 1) (jx_x i.2.2 2) (jx_x i.2.2 3) (jx_x i.2.2 4)
  | .invokestatic _ => jx_ist Tb i.2.2
  | .invokespecial _ => jx_isp Tb i.2.2
  | .ireturn => jx_ire i.2.2
  | .lreturn => jt_rl
  | .areturn => jt_rr
  | .return_ => jt_rv
  | _ => jt_bad
/-- a word of the tables by its place -/
def jx_w (j : Nat) (w : Cond) : Bool := decide (lw_tbl[j]? = some w) && goodWord w
theorem jx_w_in {j : Nat} {w : Cond} (h : jx_w j w = true) : w ∈ jx_wl := by
  unfold jx_w at h
  simp only [Bool.and_eq_true, decide_eq_true_eq] at h
  exact List.mem_filter.mpr ⟨List.mem_of_getElem? h.1, h.2⟩
/-- a method of the table: itself, its kind (0 static, 1 virtual, 2 constructor), its parameters, the places of its words -/
abbrev jx_Mt : Type := jx_Me × Nat × Nat × List Nat
def jx_mchk (q : jx_Mt) : Bool := jx_w (jx_x q.2.2.2 0) (.code q.1.1 q.1.2.1 q.1.2.2.1 q.1.2.2.2.1) && jx_w (jx_x q.2.2.2 1) (.initialized q.1.1.cls) && decide (q.1.1.cls ≠ "java/lang/invoke/MethodHandle" ∧ q.1.1.cls ≠ "java/lang/invoke/VarHandle" ∧ (parseMethodDescriptor q.1.1.desc).map (fun d => d.parameters.length) = some q.2.2.1) && plainName q.1.1.cls &&
  (match q.2.1 with
  | 0 => jx_w (jx_x q.2.2.2 2) (.static q.1.1) && decide (q.1.2.2.2.2.1 = (0, 0))
  | 1 => jx_w (jx_x q.2.2.2 2) (.instanceMethod q.1.1) && jx_w (jx_x q.2.2.2 3) (.selects q.1.1.cls q.1.1 q.1.1) && decide (q.1.2.2.2.2.1 = (0, 0))
  | _ => jx_w (jx_x q.2.2.2 2) (.instanceMethod q.1.1) && decide (q.1.1.name = "<init>") && decide (q.1.2.2.2.1 = none))
def jx_roomB (M R : jx_Me) : Bool := Nat.ble (M.2.2.2.2.2.1 + 1) R.2.2.2.2.2.1 && Nat.ble (8 + (M.2.2.1 + 11) + M.2.2.2.2.2.2) R.2.2.2.2.2.2
def jx_refd (d : String) : Bool := match parseFieldDescriptor d with
  | some (.object _) => true
  | some (.array _) => true
  | _ => false
def jx_fld (own : String) (index : Nat) (x : List Nat) (r : vw_C) : Bool := Nat.blt (jx_x x 2) r.2.2 && jx_w (jx_x x 3) (.fieldLink own index (r.2.1 (jx_x x 2)).1 (r.2.1 (jx_x x 2)).2.1 (r.2.1 (jx_x x 2)).2.2.1)
def jx_pfc (x : List Nat) (d : String) : Bool := match jx_x x 0 with
  | 0 => decide (parseFieldDescriptor d = some .int)
  | 1 => decide (parseFieldDescriptor d = some .long)
  | 2 => jx_refd d
  | _ => decide (parseFieldDescriptor d = some .boolean)
def jx_off (pc : Nat) (off : Int) (tgt : Nat) : Bool := decide ((pc : Int) + off = (tgt : Int))
def jx_swc (pc : Nat) (tg : Nat → Nat) : List Int → List Nat → Bool
  | [], [] => true
  | o :: os, b :: bs => jx_off pc o (tg b) && jx_swc pc tg os bs
  | _, _ => false
/-- the place of a class' array type in jx_tys -/
def jx_t0 (ci : Nat) : Nat := match ci with
  | 2 => 2
  | _ => 3
def jx_chk (nM : Nat) (Mt : Nat → jx_Mt) (tg : Nat → Nat) (M : jx_Me) (pc : Nat) (i : jx_I) : Bool := match i.2.1 with
  | .nop => Nat.beq i.1 0 && Nat.beq (tg (jx_x i.2.2 0)) pc
  | _ => decide (decode M.2.1 pc = .ok (i.2.1, i.1)) && match i.2.1 with
    | .iconst n => Nat.beq i.1 1 && decide (Int32.ofInt n = jx_lit i.2.2)
    | .bipush n => Nat.beq i.1 2 && decide ((Int8.ofInt n).toInt32 = jx_lit i.2.2)
    | .sipush n => Nat.beq i.1 3 && decide ((Int16.ofInt n).toInt32 = jx_lit i.2.2)
    | .ldc j => Nat.beq i.1 2 && jx_w (jx_x i.2.2 1) (.constant M.1.cls j (Int32.ofNat (jx_x i.2.2 0)))
    | .ldc_w j => Nat.beq i.1 3 && jx_w (jx_x i.2.2 1) (.constant M.1.cls j (Int32.ofNat (jx_x i.2.2 0)))
    | .ldc2_w j => Nat.beq i.1 3 && jx_w (jx_x i.2.2 2) (.constantLong M.1.cls j (jx_litL i.2.2))
    | .lconst _ => Nat.beq i.1 1
    | .iload _ => Nat.beq i.1 2
    | .lload _ => Nat.beq i.1 2
    | .aload _ => Nat.beq i.1 2
    | .iload_n _ => Nat.beq i.1 1
    | .lload_n _ => Nat.beq i.1 1
    | .aload_n _ => Nat.beq i.1 1
    | .istore j => Nat.beq i.1 2 && Nat.blt j M.2.2.1
    | .lstore j => Nat.beq i.1 2 && Nat.blt (j + 1) M.2.2.1
    | .astore j => Nat.beq i.1 2 && Nat.blt j M.2.2.1
    | .istore_n j => Nat.beq i.1 1 && Nat.blt j M.2.2.1
    | .lstore_n j => Nat.beq i.1 1 && Nat.blt (j + 1) M.2.2.1
    | .astore_n j => Nat.beq i.1 1 && Nat.blt j M.2.2.1
    | .iinc j n => Nat.beq i.1 3 && decide (Int32.ofInt n = jx_lit i.2.2) && Nat.blt j M.2.2.1
    | .iadd => Nat.beq i.1 1
    | .isub => Nat.beq i.1 1
    | .imul => Nat.beq i.1 1
    | .iand => Nat.beq i.1 1
    | .ior => Nat.beq i.1 1
    | .ixor => Nat.beq i.1 1
    | .ishl => Nat.beq i.1 1
    | .ishr => Nat.beq i.1 1
    | .iushr => Nat.beq i.1 1
    | .irem => Nat.beq i.1 1
    | .ladd => Nat.beq i.1 1
    | .lsub => Nat.beq i.1 1
    | .lmul => Nat.beq i.1 1
    | .land => Nat.beq i.1 1
    | .lor => Nat.beq i.1 1
    | .lshl => Nat.beq i.1 1
    | .lushr => Nat.beq i.1 1
    | .lcmp => Nat.beq i.1 1
    | .i2l => Nat.beq i.1 1
    | .l2i => Nat.beq i.1 1
    | .i2b => Nat.beq i.1 1
    | .dup => Nat.beq i.1 1
    | .dup2 => Nat.beq i.1 1
    | .pop => Nat.beq i.1 1
    | .ifCond _ off => Nat.beq i.1 3 && jx_off pc off (tg (jx_x i.2.2 0))
    | .if_icmp _ off => Nat.beq i.1 3 && jx_off pc off (tg (jx_x i.2.2 0))
    | .goto off => Nat.beq i.1 3 && jx_off pc off (tg (jx_x i.2.2 0))
    | .tableswitch dflt lo hi offs => jx_off pc dflt (tg (jx_x i.2.2 0)) && decide (hi + 1 = lo + i.2.2.tail.length) && jx_swc pc tg offs.toList i.2.2.tail
    | .getfield index => Nat.beq i.1 3 && (match vwCl[jx_x i.2.2 1]? with | some r => jx_fld M.1.cls index i.2.2 r | none => false)
    | .putfield index => Nat.beq i.1 3 && (match vwCl[jx_x i.2.2 1]? with | some r => jx_fld M.1.cls index i.2.2 r && jx_pfc i.2.2 (r.2.1 (jx_x i.2.2 2)).2.2.1 && (match (r.2.1 (jx_x i.2.2 2)).2.2.2 with | false => true | true => (Nat.beq (jx_x i.2.2 0) 0 || Nat.beq (jx_x i.2.2 0) 2) && decide (M.1.name = "<init>") && decide ((r.2.1 (jx_x i.2.2 2)).1 = M.1.cls)) | none => false)
    | .getstatic index => Nat.beq i.1 3 && (match jx_sts[jx_x i.2.2 0]? with | some q => jx_w (jx_x i.2.2 1) (.fieldLink M.1.cls index q.1 q.2.1 q.2.2) | none => false)
    | .iaload => Nat.beq i.1 1
    | .baload => Nat.beq i.1 1
    | .aaload => Nat.beq i.1 1 && (Nat.beq (jx_x i.2.2 0) 2 || Nat.beq (jx_x i.2.2 0) 5)
    | .iastore => Nat.beq i.1 1
    | .bastore => Nat.beq i.1 1
    | .aastore => Nat.beq i.1 1 && (Nat.beq (jx_x i.2.2 0) 2 || Nat.beq (jx_x i.2.2 0) 5)
    | .arraylength => Nat.beq i.1 1
    | .new index => Nat.beq i.1 3 && (match vwCl[jx_x i.2.2 0]? with | some r => jx_w (jx_x i.2.2 1) (.classLink M.1.cls index r.1) && jx_w (jx_x i.2.2 2) (.instantiable r.1 r.2.2) && jx_w (jx_x i.2.2 3) (.initialized r.1) | none => false)
    | .newarray .int => Nat.beq i.1 2 && jx_w (jx_x i.2.2 0) (.arrayClass .int)
    | .newarray .byte => Nat.beq i.1 2 && jx_w (jx_x i.2.2 0) (.arrayClass .byte)
    | .anewarray index => Nat.beq i.1 3 && (Nat.beq (jx_x i.2.2 0) 2 || Nat.beq (jx_x i.2.2 0) 5) && jx_w (jx_x i.2.2 1) (.classLink M.1.cls index (jx_nm (jx_x i.2.2 0)))
    | .invokevirtual index => Nat.beq i.1 3 && Nat.beq (Mt (jx_x i.2.2 2)).2.1 1 && Nat.beq ((Mt (jx_x i.2.2 2)).2.2.1 + 1) (jx_x i.2.2 3) && jx_roomB (Mt (jx_x i.2.2 2)).1 M && (match vwCl[jx_x i.2.2 1]? with | some r => decide (r.1 = (Mt (jx_x i.2.2 2)).1.1.cls) | none => false) && jx_w (jx_x i.2.2 5) (.methodLink M.1.cls index (Mt (jx_x i.2.2 2)).1.1) && Nat.blt (jx_x i.2.2 2) nM
    | .invokestatic index => Nat.beq i.1 3 && (match jx_x i.2.2 0 with
      | 0 => Nat.beq (Mt (jx_x i.2.2 1)).2.1 0 && Nat.beq (Mt (jx_x i.2.2 1)).2.2.1 (jx_x i.2.2 2) && jx_roomB (Mt (jx_x i.2.2 1)).1 M && jx_w (jx_x i.2.2 4) (.methodLink M.1.cls index (Mt (jx_x i.2.2 1)).1.1) && Nat.blt (jx_x i.2.2 1) nM
      | 1 => Nat.beq (Mt (jx_x i.2.2 1)).2.1 0 && Nat.beq (Mt (jx_x i.2.2 1)).2.2.1 (jx_x i.2.2 2) && jx_roomB (Mt (jx_x i.2.2 1)).1 M && decide (jx_nest[jx_x i.2.2 4]? = some (M.1.cls, index, (Mt (jx_x i.2.2 1)).1.1, "TornStreams")) && Nat.blt (jx_x i.2.2 1) nM
      | 2 => jx_w (jx_x i.2.2 1) (.methodLink M.1.cls index arraycopyName) && jx_w (jx_x i.2.2 2) (.native arraycopyName) && jx_w (jx_x i.2.2 3) (.static arraycopyName) && jx_w (jx_x i.2.2 4) (.initialized "java/lang/System") && Nat.ble 1 M.2.2.2.2.2.1 && Nat.ble 18 M.2.2.2.2.2.2
      | 3 => jx_w (jx_x i.2.2 1) (.methodLink M.1.cls index arraycopyName) && jx_w (jx_x i.2.2 2) (.native arraycopyName) && jx_w (jx_x i.2.2 3) (.static arraycopyName) && jx_w (jx_x i.2.2 4) (.initialized "java/lang/System") && Nat.ble 1 M.2.2.2.2.2.1 && Nat.ble 18 M.2.2.2.2.2.2
      | 4 => jx_w (jx_x i.2.2 1) (.methodLink M.1.cls index Lib.Math.min.name) && jx_w (jx_x i.2.2 2) (.static Lib.Math.min.name) && jx_w (jx_x i.2.2 3) (.initialized "java/lang/Math") && jx_w (jx_x i.2.2 4) (.code Lib.Math.min.name Lib.Math.min.code 2 (some .int)) && Nat.ble 1 M.2.2.2.2.2.1 && Nat.ble 21 M.2.2.2.2.2.2
      | _ => jx_w (jx_x i.2.2 1) (.methodLink M.1.cls index Lib.Math.max.name) && jx_w (jx_x i.2.2 2) (.static Lib.Math.max.name) && jx_w (jx_x i.2.2 3) (.initialized "java/lang/Math") && jx_w (jx_x i.2.2 4) (.code Lib.Math.max.name Lib.Math.max.code 2 (some .int)) && Nat.ble 1 M.2.2.2.2.2.1 && Nat.ble 21 M.2.2.2.2.2.2)
    | .invokespecial index => Nat.beq i.1 3 && (match jx_x i.2.2 0 with
      | 0 => Nat.beq (Mt (jx_x i.2.2 1)).2.1 2 && Nat.beq ((Mt (jx_x i.2.2 1)).2.2.1 + 1) (jx_x i.2.2 2) && jx_roomB (Mt (jx_x i.2.2 1)).1 M && jx_w (jx_x i.2.2 3) (.methodLink M.1.cls index (Mt (jx_x i.2.2 1)).1.1) && Nat.blt (jx_x i.2.2 1) nM
      | 1 => Nat.beq (Mt (jx_x i.2.2 1)).2.1 2 && Nat.beq ((Mt (jx_x i.2.2 1)).2.2.1 + 1) (jx_x i.2.2 2) && jx_roomB (Mt (jx_x i.2.2 1)).1 M && decide (jx_nest[jx_x i.2.2 3]? = some (M.1.cls, index, (Mt (jx_x i.2.2 1)).1.1, "TornStreams")) && Nat.blt (jx_x i.2.2 1) nM
      | _ => jx_w (jx_x i.2.2 1) (.methodLink M.1.cls index Lib.objectInit) && jx_w (jx_x i.2.2 2) (.instanceMethod Lib.objectInit) && jx_w (jx_x i.2.2 3) (.code Lib.objectInit ⟨#[0xb1]⟩ 1 none) && Nat.ble 1 M.2.2.2.2.2.1 && Nat.ble 12 M.2.2.2.2.2.2)
    | .ireturn => Nat.beq i.1 1 && (match jx_x i.2.2 0 with | 0 => decide (M.2.2.2.1 = some .int) | _ => decide (M.2.2.2.1 = some .boolean))
    | .lreturn => Nat.beq i.1 1 && decide (M.2.2.2.1 = some .long)
    | .areturn => Nat.beq i.1 1 && (match M.2.2.2.1 with | some (.object _) => true | _ => false)
    | .return_ => Nat.beq i.1 1 && decide (M.2.2.2.1 = none)
    | _ => false
