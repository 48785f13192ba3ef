/-! A PURE MACHINE: one method's frame as lists of values, references as numbers of cells (tags) in a fixed layout, the cells' numbers as a function. -/
abbrev pm_RO : Type := Nat → Option (Nat × (Nat → Int32))
def pm_v (adr : Nat → Nat) : Value → Value
  | .ref t => .ref (adr t)
  | v => v
def pm_isL : Option Value → Bool
  | some (.long _) => true
  | some (.double _) => true
  | _ => false
def pm_clr (ls : List Value) : Nat → List Value
  | 0 => ls
  | i + 1 => bif pm_isL ls[i]? then ls.set i .null else ls
def pm_set (ls : List Value) (i : Nat) (v : Value) : List Value := (pm_clr ls i).set i v
def pm_set2 (ls : List Value) (i : Nat) (v : Value) : List Value := ((pm_clr ls i).set i v).set (i + 1) .null
def pm_up (mem : pm_M) (t k : Nat) (x : Int32) : pm_M := fun q => if q = t then upd (mem t) k x else mem q
def pm_upR (mem : pm_M) (t : Nat) (f : Nat → Int32) : pm_M := fun q => if q = t then f else mem q
def pm_inb (i : Int32) (n : Nat) : Bool := !(decide (i < 0)) && decide (i.toNatClampNeg < n)
def pm_cnd : Jvm.ClassFile.Cond → Int32 → Int32 → Bool
  | .eq, x, y => decide (x = y)
  | .ne, x, y => decide (¬ x = y)
  | .lt, x, y => decide (x < y)
  | .ge, x, y => decide (y ≤ x)
  | .gt, x, y => decide (y < x)
  | .le, x, y => decide (x ≤ y)
def pm_len : Instr → Nat → Nat
  | .iload _, _ => 2
  | .lload _, _ => 2
  | .aload _, _ => 2
  | .istore _, _ => 2
  | .lstore _, _ => 2
  | .astore _, _ => 2
  | .bipush _, _ => 2
  | .ldc _, _ => 2
  | .sipush _, _ => 3
  | .ldc_w _, _ => 3
  | .ldc2_w _, _ => 3
  | .iinc _ _, _ => 3
  | .getfield _, _ => 3
  | .putfield _, _ => 3
  | .getstatic _, _ => 3
  | .goto _, _ => 3
  | .ifCond _ _, _ => 3
  | .if_icmp _ _, _ => 3
  | .invokevirtual _, _ => 3
  | .invokestatic _, _ => 3
  | .tableswitch _ _ _ _, a => a
  | .lookupswitch _ _, a => a
  | _, _ => 1
abbrev pm_O : Type := Option (Nat × List Value × List Value × pm_M)
def pm_ldi (pc : Nat) (ls st : List Value) (mem : pm_M) (i : Nat) : pm_O := match ls[i]? with
  | some (.int x) => some (pc, ls, .int x :: st, mem)
  | _ => none
def pm_ldl (pc : Nat) (ls st : List Value) (mem : pm_M) (i : Nat) : pm_O := match ls[i]? with
  | some (.long x) => some (pc, ls, .long x :: st, mem)
  | _ => none
def pm_lda (pc : Nat) (ls st : List Value) (mem : pm_M) (i : Nat) : pm_O := match ls[i]? with
  | some (.ref x) => some (pc, ls, .ref x :: st, mem)
  | _ => none
def pm_sti (pc : Nat) (ls st : List Value) (mem : pm_M) (i : Nat) : pm_O := match st with
  | .int x :: rest => bif Nat.blt i ls.length then some (pc, pm_set ls i (.int x), rest, mem) else none
  | _ => none
def pm_sta (pc : Nat) (ls st : List Value) (mem : pm_M) (i : Nat) : pm_O := match st with
  | .ref x :: rest => bif Nat.blt i ls.length then some (pc, pm_set ls i (.ref x), rest, mem) else none
  | _ => none
def pm_stl (pc : Nat) (ls st : List Value) (mem : pm_M) (i : Nat) : pm_O := match st with
  | .long x :: rest => bif Nat.blt (i + 1) ls.length then some (pc, pm_set2 ls i (.long x), rest, mem) else none
  | _ => none
def pm_inc (pc : Nat) (ls st : List Value) (mem : pm_M) (i : Nat) (w : Int32) : pm_O := match ls[i]? with
  | some (.int x) => bif Nat.blt i ls.length then some (pc, pm_set ls i (.int (x + w)), st, mem) else none
  | _ => none
def pm_b2 (f : Int32 → Int32 → Int32) (pc : Nat) (ls st : List Value) (mem : pm_M) : pm_O := match st with
  | .int y :: .int x :: rest => some (pc, ls, .int (f x y) :: rest, mem)
  | _ => none
def pm_d2 (f : Int32 → Int32 → Int32) (pc : Nat) (ls st : List Value) (mem : pm_M) : pm_O := match st with
  | .int y :: .int x :: rest => bif !(decide (y = 0)) then some (pc, ls, .int (f x y) :: rest, mem) else none
  | _ => none
def pm_b1 (f : Int32 → Int32) (pc : Nat) (ls st : List Value) (mem : pm_M) : pm_O := match st with
  | .int x :: rest => some (pc, ls, .int (f x) :: rest, mem)
  | _ => none
def pm_l2 (f : Int64 → Int64 → Int64) (pc : Nat) (ls st : List Value) (mem : pm_M) : pm_O := match st with
  | .long y :: .long x :: rest => some (pc, ls, .long (f x y) :: rest, mem)
  | _ => none
def pm_ld2 (f : Int64 → Int64 → Int64) (pc : Nat) (ls st : List Value) (mem : pm_M) : pm_O := match st with
  | .long y :: .long x :: rest => bif !(decide (y = 0)) then some (pc, ls, .long (f x y) :: rest, mem) else none
  | _ => none
def pm_lneg (pc : Nat) (ls st : List Value) (mem : pm_M) : pm_O := match st with
  | .long x :: rest => some (pc, ls, .long (-x) :: rest, mem)
  | _ => none
def pm_i2l (pc : Nat) (ls st : List Value) (mem : pm_M) : pm_O := match st with
  | .int x :: rest => some (pc, ls, .long x.toInt64 :: rest, mem)
  | _ => none
def pm_lcmp (pc : Nat) (ls st : List Value) (mem : pm_M) : pm_O := match st with
  | .long y :: .long x :: rest => some (pc, ls, .int (lg_cmp x y) :: rest, mem)
  | _ => none
def pm_dup (pc : Nat) (ls st : List Value) (mem : pm_M) : pm_O := match st with
  | v :: rest => bif !(pm_isL (some v)) then some (pc, ls, v :: v :: rest, mem) else none
  | _ => none
def pm_pop (pc : Nat) (ls st : List Value) (mem : pm_M) : pm_O := match st with
  | v :: rest => bif !(pm_isL (some v)) then some (pc, ls, rest, mem) else none
  | _ => none
def pm_dup2 (pc : Nat) (ls st : List Value) (mem : pm_M) : pm_O := match st with
  | v :: u :: rest => bif !(pm_isL (some v)) && !(pm_isL (some u)) then some (pc, ls, v :: u :: v :: u :: rest, mem) else none
  | _ => none
def pm_ifc (k : Jvm.ClassFile.Cond) (a pc : Nat) (ls st : List Value) (mem : pm_M) : pm_O := match st with
  | .int x :: rest => some (bif pm_cnd k x 0 then a else pc, ls, rest, mem)
  | _ => none
def pm_icm (k : Jvm.ClassFile.Cond) (a pc : Nat) (ls st : List Value) (mem : pm_M) : pm_O := match st with
  | .int y :: .int x :: rest => some (bif pm_cnd k x y then a else pc, ls, rest, mem)
  | _ => none
def pm_getf (a b pc : Nat) (ls st : List Value) (mem : pm_M) : pm_O := match st with
  | .ref t :: rest => match pm_lay[t]? with
    | some (.inr (.inr (ci, sl))) => bif Nat.beq ci a then (match sl[b]? with
      | some none => some (pc, ls, .int (mem t b) :: rest, mem)
      | some (some q) => some (pc, ls, .ref q :: rest, mem)
      | none => none) else none
    | _ => none
  | _ => none
def pm_putf (a b c pc : Nat) (ls st : List Value) (mem : pm_M) : pm_O := match st with
  | .int x :: .ref t :: rest => match pm_lay[t]? with
    | some (.inr (.inr (ci, sl))) => bif Nat.beq ci a && (Nat.beq c 0 || (Nat.beq c 1 && (decide (x = 0) || decide (x = 1)))) then (match sl[b]? with
      | some none => some (pc, ls, rest, pm_up mem t b x)
      | _ => none) else none
    | _ => none
  | _ => none
def pm_ald (ro : pm_RO) (pc : Nat) (ls st : List Value) (mem : pm_M) : pm_O := match st with
  | .int i :: .ref t :: rest => match pm_lay[t]? with
    | some (.inl n) => bif pm_inb i n then some (pc, ls, .int (mem t i.toNatClampNeg) :: rest, mem) else none
    | some _ => none
    | none => match ro t with
      | some (n, f) => bif pm_inb i n then some (pc, ls, .int (f i.toNatClampNeg) :: rest, mem) else none
      | none => none
  | _ => none
def pm_ast (pc : Nat) (ls st : List Value) (mem : pm_M) : pm_O := match st with
  | .int x :: .int i :: .ref t :: rest => match pm_lay[t]? with
    | some (.inl n) => bif pm_inb i n then some (pc, ls, rest, pm_up mem t i.toNatClampNeg x) else none
    | _ => none
  | _ => none
def pm_aal (pc : Nat) (ls st : List Value) (mem : pm_M) : pm_O := match st with
  | .int i :: .ref t :: rest => match pm_lay[t]? with
    | some (.inr (.inl tags)) => bif pm_inb i tags.length then (match tags[i.toNatClampNeg]? with
      | some q => some (pc, ls, .ref q :: rest, mem)
      | none => none) else none
    | _ => none
  | _ => none
def pm_aln (ro : pm_RO) (pc : Nat) (ls st : List Value) (mem : pm_M) : pm_O := match st with
  | .ref t :: rest => match pm_lay[t]? with
    | some (.inl n) => some (pc, ls, .int (Int32.ofNat n) :: rest, mem)
    | some _ => none
    | none => match ro t with
      | some (n, _) => some (pc, ls, .int (Int32.ofNat n) :: rest, mem)
      | none => none
  | _ => none
def pm_tgt (pc : Nat) (off : Int) (ls st : List Value) (mem : pm_M) : pm_O := bif decide (0 ≤ (pc : Int) + off) then some (((pc : Int) + off).toNat, ls, st, mem) else none
def pm_tsw (pc : Nat) (dflt lo hi : Int) (offs : Array Int) (ls st : List Value) (mem : pm_M) : pm_O := match st with
  | .int x :: rest => bif decide (x.toInt < lo) || decide (hi < x.toInt) then pm_tgt pc dflt ls rest mem else (match offs[(x.toInt - lo).toNat]? with
    | some off => pm_tgt pc off ls rest mem
    | none => none)
  | _ => none
def pm_lsw (pc : Nat) (dflt : Int) (ps : Array (Int × Int)) (ls st : List Value) (mem : pm_M) : pm_O := match st with
  | .int x :: rest => bif (ps.toList.zip (ps.toList.drop 1)).all (fun (a, next) => a.1 < next.1) then pm_tgt pc (Op.lookupswitch.offset ps.toList dflt x.toInt) ls rest mem else none
  | _ => none
/-- System.arraycopy between rows of ints -/
def pm_cpy (pc : Nat) (ls st : List Value) (mem : pm_M) : pm_O := match st with
  | .int n :: .int dp :: .ref t1 :: .int sp :: .ref t0 :: rest => match pm_lay[t0]?, pm_lay[t1]? with
    | some (.inl n0), some (.inl n1) => bif !(decide (sp < 0)) && !(decide (dp < 0)) && !(decide (n < 0)) && decide (sp.toNatClampNeg + n.toNatClampNeg ≤ n0) && decide (dp.toNatClampNeg + n.toNatClampNeg ≤ n1) && decide ((rest.map fun v => v.category).sum ≤ 8) then
        some (pc, ls, rest, pm_upR mem t1 (va_cpy (mem t0) (mem t1) sp.toNatClampNeg dp.toNatClampNeg n.toNatClampNeg)) else none
    | _, _ => none
  | _ => none
/-- an instruction that neither calls nor returns -/
def pm_step (ro : pm_RO) (r : pm_R) (ls st : List Value) (mem : pm_M) : pm_O :=
  match r with
  | (pc, ins, a, b, c, _, w, w2) => match ins with
    | .iconst _ => some (pc + 1, ls, .int w :: st, mem)
    | .bipush _ => some (pc + 2, ls, .int w :: st, mem)
    | .sipush _ => some (pc + 3, ls, .int w :: st, mem)
    | .lconst _ => some (pc + 1, ls, .long w2 :: st, mem)
    | .ldc _ => some (pc + 2, ls, .int w :: st, mem)
    | .ldc_w _ => some (pc + 3, ls, .int w :: st, mem)
    | .ldc2_w _ => some (pc + 3, ls, .long w2 :: st, mem)
    | .iload_n k => pm_ldi (pc + 1) ls st mem k
    | .iload i => pm_ldi (pc + 2) ls st mem i
    | .lload_n k => pm_ldl (pc + 1) ls st mem k
    | .lload i => pm_ldl (pc + 2) ls st mem i
    | .aload_n k => pm_lda (pc + 1) ls st mem k
    | .aload i => pm_lda (pc + 2) ls st mem i
    | .istore_n k => pm_sti (pc + 1) ls st mem k
    | .istore i => pm_sti (pc + 2) ls st mem i
    | .lstore_n k => pm_stl (pc + 1) ls st mem k
    | .lstore i => pm_stl (pc + 2) ls st mem i
    | .astore_n k => pm_sta (pc + 1) ls st mem k
    | .astore i => pm_sta (pc + 2) ls st mem i
    | .iinc i _ => pm_inc (pc + 3) ls st mem i w
    | .iadd => pm_b2 (fun x y => x + y) (pc + 1) ls st mem
    | .isub => pm_b2 (fun x y => x - y) (pc + 1) ls st mem
    | .imul => pm_b2 (fun x y => x * y) (pc + 1) ls st mem
    | .iand => pm_b2 (fun x y => x &&& y) (pc + 1) ls st mem
    | .ior => pm_b2 (fun x y => x ||| y) (pc + 1) ls st mem
    | .ixor => pm_b2 (fun x y => x ^^^ y) (pc + 1) ls st mem
    | .ishl => pm_b2 (fun x y => x <<< (y &&& 31)) (pc + 1) ls st mem
    | .ishr => pm_b2 (fun x y => x >>> (y &&& 31)) (pc + 1) ls st mem
    | .iushr => pm_b2 (fun x y => (x.toUInt32 >>> (y.toUInt32 &&& Int32.toUInt32 31)).toInt32) (pc + 1) ls st mem
    | .idiv => pm_d2 (fun x y => x / y) (pc + 1) ls st mem
    | .irem => pm_d2 (fun x y => x - x / y * y) (pc + 1) ls st mem
    | .ineg => pm_b1 (fun x => -x) (pc + 1) ls st mem
    | .i2b => pm_b1 (fun x => x.toInt8.toInt32) (pc + 1) ls st mem
    | .i2s => pm_b1 (fun x => x.toInt16.toInt32) (pc + 1) ls st mem
    | .ladd => pm_l2 (fun x y => x + y) (pc + 1) ls st mem
    | .lsub => pm_l2 (fun x y => x - y) (pc + 1) ls st mem
    | .lmul => pm_l2 (fun x y => x * y) (pc + 1) ls st mem
    | .ldiv => pm_ld2 (fun x y => x / y) (pc + 1) ls st mem
    | .lrem => pm_ld2 (fun x y => x - x / y * y) (pc + 1) ls st mem
    | .lneg => pm_lneg (pc + 1) ls st mem
    | .i2l => pm_i2l (pc + 1) ls st mem
    | .lcmp => pm_lcmp (pc + 1) ls st mem
    | .dup => pm_dup (pc + 1) ls st mem
    | .pop => pm_pop (pc + 1) ls st mem
    | .dup2 => pm_dup2 (pc + 1) ls st mem
    | .goto _ => some (a, ls, st, mem)
    | .ifCond k _ => pm_ifc k a (pc + 3) ls st mem
    | .if_icmp k _ => pm_icm k a (pc + 3) ls st mem
    | .getfield _ => pm_getf a b (pc + 3) ls st mem
    | .putfield _ => pm_putf a b c (pc + 3) ls st mem
    | .getstatic _ => some (pc + 3, ls, .ref a :: st, mem)
    | .iaload => pm_ald ro (pc + 1) ls st mem
    | .iastore => pm_ast (pc + 1) ls st mem
    | .aaload => pm_aal (pc + 1) ls st mem
    | .arraylength => pm_aln ro (pc + 1) ls st mem
    | .tableswitch dflt lo hi offs => pm_tsw pc dflt lo hi offs ls st mem
    | .lookupswitch dflt ps => pm_lsw pc dflt ps ls st mem
    | _ => none
def pm_row : List pm_R → Nat → Option pm_R
  | [], _ => none
  | r :: rs, pc => bif Nat.beq r.1 pc then some r else pm_row rs pc
/-- a method's locals at its start -/
def pm_ent : Nat → List Value → List Value
  | 0, _ => []
  | n + 1, [] => .null :: pm_ent n []
  | n + 1, v :: vs => bif pm_isL (some v) then (match n with
    | 0 => []
    | k + 1 => v :: .null :: pm_ent k vs) else v :: pm_ent n vs
def pm_wid : List Value → Nat
  | [] => 0
  | v :: vs => (bif pm_isL (some v) then 2 else 1) + pm_wid vs
/-- may the row's call be made from a method with this room? -/
def pm_may (S J : pm_S) (As rest : List Value) : Bool :=
  Nat.ble (J.2.2.2.2.1 + 1) S.2.2.2.2.1 && Nat.ble (8 + (J.2.2.1 + 11) + J.2.2.2.2.2.1) S.2.2.2.2.2.1 && Nat.beq As.length J.2.2.2.2.2.2.1 && Nat.ble (pm_wid As) J.2.2.1 && Nat.ble ((rest.map fun v => v.category).sum) 8
/-- which kind of a row: 0 it steps, 1 it returns, 2 it calls (a method, or System.arraycopy) -/
def pm_kind (r : pm_R) : Nat := match r.2.1 with
  | .ireturn => 1
  | .lreturn => 1
  | .return_ => 1
  | .invokevirtual _ => 2
  | .invokestatic _ => 2
  | _ => 0
/-- what a method gives back -/
def pm_ret (S : pm_S) (r : pm_R) (st : List Value) : Option (Option Value) := match r.2.1, st, S.2.2.2.1 with
  | .ireturn, [.int v], some .int => some (some (.int v))
  | .ireturn, [.int v], some .boolean => bif decide (v = 0) || decide (v = 1) then some (some (.int v)) else none
  | .lreturn, [.long v], some .long => some (some (.long v))
  | .return_, [], none => some none
  | _, _, _ => none
/-- whom a row calls: its number, its head, the arguments in their order, what stays on the stack -/
def pm_cal (r : pm_R) (st : List Value) : Option (Nat × pm_S × List Value × List Value) := match r.2.1 with
  | .invokevirtual _ => match pm_sig[r.2.2.1]?, (st.take r.2.2.2.1).reverse with
    | some J, .ref t :: As => match pm_lay[t]? with
      | some (.inr (.inr (ci, _))) => bif Nat.beq ci r.2.2.2.2.1 then some (r.2.2.1, J, .ref t :: As, st.drop r.2.2.2.1) else none
      | _ => none
    | _, _ => none
  | .invokestatic _ => match pm_sig[r.2.2.1]? with
    | some J => bif !(Nat.ble 2 r.2.2.2.2.1) then some (r.2.2.1, J, (st.take r.2.2.2.1).reverse, st.drop r.2.2.2.1) else none
    | none => none
  | _ => none
def pm_m2 (f : Int32 → Int32 → Int32) (pc : Nat) (ls st : List Value) (mem : pm_M) : pm_O := match st with
  | .int y :: .int x :: rest => bif decide ((rest.map fun v => v.category).sum ≤ 8) then some (pc, ls, .int (f x y) :: rest, mem) else none
  | _ => none
def pm_m1 (f : Int32 → Int32) (pc : Nat) (ls st : List Value) (mem : pm_M) : pm_O := match st with
  | .int x :: rest => bif decide ((rest.map fun v => v.category).sum ≤ 8) then some (pc, ls, .int (f x) :: rest, mem) else none
  | _ => none
/-- System.arraycopy, Math.max, min, abs -/
def pm_isSp (r : pm_R) : Bool := match r.2.1 with
  | .invokestatic _ => Nat.ble 2 r.2.2.2.2.1
  | _ => false
def pm_spc (c pc : Nat) (ls st : List Value) (mem : pm_M) : pm_O := match c with
  | 2 => pm_cpy pc ls st mem
  | 3 => pm_m2 (fun x y => if x < y then y else x) pc ls st mem
  | 4 => pm_m2 (fun x y => if y < x then y else x) pc ls st mem
  | 5 => pm_m1 (fun x => if 0 ≤ x then x else 0 - x) pc ls st mem
  | _ => none
def pm_run (ro : pm_RO) : Nat → Nat → Nat → List Value → List Value → pm_M → Option (Option Value × pm_M)
  | 0, _, _, _, _, _ => none
  | n + 1, y, pc, ls, st, mem =>
    match pm_sig[y]?, pm_cod[y]? with
    | some S, some rs => match pm_row rs pc with
      | some r => match pm_kind r with
        | 0 => match pm_step ro r ls st mem with
          | some (pc', ls', st', mem') => pm_run ro n y pc' ls' st' mem'
          | none => none
        | 1 => (pm_ret S r st).map (fun v => (v, mem))
        | _ => bif pm_isSp r then (match pm_spc r.2.2.2.2.1 (pc + 3) ls st mem with
          | some (pc', ls', st', mem') => bif Nat.ble 1 S.2.2.2.2.1 && Nat.ble 26 S.2.2.2.2.2.1 then pm_run ro n y pc' ls' st' mem' else none
          | none => none) else (match pm_cal r st with
          | some (y', J, As, rest) => bif pm_may S J As rest then (match pm_run ro n y' 0 (pm_ent J.2.2.1 As) [] mem with
            | some (v, mem') => pm_run ro n y (pc + 3) ls (v.toList ++ rest) mem'
            | none => none) else none
          | none => none)
      | none => none
    | _, _ => none
