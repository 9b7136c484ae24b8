/-! each instruction of the tables is what its bytes decode to -/
def px_cd (b : Nat) : Jvm.ClassFile.Cond := match b with
  | 0 => .eq
  | 1 => .ne
  | 2 => .lt
  | 3 => .ge
  | 4 => .gt
  | _ => .le
def px_vi (v : Value) : Int := match v with
  | .int x => x.toInt
  | .long x => x.toInt
  | _ => 0
def px_ins (pc : Nat) (i : px_I) : Instr × Nat := match i with
  | (op, a, b, c, nx, tb, v) => match op with
    | 0 => if a < 4 then (.iload_n (Fin.ofNat 4 a), 1) else (.iload a, 2)
    | 1 => if a < 4 then (.lload_n (Fin.ofNat 4 a), 1) else (.lload a, 2)
    | 2 => if a < 4 then (.aload_n (Fin.ofNat 4 a), 1) else (.aload a, 2)
    | 3 => if a < 4 then (.istore_n (Fin.ofNat 4 a), 1) else (.istore a, 2)
    | 4 => if a < 4 then (.lstore_n (Fin.ofNat 4 a), 1) else (.lstore a, 2)
    | 5 => if a < 4 then (.astore_n (Fin.ofNat 4 a), 1) else (.astore a, 2)
    | 6 => match b with
      | 0 => (.iconst (px_vi v), 1)
      | 1 => (.bipush (px_vi v), 2)
      | 2 => (.sipush (px_vi v), 3)
      | 3 => (.lconst (Fin.ofNat 2 (px_vi v).toNat), 1)
      | 4 => (.aconst_null, 1)
      | 5 => (.ldc c, 2)
      | 6 => (.ldc2_w c, 3)
      | 7 => (.ldc c, 2)
      | 8 => (.getstatic c, 3)
      | 9 => (.getstatic c, 3)
      | _ => (.ldc_w c, 3)
    | 7 => (.iinc a (px_vi v), 3)
    | 8 => (match b with
      | 0 => .iadd
      | 1 => .isub
      | 2 => .imul
      | 3 => .iand
      | 4 => .ior
      | 5 => .ishl
      | 6 => .ishr
      | 7 => .iushr
      | _ => .idiv, 1)
    | 9 => (match b with
      | 0 => .ladd
      | 1 => .lsub
      | 2 => .lmul
      | 3 => .ldiv
      | _ => .lrem, 1)
    | 10 => (match b with
      | 0 => .ineg
      | 1 => .i2b
      | 2 => .i2s
      | _ => .i2c, 1)
    | 11 => (.i2l, 1)
    | 12 => (.l2i, 1)
    | 13 => (.lneg, 1)
    | 14 => (.lcmp, 1)
    | 15 => (.ifCond (px_cd b) ((a : Int) - (pc : Int)), 3)
    | 16 => (.if_icmp (px_cd b) ((a : Int) - (pc : Int)), 3)
    | 17 => (.ifnull ((a : Int) - (pc : Int)), 3)
    | 18 => (.ifnonnull ((a : Int) - (pc : Int)), 3)
    | 19 => (.goto ((a : Int) - (pc : Int)), 3)
    | 20 => (.tableswitch ((a : Int) - (pc : Int)) (px_vi v) (px_vi v + (tb.length : Int) - 1) (tb.map (fun q => (q.2 : Int) - (pc : Int))).toArray, nx - pc)
    | 21 => (.ireturn, 1)
    | 22 => (.lreturn, 1)
    | 23 => (.areturn, 1)
    | 24 => (.return_, 1)
    | 25 => (.dup, 1)
    | 26 => (.pop, 1)
    | 27 => (.dup2, 1)
    | 28 => (.getfield c, 3)
    | 29 => (.getfield c, 3)
    | 30 => (.getfield c, 3)
    | 31 => (.putfield c, 3)
    | 32 => (.putfield c, 3)
    | 33 => (.putfield c, 3)
    | 34 => (.new c, 3)
    | 35 => (.newarray (match a with
      | 100 => .int
      | 101 => .long
      | _ => .boolean), 2)
    | 36 => (.anewarray c, 3)
    | 37 => (.arraylength, 1)
    | 38 => (.iaload, 1)
    | 39 => (.laload, 1)
    | 40 => (.baload, 1)
    | 41 => (.aaload, 1)
    | 42 => (.iastore, 1)
    | 43 => (.lastore, 1)
    | 44 => (.bastore, 1)
    | 45 => (.aastore, 1)
    | 46 => (.instanceof c, 3)
    | 47 => (match b with
      | 0 => .invokestatic c
      | 1 => .invokevirtual c
      | _ => .invokespecial c, 3)
    | 48 => (.invokestatic c, 3)
    | 49 => (.invokespecial c, 3)
    | _ => (.invokestatic c, 3)
def px_iv (i : Int) : Int32 := Int32.ofInt i
/-- which field a row may name, by the object's class and place: read, of that sort -/
def px_ft (ty : FieldType) : Nat := match ty with
  | .long => 1
  | .object _ => 2
  | .array _ => 2
  | _ => 0
def px_fq (m op a b c kd : Nat) : Bool := match px_cl[kd - 10]? with
  | none => false
  | some r => Nat.ble 10 kd && px_fl.any (fun e => Nat.beq e.1 (px_on m) && Nat.beq e.2.1 c && Nat.beq e.2.2.1 (kd - 10) && Nat.beq e.2.2.2.1 a) &&
      Nat.beq (px_ft (px_ty (kd - 10) a)) (cond (Nat.ble op 30) (op - 28) (op - 31)) &&
      (Nat.ble op 30 || (cond (Nat.beq b 1) (decide (px_ty (kd - 10) a = .boolean)) (decide (px_ty (kd - 10) a ≠ .boolean ∧ px_ty (kd - 10) a ≠ .byte ∧ px_ty (kd - 10) a ≠ .short ∧ px_ty (kd - 10) a ≠ .char)) &&
        (!(r.2.1 a).2.2.2 || (decide ((px_y m).name = "<init>") && decide ((r.2.1 a).1 = px_cn (px_on m))))))
def px_cq (m a b c : Nat) (q : Nat × Nat) : Bool := px_cs.any (fun e => Nat.beq e.1 (px_on m) && Nat.beq e.2.1 c && Nat.beq e.2.2.1 b && (Nat.beq e.2.2.2.1 q.1 || Nat.beq e.2.2.2.2.2.1 3 || Nat.beq e.2.2.2.2.2.1 4) && Nat.beq e.2.2.2.2.1 q.2 && decide ((parseMethodDescriptor e.2.2.2.2.2.2.1.desc).map (fun d => d.parameters.length) = some a))
/-- the words of an instruction -/
def px_cc (m : Nat) (i : px_I) : Bool := match i with
  | (op, a, b, c, _, tb, v) => match op with
    | 6 => match b, v with
      | 0, .int _ => true
      | 1, .int x => decide ((Int8.ofInt x.toInt).toInt32 = x)
      | 2, .int x => decide ((Int16.ofInt x.toInt).toInt32 = x)
      | 3, .long x => decide (Int64.ofNat (Fin.ofNat 2 x.toInt.toNat : Nat) = x)
      | 4, .null => true
      | 5, .int x => px_le.any (fun e => Nat.beq e.1 (px_on m) && Nat.beq e.2.1 c && decide (e.2.2.1 = x))
      | 10, .int x => px_le.any (fun e => Nat.beq e.1 (px_on m) && Nat.beq e.2.1 c && decide (e.2.2.1 = x))
      | 6, .long x => px_l2.any (fun e => Nat.beq e.1 (px_on m) && Nat.beq e.2.1 c && decide (e.2.2.1 = x))
      | 7, .ref x => (match px_se[a]? with
        | some e => Nat.beq e.1 (px_on m) && Nat.beq e.2.1 c && decide (px_cn e.1 = e.2.2.1)
        | none => false) && Nat.beq x (1000010 + a)
      | 8, .int x => Nat.beq a 0 && decide (x = 1) && px_ge.any (fun e => Nat.beq e.1 (px_on m) && Nat.beq e.2.1 c && Nat.beq e.2.2.1 0)
      | 8, .ref x => Nat.beq a 1 && Nat.beq x 1000001 && px_ge.any (fun e => Nat.beq e.1 (px_on m) && Nat.beq e.2.1 c && Nat.beq e.2.2.1 1)
      | 9, .null => Nat.beq a 1000002 && px_ge.any (fun e => Nat.beq e.1 (px_on m) && Nat.beq e.2.1 c && Nat.beq e.2.2.1 2)
      | _, _ => false
    | 7 => match v with
      | .int _ => true
      | _ => false
    | 8 => Nat.ble b 8
    | 9 => Nat.ble b 4
    | 10 => Nat.ble b 3
    | 15 => Nat.ble b 5
    | 16 => Nat.ble b 5
    | 20 => match v with
      | .int x => decide (x.toInt + (tb.length : Int) ≤ 2147483648)
      | _ => false
    | 21 => match b with
      | 0 => decide (px_rt m = some .int)
      | 1 => decide (px_rt m = some .boolean)
      | 2 => decide (px_rt m = some .char)
      | 3 => decide (px_rt m = some .byte)
      | _ => false
    | 22 => decide (px_rt m = some .long)
    | 23 => match px_rt m with
      | some (.object _) => true
      | some (.array _) => true
      | _ => false
    | 24 => decide (px_rt m = none)
    | 28 => tb.all (fun e => cond (Nat.beq e.1 150) (Nat.beq a 1 && px_fs.any (fun f => Nat.beq f.1 (px_on m) && Nat.beq f.2.1 c && Nat.beq f.2.2.1 1)) (px_fq m op a b c e.1))
    | 29 => tb.all (fun e => px_fq m op a b c e.1)
    | 30 => tb.all (fun e => cond (Nat.beq e.1 150) (Nat.beq a 0 && px_fs.any (fun f => Nat.beq f.1 (px_on m) && Nat.beq f.2.1 c && Nat.beq f.2.2.1 0)) (px_fq m op a b c e.1))
    | 31 => tb.all (fun e => px_fq m op a b c e.1)
    | 32 => tb.all (fun e => px_fq m op a b c e.1)
    | 33 => tb.all (fun e => px_fq m op a b c e.1)
    | 34 => px_ne.any (fun e => Nat.beq e.1 (px_on m) && Nat.beq e.2.1 c && Nat.beq (10 + e.2.2.1) a && (match px_cl[e.2.2.1]? with
      | some r => Nat.beq r.2.2 b
      | none => false))
    | 35 => Nat.beq a 100 || Nat.beq a 101 || Nat.beq a 102
    | 36 => px_ae.any (fun e => Nat.beq e.1 (px_on m) && Nat.beq e.2.1 c && Nat.beq e.2.2.1 a)
    | 41 => tb.all (fun e => Nat.beq e.1 104 || Nat.beq e.1 105 || Nat.beq e.1 106)
    | 45 => tb.all (fun e => (Nat.beq e.1 104 && Nat.ble 10 e.2 && Nat.ble e.2 15) || (Nat.beq e.1 105 && Nat.beq e.2 20) || (Nat.beq e.1 106 && Nat.beq e.2 18))
    | 46 => tb.all (fun q => Nat.ble 10 q.1 && Nat.ble q.1 15 && px_ie.any (fun e => Nat.beq e.1 (px_on m) && Nat.beq e.2.1 c && Nat.beq e.2.2.1 q.1 && Nat.beq e.2.2.2.1 q.2))
    | 47 => tb.all (px_cq m a b c) && Nat.ble b 2
    | 48 => px_ke.any (fun e => Nat.beq e.1 (px_on m) && Nat.beq e.2.1 c)
    | 49 => px_oe.any (fun e => Nat.beq e.1 (px_on m) && Nat.beq e.2.1 c)
    | 50 => Nat.ble b 2 && px_me.any (fun e => Nat.beq e.1 (px_on m) && Nat.beq e.2.1 c && Nat.beq e.2.2.1 b)
    | _ => true
def px_chk (m pc : Nat) (i : px_I) : Bool := decide (decode (px_bc m) pc = .ok (px_ins pc i)) && Nat.beq i.2.2.2.2.1 (pc + (px_ins pc i).2) && px_cc m i
def px_ca1 (m k : Nat) : Bool := (List.range k).all (fun pc => match px_T m pc with
  | none => true
  | some i => px_chk m pc i)
def px_ca2 (m a k : Nat) : Bool := ((List.range k).map (a + ·)).all (fun pc => match px_T m pc with
  | none => true
  | some i => px_chk m pc i)
def px_okm (m n : Nat) : Prop := ∀ pc i, pc < n → px_T m pc = some i → px_chk m pc i = true
theorem px_cj0 (m : Nat) : px_okm m 0 := fun pc i h => absurd h (Nat.not_lt_zero _)
theorem px_cj {m a k : Nat} (h : px_okm m a) (h2 : px_ca2 m a k = true) : px_okm m (a + k) := by
  intro pc i hp hi
  by_cases ha : pc < a
  · exact h pc i ha hi
  · have := List.all_eq_true.mp h2 pc (List.mem_map.mpr ⟨pc - a, List.mem_range.mpr (by omega), by omega⟩)
    rw [hi] at this
    exact this
