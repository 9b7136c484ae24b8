/-! A PURE MACHINE: the claim's bytecode, resolved ahead, over a flat heap: ints, longs and references by (address, place), shapes by address. px_run is a function; that the real machine follows it is proved in a later part. -/
/-- locals: what is known to lie at a place -/
abbrev px_L : Type := List (Option Value)
/-- an instruction: op, a, b, c, the next pc, a table, a value -/
abbrev px_I : Type := Nat × Nat × Nat × Nat × Nat × List (Nat × Nat) × Value
abbrev px_HI : Type := Nat → Nat → Int32
abbrev px_HJ : Type := Nat → Nat → Int64
abbrev px_HR : Type := Nat → Nat → Option Nat
abbrev px_HS : Type := Nat → Nat × Nat
/-- a heap: ints, longs, references, shapes (kind, length), how many cells, of how many slots -/
abbrev px_G : Type := px_HI × px_HJ × px_HR × px_HS × Nat × Nat
def px_u {α : Type} (f : Nat → Nat → α) (a k : Nat) (v : α) : Nat → Nat → α := fun b j => cond (Nat.beq b a && Nat.beq j k) v (f b j)
def px_us (f : px_HS) (a : Nat) (v : Nat × Nat) : px_HS := fun b => cond (Nat.beq b a) v (f b)
/-- a row of an object or an array made anew -/
def px_z {α : Type} (f : Nat → Nat → α) (a : Nat) (v : α) : Nat → Nat → α := fun b j => cond (Nat.beq b a) v (f b j)
def px_c2 (o : Option (Option Value)) : Bool := match o with
  | some (some (.long _)) => true
  | some (some (.double _)) => true
  | _ => false
/-- a place may be stored to: it's there, and the place ahead is no first half -/
def px_ok (pl : px_L) (a : Nat) : Bool := Nat.blt a pl.length && (match a with
  | 0 => true
  | k + 1 => !px_c2 pl[k]?)
def px_ib (b : Nat) (x y : Int32) : Option Int32 := match b with
  | 0 => some (x + y)
  | 1 => some (x - y)
  | 2 => some (x * y)
  | 3 => some (x &&& y)
  | 4 => some (x ||| y)
  | 5 => some (x <<< (y &&& 31))
  | 6 => some (x >>> (y &&& 31))
  | 7 => some ((x.toUInt32 >>> (y.toUInt32 &&& Int32.toUInt32 31)).toInt32)
  | 8 => if y = 0 then none else some (x / y)
  | _ => none
def px_lb (b : Nat) (x y : Int64) : Option Int64 := match b with
  | 0 => some (x + y)
  | 1 => some (x - y)
  | 2 => some (x * y)
  | 3 => if y = 0 then none else some (x / y)
  | 4 => if y = 0 then none else some (x - x / y * y)
  | _ => none
def px_iu (b : Nat) (x : Int32) : Option Int32 := match b with
  | 0 => some (-x)
  | 1 => some x.toInt8.toInt32
  | 2 => some x.toInt16.toInt32
  | 3 => some (x.toUInt32 % 65536).toInt32
  | _ => none
def px_c (b : Nat) (x y : Int32) : Bool := match b with
  | 0 => decide (x = y)
  | 1 => decide (¬ x = y)
  | 2 => decide (x < y)
  | 3 => decide (y ≤ x)
  | 4 => decide (y < x)
  | _ => decide (x ≤ y)
/-- what a return or a small field keeps: 0 int, 1 boolean, 2 char, 3 byte -/
def px_fit (b : Nat) (x : Int32) : Bool := match b with
  | 0 => true
  | 1 => decide (x = 0 ∨ x = 1)
  | 2 => decide (x.toUInt32.toUInt16.toUInt32.toInt32 = x)
  | 3 => decide (x.toInt8.toInt32 = x)
  | _ => false
def px_in (i : Int32) (n : Nat) : Bool := decide (¬ (i < 0 ∨ n ≤ i.toNatClampNeg))
def px_rv (r : Option Nat) : Value := match r with
  | none => .null
  | some a => .ref a
/-- where a switch goes -/
def px_sw (tb : List (Nat × Nat)) (lo x : Int32) (dflt : Nat) : Nat := if x < lo then dflt else match tb[(x.toInt - lo.toInt).toNat]? with
  | some q => q.2
  | none => dflt
def px_row (I : px_HI) (a : Nat) (f : Nat → Int32) : px_HI := fun b j => cond (Nat.beq b a) (f j) (I b j)
/-- the stack that waits below a call -/
def px_lo (st : List Value) : Bool := Nat.ble ((st.map fun v => v.category).sum) 8
/-- one instruction that is no call and no return: the next pc, locals, stack, heap -/
def px_st (i : px_I) (pl : px_L) (st : List Value) (I : px_HI) (J : px_HJ) (R : px_HR) (S : px_HS) (n q : Nat) : Option (Nat × px_L × List Value × px_G) :=
  match i with
  | (op, a, b, _, nx, tb, v) => match op with
    | 0 => match pl[a]? with
      | some (some (.int x)) => some (nx, pl, .int x :: st, I, J, R, S, n, q)
      | _ => none
    | 1 => match pl[a]? with
      | some (some (.long x)) => some (nx, pl, .long x :: st, I, J, R, S, n, q)
      | _ => none
    | 2 => match pl[a]? with
      | some (some (.ref x)) => some (nx, pl, .ref x :: st, I, J, R, S, n, q)
      | some (some .null) => some (nx, pl, .null :: st, I, J, R, S, n, q)
      | _ => none
    | 3 => match st with
      | .int x :: st => if px_ok pl a = true then some (nx, pl.set a (some (.int x)), st, I, J, R, S, n, q) else none
      | _ => none
    | 4 => match st with
      | .long x :: st => if (px_ok pl a && Nat.blt (a + 1) pl.length) = true then some (nx, (pl.set a (some (.long x))).set (a + 1) none, st, I, J, R, S, n, q) else none
      | _ => none
    | 5 => match st with
      | .ref x :: st => if px_ok pl a = true then some (nx, pl.set a (some (.ref x)), st, I, J, R, S, n, q) else none
      | .null :: st => if px_ok pl a = true then some (nx, pl.set a (some .null), st, I, J, R, S, n, q) else none
      | _ => none
    | 6 => if b = 9 then some (nx, pl, px_rv (R a 0) :: st, I, J, R, S, n, q) else some (nx, pl, v :: st, I, J, R, S, n, q)
    | 7 => match pl[a]?, v with
      | some (some (.int x)), .int y => if px_ok pl a = true then some (nx, pl.set a (some (.int (x + y))), st, I, J, R, S, n, q) else none
      | _, _ => none
    | 8 => match st with
      | .int y :: .int x :: st => match px_ib b x y with
        | some z => some (nx, pl, .int z :: st, I, J, R, S, n, q)
        | none => none
      | _ => none
    | 9 => match st with
      | .long y :: .long x :: st => match px_lb b x y with
        | some z => some (nx, pl, .long z :: st, I, J, R, S, n, q)
        | none => none
      | _ => none
    | 10 => match st with
      | .int x :: st => match px_iu b x with
        | some z => some (nx, pl, .int z :: st, I, J, R, S, n, q)
        | none => none
      | _ => none
    | 11 => match st with
      | .int x :: st => some (nx, pl, .long x.toInt64 :: st, I, J, R, S, n, q)
      | _ => none
    | 12 => match st with
      | .long x :: st => some (nx, pl, .int x.toInt32 :: st, I, J, R, S, n, q)
      | _ => none
    | 13 => match st with
      | .long x :: st => some (nx, pl, .long (-x) :: st, I, J, R, S, n, q)
      | _ => none
    | 14 => match st with
      | .long y :: .long x :: st => some (nx, pl, .int (lg_cmp x y) :: st, I, J, R, S, n, q)
      | _ => none
    | 15 => match st with
      | .int x :: st => some (cond (px_c b x 0) a nx, pl, st, I, J, R, S, n, q)
      | _ => none
    | 16 => match st with
      | .int y :: .int x :: st => some (cond (px_c b x y) a nx, pl, st, I, J, R, S, n, q)
      | _ => none
    | 17 => match st with
      | .ref _ :: st => some (nx, pl, st, I, J, R, S, n, q)
      | .null :: st => some (a, pl, st, I, J, R, S, n, q)
      | _ => none
    | 18 => match st with
      | .ref _ :: st => some (a, pl, st, I, J, R, S, n, q)
      | .null :: st => some (nx, pl, st, I, J, R, S, n, q)
      | _ => none
    | 19 => some (a, pl, st, I, J, R, S, n, q)
    | 20 => match st, v with
      | .int x :: st, .int lo => some (px_sw tb lo x a, pl, st, I, J, R, S, n, q)
      | _, _ => none
    | 25 => match st with
      | .int x :: st => some (nx, pl, .int x :: .int x :: st, I, J, R, S, n, q)
      | .ref x :: st => some (nx, pl, .ref x :: .ref x :: st, I, J, R, S, n, q)
      | _ => none
    | 26 => match st with
      | .int _ :: st => some (nx, pl, st, I, J, R, S, n, q)
      | _ => none
    | 27 => match st with
      | .int x :: .ref y :: st => some (nx, pl, .int x :: .ref y :: .int x :: .ref y :: st, I, J, R, S, n, q)
      | _ => none
    | 28 => match st with
      | .ref o :: st => if (tb.lookup (S o).1).isSome = true then some (nx, pl, .int (I o a) :: st, I, J, R, S, n, q) else none
      | _ => none
    | 29 => match st with
      | .ref o :: st => if (tb.lookup (S o).1).isSome = true then some (nx, pl, .long (J o a) :: st, I, J, R, S, n, q) else none
      | _ => none
    | 30 => match st with
      | .ref o :: st => if (tb.lookup (S o).1).isSome = true then some (nx, pl, px_rv (R o a) :: st, I, J, R, S, n, q) else none
      | _ => none
    | 31 => match st with
      | .int x :: .ref o :: st => if ((tb.lookup (S o).1).isSome && px_fit b x) = true then some (nx, pl, st, px_u I o a x, J, R, S, n, q) else none
      | _ => none
    | 32 => match st with
      | .long x :: .ref o :: st => if (tb.lookup (S o).1).isSome = true then some (nx, pl, st, I, px_u J o a x, R, S, n, q) else none
      | _ => none
    | 33 => match st with
      | .ref x :: .ref o :: st => if (tb.lookup (S o).1).isSome = true then some (nx, pl, st, I, J, px_u R o a (some x), S, n, q) else none
      | .null :: .ref o :: st => if (tb.lookup (S o).1).isSome = true then some (nx, pl, st, I, J, px_u R o a none, S, n, q) else none
      | _ => none
    | 34 => if Nat.blt n 1000000 = true then some (nx, pl, .ref n :: st, px_z I n 0, px_z J n 0, px_z R n none, px_us S n (a, b), n + 1, q + b) else none
    | 35 => match st with
      | .int x :: st => if (decide (¬ x < 0) && Nat.blt x.toNatClampNeg 10000 && Nat.blt n 1000000) = true then some (nx, pl, .ref n :: st, px_z I n 0, px_z J n 0, px_z R n none, px_us S n (a, x.toNatClampNeg), n + 1, q + x.toNatClampNeg) else none
      | _ => none
    | 36 => match st with
      | .int x :: st => if (decide (¬ x < 0) && Nat.blt x.toNatClampNeg 10000 && Nat.blt n 1000000) = true then some (nx, pl, .ref n :: st, px_z I n 0, px_z J n 0, px_z R n none, px_us S n (a, x.toNatClampNeg), n + 1, q + x.toNatClampNeg) else none
      | _ => none
    | 37 => match st with
      | .ref o :: st => if (Nat.ble 100 (S o).1 && !Nat.beq (S o).1 150) = true then some (nx, pl, .int (Int32.ofNat (S o).2) :: st, I, J, R, S, n, q) else none
      | _ => none
    | 38 => match st with
      | .int x :: .ref o :: st => if ((Nat.beq (S o).1 100 || Nat.beq (S o).1 200) && px_in x (S o).2) = true then some (nx, pl, .int (I o x.toNatClampNeg) :: st, I, J, R, S, n, q) else none
      | _ => none
    | 39 => match st with
      | .int x :: .ref o :: st => if (Nat.beq (S o).1 101 && px_in x (S o).2) = true then some (nx, pl, .long (J o x.toNatClampNeg) :: st, I, J, R, S, n, q) else none
      | _ => none
    | 40 => match st with
      | .int x :: .ref o :: st => if ((Nat.beq (S o).1 102 || Nat.beq (S o).1 203) && px_in x (S o).2) = true then some (nx, pl, .int (I o x.toNatClampNeg) :: st, I, J, R, S, n, q) else none
      | _ => none
    | 41 => match st with
      | .int x :: .ref o :: st => if ((tb.lookup (S o).1).isSome && px_in x (S o).2) = true then some (nx, pl, px_rv (R o x.toNatClampNeg) :: st, I, J, R, S, n, q) else none
      | _ => none
    | 42 => match st with
      | .int y :: .int x :: .ref o :: st => if (Nat.beq (S o).1 100 && px_in x (S o).2) = true then some (nx, pl, st, px_u I o x.toNatClampNeg y, J, R, S, n, q) else none
      | _ => none
    | 43 => match st with
      | .long y :: .int x :: .ref o :: st => if (Nat.beq (S o).1 101 && px_in x (S o).2) = true then some (nx, pl, st, I, px_u J o x.toNatClampNeg y, R, S, n, q) else none
      | _ => none
    | 44 => match st with
      | .int y :: .int x :: .ref o :: st => if (Nat.beq (S o).1 102 && px_in x (S o).2 && px_fit 1 y) = true then some (nx, pl, st, px_u I o x.toNatClampNeg y, J, R, S, n, q) else none
      | _ => none
    | 45 => match st with
      | .ref y :: .int x :: .ref o :: st => if (tb.contains ((S o).1, (S y).1) && px_in x (S o).2) = true then some (nx, pl, st, I, J, px_u R o x.toNatClampNeg (some y), S, n, q) else none
      | _ => none
    | 46 => match st with
      | .ref o :: st => match tb.lookup (S o).1 with
        | some z => some (nx, pl, .int (Int32.ofNat z) :: st, I, J, R, S, n, q)
        | none => none
      | _ => none
    | 48 => match st with
      | .int k :: .int dp :: .ref d :: .int sp :: .ref o :: st => if (Nat.beq (S o).1 100 && Nat.beq (S d).1 100 && decide (¬ sp < 0) && decide (¬ dp < 0) && decide (¬ k < 0) && Nat.ble (sp.toNatClampNeg + k.toNatClampNeg) (S o).2 && Nat.ble (dp.toNatClampNeg + k.toNatClampNeg) (S d).2 && px_lo st) = true then
          some (nx, pl, st, px_row I d (va_cpy (I o) (I d) sp.toNatClampNeg dp.toNatClampNeg k.toNatClampNeg), J, R, S, n, q) else none
      | _ => none
    | 49 => match st with
      | .ref _ :: st => if px_lo st = true then some (nx, pl, st, I, J, R, S, n, q) else none
      | _ => none
    | 50 => match b with
      | 0 => match st with
        | .int y :: .int x :: st => if px_lo st = true then some (nx, pl, .int (if x < y then y else x) :: st, I, J, R, S, n, q) else none
        | _ => none
      | 1 => match st with
        | .int y :: .int x :: st => if px_lo st = true then some (nx, pl, .int (if y < x then y else x) :: st, I, J, R, S, n, q) else none
        | _ => none
      | _ => match st with
        | .long y :: .long x :: st => if px_lo st = true then some (nx, pl, .long (if y < x then x else y) :: st, I, J, R, S, n, q) else none
        | _ => none
    | _ => none
/-- a call's callee, its arguments in their order, what stays on the stack -/
def px_ca (i : px_I) (st : List Value) (S : px_HS) : Option (Nat × List Value × List Value) :=
  match i with
  | (_, a, b, _, _, tb, _) => if Nat.ble a st.length = true then
      match b with
      | 0 => match tb with
        | q :: _ => some (q.2, (st.take a).reverse, st.drop a)
        | _ => none
      | _ => match st.drop a with
        | .ref o :: rest => match tb.lookup (S o).1 with
          | some k => some (k, .ref o :: (st.take a).reverse, rest)
          | none => none
        | _ => none
    else none
def px_sl : List Value → px_L
  | [] => []
  | .long x :: vs => some (.long x) :: none :: px_sl vs
  | .double x :: vs => some (.double x) :: none :: px_sl vs
  | v :: vs => some v :: px_sl vs
/-- the locals with which a method begins -/
def px_en (vs : List Value) (k : Nat) : px_L := px_sl vs ++ List.replicate (k - (px_sl vs).length) none
/-- what a return gives -/
def px_re (i : px_I) (st : List Value) : Option (Option Value) :=
  match i with
  | (op, _, b, _) => match op with
    | 21 => match st with
      | [.int x] => if px_fit b x = true then some (some (.int x)) else none
      | _ => none
    | 22 => match st with
      | [.long x] => some (some (.long x))
      | _ => none
    | 23 => match st with
      | [.ref x] => some (some (.ref x))
      | [.null] => some (some .null)
      | _ => none
    | 24 => match st with
      | [] => some none
      | _ => none
    | _ => none
