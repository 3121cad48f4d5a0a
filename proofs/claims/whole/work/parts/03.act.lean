/-! THE INTERPRETER: cells by their number (cell a lies at the address sigma + a), ints, references and longs in three tables; the script is the value '.retAddr _' -/
abbrev zHp : Type := Nat × (Nat → Nat → Int32) × (Nat → Nat → Option Nat) × (Nat → Nat → Int64)
abbrev zSt : Type := Nat × Nat × List (Option Value) × List Value × zHp
abbrev zRs : Type := Value × zHp
abbrev zAc : Type := zRs ⊕ (zSt ⊕ (zSt × (zRs → zSt)))
abbrev zScr : Type := Nat × (Nat → Int32)
def zU {α : Type} (f : Nat → Nat → α) (a j : Nat) (v : α) : Nat → Nat → α := fun q t => if q = a ∧ t = j then v else f q t
def zCr {α : Type} (f : Nat → Nat → α) (a : Nat) (d : α) : Nat → Nat → α := fun q t => if q = a then d else f q t
/-- a row of ints copied into another one -/
def zCp (f : Nat → Nat → Int32) (a0 a sp dp n : Nat) : Nat → Nat → Int32 := fun q t => if q = a then va_cpy (f a0) (f a) sp dp n t else f q t
def zTg (pc : Nat) (off : Int) : Option Nat := match (pc : Int) + off with
  | .ofNat t => some t
  | _ => none
def zgo (k pc : Nat) (ls : List (Option Value)) (st : List Value) (h : zHp) : Option zAc := some (.inr (.inl (k, pc, ls, st, h)))
def zjp (k : Nat) (t : Option Nat) (ls : List (Option Value)) (st : List Value) (h : zHp) : Option zAc := match t with
  | some t => zgo k t ls st h
  | none => none
def zcat (st : List Value) : Nat := (st.map fun v => v.category).sum
def zok (n a c : Nat) : Bool := decide (a < n) && (zK a).1 == c
/-- what a field's type asks: 0 an int, 3 a boolean, 1 a long, 2 a reference -/
def zcl : FieldType → Nat
  | .int => 0
  | .boolean => 3
  | .long => 1
  | .object _ => 2
  | .array _ => 2
  | _ => 9
/-- where the one method with a long keeps it -/
def zLA (k : Nat) : Nat := match (zMT[k]?).map (fun M => M.1.desc == "(II)I" && M.1.name == "mark" && M.2.2.2.2.1 == 10) with
  | some true => 4
  | _ => 99
def zset (k : Nat) (ls : List (Option Value)) (j : Nat) (v : Value) : Option (List (Option Value)) := if j = zLA k ∨ j = zLA k + 1 ∨ ls.length ≤ j then none else some (ls.set j (some v))
def zent (as : List Value) (n : Nat) : List (Option Value) := as.map some ++ List.replicate (n - as.length) none
def zcat1 (as : List Value) : Bool := as.all fun v => v.category == 1
def zcall (k : Nat) (M : zMe) (pc : Nat) (ls : List (Option Value)) (as rest : List Value) (h : zHp) (k' : Nat) : Option zAc := match zM k' with
  | none => none
  | some N => if N.2.2.2.2.2.1 + 1 ≤ M.2.2.2.2.2.1 ∧ 8 + (N.2.2.1 + 11) + N.2.2.2.2.2.2 ≤ M.2.2.2.2.2.2 ∧ zcat rest ≤ 8 ∧ as.length ≤ N.2.2.1 ∧ zcat1 as = true then
      some (.inr (.inr ((k', 0, zent as N.2.2.1, [], h), fun x => (k, pc + 3, ls, if N.2.2.2.1 = none then rest else x.1 :: rest, x.2)))) else none
def zsw (pc : Nat) (d lo hi : Int) (offs : Array Int) (x : Int32) : Option Nat := if x.toInt < lo ∨ hi < x.toInt then zTg pc d else match offs[(x.toInt - lo).toNat]? with
  | some o => zTg pc o
  | none => none
def zlen : Instr → Nat → Nat
  | .iload _, _ | .istore _, _ | .aload _, _ | .astore _, _ | .lload _, _ | .lstore _, _ | .bipush _, _ | .newarray _, _ | .ldc _, _ => 2
  | .sipush _, _ | .getfield _, _ | .putfield _, _ | .goto _, _ | .ifCond _ _, _ | .if_icmp _ _, _ | .iinc _ _, _ | .invokevirtual _, _ | .invokestatic _, _ | .invokespecial _, _ | .new _, _ | .anewarray _, _ | .ldc_w _, _ | .ldc2_w _, _ => 3
  | .tableswitch _ _ _ _, n => n
  | .lookupswitch _ _, n => n
  | _, _ => 1
def zcmp (c : ClassFile.Cond) (x y : Int32) : Bool := match c with
  | .eq => decide (x = y)
  | .ne => !decide (x = y)
  | .lt => decide (x < y)
  | .ge => decide (y ≤ x)
  | .gt => decide (y < x)
  | .le => decide (x ≤ y)
def zins (sc : zScr) (k : Nat) (M : zMe) (pc : Nat) (ls : List (Option Value)) (st : List Value) (h : zHp) : Instr → Option zAc
  | .aload_n j => match ls[j.val]? with
    | some (some (.ref a)) => zgo k (pc + 1) ls (.ref a :: st) h
    | some (some (.retAddr a)) => zgo k (pc + 1) ls (.retAddr a :: st) h
    | _ => none
  | .aload j => match ls[j]? with
    | some (some (.ref a)) => zgo k (pc + 2) ls (.ref a :: st) h
    | _ => none
  | .iload_n j => match ls[j.val]? with
    | some (some (.int a)) => zgo k (pc + 1) ls (.int a :: st) h
    | _ => none
  | .iload j => match ls[j]? with
    | some (some (.int a)) => zgo k (pc + 2) ls (.int a :: st) h
    | _ => none
  | .lload_n j => match ls[j.val]? with
    | some (some (.long a)) => zgo k (pc + 1) ls (.long a :: st) h
    | _ => none
  | .lload j => match ls[j]? with
    | some (some (.long a)) => zgo k (pc + 2) ls (.long a :: st) h
    | _ => none
  | .istore_n j => match st with
    | .int x :: st => match zset k ls j.val (.int x) with
      | some ls' => zgo k (pc + 1) ls' st h
      | none => none
    | _ => none
  | .istore j => match st with
    | .int x :: st => match zset k ls j (.int x) with
      | some ls' => zgo k (pc + 2) ls' st h
      | none => none
    | _ => none
  | .astore_n j => match st with
    | .ref x :: st => match zset k ls j.val (.ref x) with
      | some ls' => zgo k (pc + 1) ls' st h
      | none => none
    | _ => none
  | .astore j => match st with
    | .ref x :: st => match zset k ls j (.ref x) with
      | some ls' => zgo k (pc + 2) ls' st h
      | none => none
    | _ => none
  | .lstore_n j => match st with
    | .long x :: st => if j.val = zLA k ∧ j.val + 1 < M.2.2.1 then zgo k (pc + 1) ((ls.set j.val (some (.long x))).set (j.val + 1) none) st h else none
    | _ => none
  | .lstore j => match st with
    | .long x :: st => if j = zLA k ∧ j + 1 < M.2.2.1 then zgo k (pc + 2) ((ls.set j (some (.long x))).set (j + 1) none) st h else none
    | _ => none
  | .iinc j c => match ls[j]? with
    | some (some (.int x)) => match zset k ls j (.int (x + Int32.ofInt c)) with
      | some ls' => zgo k (pc + 3) ls' st h
      | none => none
    | _ => none
  | .iconst n => zgo k (pc + 1) ls (.int (Int32.ofInt n) :: st) h
  | .bipush n => zgo k (pc + 2) ls (.int (Int8.ofInt n).toInt32 :: st) h
  | .sipush n => zgo k (pc + 3) ls (.int (Int16.ofInt n).toInt32 :: st) h
  | .lconst n => zgo k (pc + 1) ls (.long (Int64.ofNat n.val) :: st) h
  | .ldc i => match zI M.2.2.2.2.1 i with
    | some v => zgo k (pc + 2) ls (.int v :: st) h
    | none => none
  | .ldc_w i => match zI M.2.2.2.2.1 i with
    | some v => zgo k (pc + 3) ls (.int v :: st) h
    | none => none
  | .ldc2_w i => match zL M.2.2.2.2.1 i with
    | some v => zgo k (pc + 3) ls (.long v :: st) h
    | none => none
  | .iadd => match st with
    | .int y :: .int x :: st => zgo k (pc + 1) ls (.int (x + y) :: st) h
    | _ => none
  | .isub => match st with
    | .int y :: .int x :: st => zgo k (pc + 1) ls (.int (x - y) :: st) h
    | _ => none
  | .imul => match st with
    | .int y :: .int x :: st => zgo k (pc + 1) ls (.int (x * y) :: st) h
    | _ => none
  | .idiv => match st with
    | .int y :: .int x :: st => if y = 0 then none else zgo k (pc + 1) ls (.int (x / y) :: st) h
    | _ => none
  | .irem => match st with
    | .int y :: .int x :: st => if y = 0 then none else zgo k (pc + 1) ls (.int (x - x / y * y) :: st) h
    | _ => none
  | .ishl => match st with
    | .int y :: .int x :: st => zgo k (pc + 1) ls (.int (x <<< (y &&& 31)) :: st) h
    | _ => none
  | .ishr => match st with
    | .int y :: .int x :: st => zgo k (pc + 1) ls (.int (x >>> (y &&& 31)) :: st) h
    | _ => none
  | .iushr => match st with
    | .int y :: .int x :: st => zgo k (pc + 1) ls (.int (x.toUInt32 >>> (y.toUInt32 &&& Int32.toUInt32 31)).toInt32 :: st) h
    | _ => none
  | .iand => match st with
    | .int y :: .int x :: st => zgo k (pc + 1) ls (.int (x &&& y) :: st) h
    | _ => none
  | .ior => match st with
    | .int y :: .int x :: st => zgo k (pc + 1) ls (.int (x ||| y) :: st) h
    | _ => none
  | .ixor => match st with
    | .int y :: .int x :: st => zgo k (pc + 1) ls (.int (x ^^^ y) :: st) h
    | _ => none
  | .ladd => match st with
    | .long y :: .long x :: st => zgo k (pc + 1) ls (.long (x + y) :: st) h
    | _ => none
  | .lmul => match st with
    | .long y :: .long x :: st => zgo k (pc + 1) ls (.long (x * y) :: st) h
    | _ => none
  | .lcmp => match st with
    | .long y :: .long x :: st => zgo k (pc + 1) ls (.int (lg_cmp x y) :: st) h
    | _ => none
  | .i2b => match st with
    | .int x :: st => zgo k (pc + 1) ls (.int x.toInt8.toInt32 :: st) h
    | _ => none
  | .dup => match st with
    | v :: st => if v.category = 1 then zgo k (pc + 1) ls (v :: v :: st) h else none
    | _ => none
  | .dup2 => match st with
    | v :: w :: st => if v.category = 1 ∧ w.category = 1 then zgo k (pc + 1) ls (v :: w :: v :: w :: st) h else none
    | _ => none
  | .goto off => zjp k (zTg pc off) ls st h
  | .ifCond c off => match st with
    | .int x :: st => match zTg pc off with
      | some t => if zcmp c x 0 = true then zgo k t ls st h else zgo k (pc + 3) ls st h
      | none => none
    | _ => none
  | .if_icmp c off => match st with
    | .int y :: .int x :: st => match zTg pc off with
      | some t => if zcmp c x y = true then zgo k t ls st h else zgo k (pc + 3) ls st h
      | none => none
    | _ => none
  | .tableswitch d lo hi offs => match st with
    | .int x :: st => zjp k (zsw pc d lo hi offs x) ls st h
    | _ => none
  | .lookupswitch d ps => match st with
    | .int x :: st => if (ps.toList.zip (ps.toList.drop 1)).all (fun (a, next) => a.1 < next.1) = true then zjp k (zTg pc (Op.lookupswitch.offset ps.toList d x.toInt)) ls st h else none
    | _ => none
  | .getfield i => match zF M.2.2.2.2.1 i, st with
    | some (ci, j), .ref a :: st => if zok h.1 a ci = true then (match zcl (zTy ci j) with
        | 0 => zgo k (pc + 3) ls (.int (h.2.1 a j) :: st) h
        | 3 => zgo k (pc + 3) ls (.int (h.2.1 a j) :: st) h
        | 1 => zgo k (pc + 3) ls (.long (h.2.2.2 a j) :: st) h
        | 2 => zgo k (pc + 3) ls (va_rf (h.2.2.1 a j) :: st) h
        | _ => none) else none
    | _, _ => none
  | .putfield i => match zF M.2.2.2.2.1 i, st with
    | some (ci, j), v :: .ref a :: st => if zok h.1 a ci = true ∧ ((zCl[ci]?).map (fun r => (r.2.1 j).2.2.2) = some false ∨ ((zCl[ci]?).map (fun r => (r.2.1 j).2.2.2) = some true ∧ M.1.name = "<init>" ∧ (zCl[ci]?).map (fun r => (r.2.1 j).1) = some (zRN M.2.2.2.2.1))) then (match zcl (zTy ci j), v with
        | 0, .int x => zgo k (pc + 3) ls st (h.1, zU h.2.1 a j x, h.2.2.1, h.2.2.2)
        | 3, .int x => if x = 0 ∨ x = 1 then zgo k (pc + 3) ls st (h.1, zU h.2.1 a j x, h.2.2.1, h.2.2.2) else none
        | 1, .long x => zgo k (pc + 3) ls st (h.1, h.2.1, h.2.2.1, zU h.2.2.2 a j x)
        | 2, .ref x => zgo k (pc + 3) ls st (h.1, h.2.1, zU h.2.2.1 a j (some x), h.2.2.2)
        | _, _ => none) else none
    | _, _ => none
  | .new i => match zC M.2.2.2.2.1 i with
    | some ci => if (zCl[ci]?).map (fun r => r.2.2) = some (zK h.1).2 ∧ (zK h.1).1 = ci then zgo k (pc + 3) ls (.ref h.1 :: st) (h.1 + 1, zCr h.2.1 h.1 0, zCr h.2.2.1 h.1 none, zCr h.2.2.2 h.1 0) else none
    | none => none
  | .newarray t => match st with
    | .int x :: st => if ¬ x < 0 ∧ x.toNatClampNeg = (zK h.1).2 ∧ (zK h.1).2 ≤ 5000 ∧ ((t = .int ∧ (zK h.1).1 = 100) ∨ (t = .byte ∧ (zK h.1).1 = 101) ∨ (t = .boolean ∧ (zK h.1).1 = 102)) then
        zgo k (pc + 2) ls (.ref h.1 :: st) (h.1 + 1, zCr h.2.1 h.1 0, zCr h.2.2.1 h.1 none, zCr h.2.2.2 h.1 0) else none
    | _ => none
  | .anewarray i => match zC M.2.2.2.2.1 i, st with
    | some ci, .int x :: st => if ¬ x < 0 ∧ x.toNatClampNeg = (zK h.1).2 ∧ (zK h.1).2 ≤ 5000 ∧ ((ci = 7 ∧ (zK h.1).1 = 103) ∨ (ci = 3 ∧ (zK h.1).1 = 104)) then
        zgo k (pc + 3) ls (.ref h.1 :: st) (h.1 + 1, zCr h.2.1 h.1 0, zCr h.2.2.1 h.1 none, zCr h.2.2.2 h.1 0) else none
    | _, _ => none
  | .arraylength => match st with
    | .retAddr _ :: st => zgo k (pc + 1) ls (.int (Int32.ofNat sc.1) :: st) h
    | _ => none
  | .iaload => match st with
    | .int j :: .ref a :: st => if zok h.1 a 100 = true ∧ ¬ (j < 0 ∨ (zK a).2 ≤ j.toNatClampNeg) then zgo k (pc + 1) ls (.int (h.2.1 a j.toNatClampNeg) :: st) h else none
    | .int j :: .retAddr _ :: st => if ¬ (j < 0 ∨ sc.1 ≤ j.toNatClampNeg) then zgo k (pc + 1) ls (.int (sc.2 j.toNatClampNeg) :: st) h else none
    | _ => none
  | .baload => match st with
    | .int j :: .ref a :: st => if (zok h.1 a 101 = true ∨ zok h.1 a 102 = true) ∧ ¬ (j < 0 ∨ (zK a).2 ≤ j.toNatClampNeg) then zgo k (pc + 1) ls (.int (h.2.1 a j.toNatClampNeg) :: st) h else none
    | _ => none
  | .iastore => match st with
    | .int x :: .int j :: .ref a :: st => if zok h.1 a 100 = true ∧ ¬ (j < 0 ∨ (zK a).2 ≤ j.toNatClampNeg) then zgo k (pc + 1) ls st (h.1, zU h.2.1 a j.toNatClampNeg x, h.2.2.1, h.2.2.2) else none
    | _ => none
  | .bastore => match st with
    | .int x :: .int j :: .ref a :: st => if ¬ (j < 0 ∨ (zK a).2 ≤ j.toNatClampNeg) then
        (if zok h.1 a 101 = true then zgo k (pc + 1) ls st (h.1, zU h.2.1 a j.toNatClampNeg (vp_nar .byte x), h.2.2.1, h.2.2.2)
        else if zok h.1 a 102 = true then zgo k (pc + 1) ls st (h.1, zU h.2.1 a j.toNatClampNeg (vp_nar .boolean x), h.2.2.1, h.2.2.2) else none) else none
    | _ => none
  | .aaload => match st with
    | .int j :: .ref a :: st => if (zok h.1 a 103 = true ∨ zok h.1 a 104 = true) ∧ ¬ (j < 0 ∨ (zK a).2 ≤ j.toNatClampNeg) then zgo k (pc + 1) ls (va_rf (h.2.2.1 a j.toNatClampNeg) :: st) h else none
    | _ => none
  | .aastore => match st with
    | .ref x :: .int j :: .ref a :: st => if ((zok h.1 a 103 = true ∧ zok h.1 x 7 = true) ∨ (zok h.1 a 104 = true ∧ zok h.1 x 3 = true)) ∧ ¬ (j < 0 ∨ (zK a).2 ≤ j.toNatClampNeg) then zgo k (pc + 1) ls st (h.1, h.2.1, zU h.2.2.1 a j.toNatClampNeg (some x), h.2.2.2) else none
    | _ => none
  | .invokevirtual i => match zMr M.2.2.2.2.1 i with
    | some (k', 0, na) => match st.drop na with
      | .ref a :: rest => if (zM k').map (fun N => zok h.1 a N.2.2.2.2.1) = some true ∧ (st.take na).length = na then zcall k M pc ls (.ref a :: (st.take na).reverse) rest h k' else none
      | _ => none
    | _ => none
  | .invokespecial i => match zMr M.2.2.2.2.1 i with
    | some (_, 4, _) => match st with
      | .ref _ :: rest => if 1 ≤ M.2.2.2.2.2.1 ∧ zcat rest ≤ 8 ∧ 20 ≤ M.2.2.2.2.2.2 then zgo k (pc + 3) ls rest h else none
      | _ => none
    | some (k', 2, na) => match st.drop na with
      | .ref a :: rest => if (st.take na).length = na then zcall k M pc ls (.ref a :: (st.take na).reverse) rest h k' else none
      | _ => none
    | some (k', 3, na) => match st.drop na with
      | .ref a :: rest => if (st.take na).length = na then zcall k M pc ls (.ref a :: (st.take na).reverse) rest h k' else none
      | _ => none
    | _ => none
  | .invokestatic i => match zMr M.2.2.2.2.1 i with
    | some (_, 5, _) => match st with
      | .int y :: .int x :: rest => if 1 ≤ M.2.2.2.2.2.1 ∧ zcat rest ≤ 8 ∧ 21 ≤ M.2.2.2.2.2.2 then zgo k (pc + 3) ls (.int (if x < y then y else x) :: rest) h else none
      | _ => none
    | some (_, 6, _) => match st with
      | .int y :: .int x :: rest => if 1 ≤ M.2.2.2.2.2.1 ∧ zcat rest ≤ 8 ∧ 21 ≤ M.2.2.2.2.2.2 then zgo k (pc + 3) ls (.int (if y < x then y else x) :: rest) h else none
      | _ => none
    | some (_, 7, _) => match st with
      | .int x :: rest => if 1 ≤ M.2.2.2.2.2.1 ∧ zcat rest ≤ 8 ∧ 21 ≤ M.2.2.2.2.2.2 then zgo k (pc + 3) ls (.int (if 0 ≤ x then x else 0 - x) :: rest) h else none
      | _ => none
    | some (_, 8, _) => match st with
      | .int n :: .int dp :: .ref a :: .int sp :: .ref a0 :: rest => if (1 ≤ M.2.2.2.2.2.1 ∧ zcat rest ≤ 8 ∧ 26 ≤ M.2.2.2.2.2.2) ∧ zok h.1 a 100 = true ∧ zok h.1 a0 100 = true ∧ ¬ sp < 0 ∧ ¬ dp < 0 ∧ ¬ n < 0 ∧ sp.toNatClampNeg + n.toNatClampNeg ≤ (zK a0).2 ∧ dp.toNatClampNeg + n.toNatClampNeg ≤ (zK a).2 then
          zgo k (pc + 3) ls rest (h.1, zCp h.2.1 a0 a sp.toNatClampNeg dp.toNatClampNeg n.toNatClampNeg, h.2.2.1, h.2.2.2) else none
      | _ => none
    | some (k', 1, na) => if (st.take na).length = na then zcall k M pc ls (st.take na).reverse (st.drop na) h k' else none
    | _ => none
  | .ireturn => match st with
    | [.int x] => if M.2.2.2.1 = some .int ∨ (M.2.2.2.1 = some .boolean ∧ (x = 0 ∨ x = 1)) then some (.inl (.int x, h)) else none
    | _ => none
  | .lreturn => match st with
    | [.long x] => if M.2.2.2.1 = some .long then some (.inl (.long x, h)) else none
    | _ => none
  | .return_ => match st with
    | [] => if M.2.2.2.1 = none then some (.inl (.null, h)) else none
    | _ => none
  | _ => none
def zact (sc : zScr) (s : zSt) : Option zAc := match zM s.1 with
  | none => none
  | some M => match decode M.2.1 s.2.1 with
    | .error _ => none
    | .ok x => if x.2 = zlen x.1 x.2 then zins sc s.1 M s.2.1 s.2.2.1 s.2.2.2.1 s.2.2.2.2 x.1 else none
def zstp (rec : zSt → Option zRs) (a : Option zAc) : Option zRs := match a with
  | none => none
  | some (.inl r) => some r
  | some (.inr (.inl s)) => rec s
  | some (.inr (.inr sf)) => (rec sf.1).bind (fun x => rec (sf.2 x))
def zrun (sc : zScr) : Nat → zSt → Option zRs
  | 0, _ => none
  | n + 1, s => zstp (zrun sc n) (zact sc s)
theorem zstp_mono {r1 r2 : zSt → Option zRs} (hr : ∀ s x, r1 s = some x → r2 s = some x) {a : Option zAc} {x : zRs} (h : zstp r1 a = some x) : zstp r2 a = some x := by
  match a, h with
  | some (.inl r), h => exact h
  | some (.inr (.inl s)), h => exact hr _ _ h
  | some (.inr (.inr sf)), h =>
    simp only [zstp] at h ⊢
    obtain ⟨y, h1, h2⟩ := Option.bind_eq_some_iff.mp h
    exact Option.bind_eq_some_iff.mpr ⟨y, hr _ _ h1, hr _ _ h2⟩
theorem zrun_succ (sc : zScr) : ∀ (n : Nat) (s : zSt) (x : zRs), zrun sc n s = some x → zrun sc (n + 1) s = some x
  | 0, _, _, h => by cases h
  | n + 1, _, _, h => zstp_mono (zrun_succ sc n) h
theorem zrun_mono {sc : zScr} {n m : Nat} (h : n ≤ m) {s : zSt} {x : zRs} (hx : zrun sc n s = some x) : zrun sc m s = some x := by
  induction h with
  | refl => exact hx
  | step _ ih => exact zrun_succ sc _ _ _ ih
theorem zrun_det {sc : zScr} {n m : Nat} {s : zSt} {x y : zRs} (hx : zrun sc n s = some x) (hy : zrun sc m s = some y) : x = y := by
  have h1 := zrun_mono (Nat.le_max_left n m) hx
  have h2 := zrun_mono (Nat.le_max_right n m) hy
  exact Option.some.inj (h1.symm.trans h2)
/-- what a state comes to, if it does -/
noncomputable def zev (sc : zScr) (s : zSt) : Option zRs := @dite _ (∃ (x : zRs) (n : Nat), zrun sc n s = some x) (Classical.propDecidable _) (fun h => some h.choose) (fun _ => none)
theorem zev_iff {sc : zScr} {s : zSt} {x : zRs} : zev sc s = some x ↔ ∃ n, zrun sc n s = some x := by
  unfold zev
  constructor
  · intro h
    by_cases hc : ∃ (x : zRs) (n : Nat), zrun sc n s = some x
    · rw [dif_pos hc] at h
      obtain ⟨n, hn⟩ := hc.choose_spec
      rw [Option.some.inj h] at hn
      exact ⟨n, hn⟩
    · rw [dif_neg hc] at h
      cases h
  · intro ⟨n, hn⟩
    have hc : ∃ (x : zRs) (n : Nat), zrun sc n s = some x := ⟨x, n, hn⟩
    rw [dif_pos hc]
    obtain ⟨m, hm⟩ := hc.choose_spec
    rw [zrun_det hm hn]
theorem zev_some {sc : zScr} {s : zSt} {x : zRs} : zstp (zev sc) (zact sc s) = some x ↔ zev sc s = some x := by
  rw [zev_iff]
  constructor
  · intro h
    match ha : zact sc s, h with
    | some (.inl r), h =>
      exact ⟨1, by show zstp _ (zact sc s) = _; rw [ha]; exact h⟩
    | some (.inr (.inl s')), h =>
      obtain ⟨n, hn⟩ := zev_iff.mp h
      exact ⟨n + 1, by show zstp _ (zact sc s) = _; rw [ha]; exact hn⟩
    | some (.inr (.inr sf)), h =>
      simp only [zstp] at h
      obtain ⟨y, h1, h2⟩ := Option.bind_eq_some_iff.mp h
      obtain ⟨n, hn⟩ := zev_iff.mp h1
      obtain ⟨m, hm⟩ := zev_iff.mp h2
      refine ⟨max n m + 1, ?_⟩
      show zstp _ (zact sc s) = _
      rw [ha]
      exact Option.bind_eq_some_iff.mpr ⟨y, zrun_mono (Nat.le_max_left _ _) hn, zrun_mono (Nat.le_max_right _ _) hm⟩
  · intro ⟨n, hn⟩
    match n, hn with
    | n + 1, hn =>
      exact zstp_mono (fun s x h => zev_iff.mpr ⟨n, h⟩) hn
theorem zev_eq (sc : zScr) (s : zSt) : zev sc s = zstp (zev sc) (zact sc s) := by
  cases h : zev sc s with
  | some x => exact (zev_some.mpr h).symm
  | none =>
    cases h2 : zstp (zev sc) (zact sc s) with
    | none => rfl
    | some x => rw [zev_some.mp h2] at h; cases h
