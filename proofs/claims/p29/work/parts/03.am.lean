/-! THE ABSTRACT MACHINE: runs the classes' bytecode over numbers of cells (1, 2, ..; 0 is null) instead of addresses; ints and longs are whole numbers within their bounds.
A value: .inl an int, .inr (.inl _) a long, .inr (.inr _) a reference. A heap: what kinds of cells there are (class, or array and its length), ints by cell and place, longs, references, cells and slots made. -/
abbrev am_V : Type := Int ⊕ (Int ⊕ Nat)
abbrev am_L : Type := List (Option am_V)
abbrev am_H : Type := List (Nat × Nat) × (Nat → Nat → Int) × (Nat → Nat → Int) × (Nat → Nat → Nat) × Nat × Nat
abbrev am_E : Type := Nat × Instr × Nat × Nat × Int
abbrev am_R : Type := (Option am_V × am_H) ⊕ (Nat × am_H)
abbrev am_i (z : Int) : am_V := Sum.inl z
abbrev am_l (z : Int) : am_V := Sum.inr (Sum.inl z)
abbrev am_r (p : Nat) : am_V := Sum.inr (Sum.inr p)
def am_w32 (z : Int) : Int := (z + 2147483648) % 4294967296 - 2147483648
def am_w64 (z : Int) : Int := (z + 9223372036854775808) % 18446744073709551616 - 9223372036854775808
def am_w8 (z : Int) : Int := (z + 128) % 256 - 128
theorem am_w32_id {z : Int} (h1 : -2147483648 ≤ z) (h2 : z < 2147483648) : am_w32 z = z := by unfold am_w32; omega
theorem am_w64_id {z : Int} (h1 : -9223372036854775808 ≤ z) (h2 : z < 9223372036854775808) : am_w64 z = z := by unfold am_w64; omega
theorem am_w8_id {z : Int} (h1 : -128 ≤ z) (h2 : z < 128) : am_w8 z = z := by unfold am_w8; omega
theorem am_w32_in (z : Int) : -2147483648 ≤ am_w32 z ∧ am_w32 z < 2147483648 := by unfold am_w32; omega
theorem am_w64_in (z : Int) : -9223372036854775808 ≤ am_w64 z ∧ am_w64 z < 9223372036854775808 := by unfold am_w64; omega
def am_cat : am_V → Nat
  | .inr (.inl _) => 2
  | _ => 1
def am_up {α : Type} (f : Nat → Nat → α) (p k : Nat) (v : α) : Nat → Nat → α := fun q j => if q = p then (if j = k then v else f q j) else f q j
def am_clr {α : Type} (f : Nat → Nat → α) (p : Nat) (d : α) : Nat → Nat → α := fun q j => if q = p then d else f q j
/-- cells from this number on are there ahead of the run, and nobody writes them -/
def am_SP : Nat := 1000000
def am_ii (f : Int → Int → Int) : List am_V → Option (List am_V)
  | .inl b :: .inl a :: r => some (.inl (f a b) :: r)
  | _ => none
def am_ll (f : Int → Int → Int) : List am_V → Option (List am_V)
  | .inr (.inl b) :: .inr (.inl a) :: r => some (.inr (.inl (f a b)) :: r)
  | _ => none
def am_li (f : Int → Int → Int) : List am_V → Option (List am_V)
  | .inl b :: .inr (.inl a) :: r => some (.inr (.inl (f a b)) :: r)
  | _ => none
def am_lsign (a b : Int) : Int := if b < a then 1 else if a = b then 0 else -1
/-- what works on the stack alone -/
def am_alu (ins : Instr) (st : List am_V) : Option (List am_V) := match ins with
  | .iconst n => if -1 ≤ n ∧ n ≤ 5 then some (.inl n :: st) else none
  | .bipush n => if -128 ≤ n ∧ n ≤ 127 then some (.inl n :: st) else none
  | .sipush n => if -32768 ≤ n ∧ n ≤ 32767 then some (.inl n :: st) else none
  | .lconst n => some (.inr (.inl (n.val : Int)) :: st)
  | .iadd => am_ii (fun a b => am_w32 (a + b)) st
  | .isub => am_ii (fun a b => am_w32 (a - b)) st
  | .imul => am_ii (fun a b => am_w32 (a * b)) st
  | .iand => am_ii (fun a b => (Int32.ofInt a &&& Int32.ofInt b).toInt) st
  | .ior => am_ii (fun a b => (Int32.ofInt a ||| Int32.ofInt b).toInt) st
  | .ishl => am_ii (fun a b => (Int32.ofInt a <<< (Int32.ofInt b &&& 31)).toInt) st
  | .ishr => am_ii (fun a b => (Int32.ofInt a >>> (Int32.ofInt b &&& 31)).toInt) st
  | .iushr => am_ii (fun a b => ((Int32.ofInt a).toUInt32 >>> ((Int32.ofInt b).toUInt32 &&& Int32.toUInt32 31)).toInt32.toInt) st
  | .idiv => match st with
    | .inl b :: .inl a :: r => if b = 0 then none else some (.inl (am_w32 (Int.tdiv a b)) :: r)
    | _ => none
  | .irem => match st with
    | .inl b :: .inl a :: r => if b = 0 then none else some (.inl (Int.tmod a b) :: r)
    | _ => none
  | .ineg => match st with
    | .inl a :: r => some (.inl (am_w32 (-a)) :: r)
    | _ => none
  | .ladd => am_ll (fun a b => am_w64 (a + b)) st
  | .lsub => am_ll (fun a b => am_w64 (a - b)) st
  | .lmul => am_ll (fun a b => am_w64 (a * b)) st
  | .land => am_ll (fun a b => (Int64.ofInt a &&& Int64.ofInt b).toInt) st
  | .lor => am_ll (fun a b => (Int64.ofInt a ||| Int64.ofInt b).toInt) st
  | .lxor => am_ll (fun a b => (Int64.ofInt a ^^^ Int64.ofInt b).toInt) st
  | .lshl => am_li (fun a b => (Int64.ofInt a <<< ((Int32.ofInt b).toInt64 &&& 63)).toInt) st
  | .lshr => am_li (fun a b => (Int64.ofInt a >>> ((Int32.ofInt b).toInt64 &&& 63)).toInt) st
  | .lushr => am_li (fun a b => ((Int64.ofInt a).toUInt64 >>> ((Int32.ofInt b).toInt64.toUInt64 &&& Int64.toUInt64 63)).toInt64.toInt) st
  | .ldiv => match st with
    | .inr (.inl b) :: .inr (.inl a) :: r => if b = 0 then none else some (.inr (.inl (am_w64 (Int.tdiv a b))) :: r)
    | _ => none
  | .lrem => match st with
    | .inr (.inl b) :: .inr (.inl a) :: r => if b = 0 then none else some (.inr (.inl (Int.tmod a b)) :: r)
    | _ => none
  | .lneg => match st with
    | .inr (.inl a) :: r => some (.inr (.inl (am_w64 (-a))) :: r)
    | _ => none
  | .lcmp => match st with
    | .inr (.inl b) :: .inr (.inl a) :: r => some (.inl (am_lsign a b) :: r)
    | _ => none
  | .i2l => match st with
    | .inl a :: r => some (.inr (.inl a) :: r)
    | _ => none
  | .l2i => match st with
    | .inr (.inl a) :: r => some (.inl (am_w32 a) :: r)
    | _ => none
  | .i2b => match st with
    | .inl a :: r => some (.inl (am_w8 a) :: r)
    | _ => none
  | .i2c => match st with
    | .inl a :: r => some (.inl ((Int32.ofInt a).toUInt32 % 65536).toInt32.toInt :: r)
    | _ => none
  | .dup => match st with
    | v :: r => if am_cat v = 1 then some (v :: v :: r) else none
    | _ => none
  | .pop => match st with
    | v :: r => if am_cat v = 1 then some r else none
    | _ => none
  | .dup_x1 => match st with
    | v :: w :: r => if am_cat v = 1 ∧ am_cat w = 1 then some (v :: w :: v :: r) else none
    | _ => none
  | .dup_x2 => match st with
    | v :: w :: u :: r => if am_cat v = 1 ∧ am_cat w = 1 ∧ am_cat u = 1 then some (v :: w :: u :: v :: r) else none
    | _ => none
  | .dup2 => match st with
    | v :: r => if am_cat v = 2 then some (v :: v :: r) else match r with
      | w :: r2 => if am_cat w = 1 then some (v :: w :: v :: w :: r2) else none
      | _ => none
    | _ => none
  | _ => none
/-- a local is stored: a long's half is lost -/
def am_pre (ls : am_L) (i : Nat) : am_L := match ls[i - 1]? with
  | some (some (.inr (.inl _))) => if i = 0 then ls else ls.set (i - 1) none
  | _ => ls
def am_st (ls : am_L) (i : Nat) (v : am_V) : Option am_L :=
  if am_cat v = 1 then (if i < ls.length then some ((am_pre ls i).set i (some v)) else none)
  else (if i + 1 < ls.length then some (((am_pre ls i).set (i + 1) none).set i (some v)) else none)
def am_get (ls : am_L) (i : Nat) : Option am_V := match ls[i]? with
  | some (some v) => some v
  | _ => none
/-- locals alone -/
def am_loc (ins : Instr) (ls : am_L) (st : List am_V) : Option (am_L × List am_V) := match ins with
  | .iload i => match am_get ls i with
    | some (.inl x) => some (ls, .inl x :: st)
    | _ => none
  | .iload_n i => match am_get ls i.val with
    | some (.inl x) => some (ls, .inl x :: st)
    | _ => none
  | .lload i => match am_get ls i with
    | some (.inr (.inl x)) => some (ls, .inr (.inl x) :: st)
    | _ => none
  | .lload_n i => match am_get ls i.val with
    | some (.inr (.inl x)) => some (ls, .inr (.inl x) :: st)
    | _ => none
  | .aload i => match am_get ls i with
    | some (.inr (.inr x)) => some (ls, .inr (.inr x) :: st)
    | _ => none
  | .aload_n i => match am_get ls i.val with
    | some (.inr (.inr x)) => some (ls, .inr (.inr x) :: st)
    | _ => none
  | .istore i => match st with
    | .inl x :: r => (am_st ls i (.inl x)).map (fun l => (l, r))
    | _ => none
  | .istore_n i => match st with
    | .inl x :: r => (am_st ls i.val (.inl x)).map (fun l => (l, r))
    | _ => none
  | .lstore i => match st with
    | .inr (.inl x) :: r => (am_st ls i (.inr (.inl x))).map (fun l => (l, r))
    | _ => none
  | .lstore_n i => match st with
    | .inr (.inl x) :: r => (am_st ls i.val (.inr (.inl x))).map (fun l => (l, r))
    | _ => none
  | .astore i => match st with
    | .inr (.inr x) :: r => (am_st ls i (.inr (.inr x))).map (fun l => (l, r))
    | _ => none
  | .astore_n i => match st with
    | .inr (.inr x) :: r => (am_st ls i.val (.inr (.inr x))).map (fun l => (l, r))
    | _ => none
  | .iinc i n => match am_get ls i with
    | some (.inl x) => (am_st ls i (.inl (am_w32 (x + n)))).map (fun l => (l, st))
    | _ => none
  | _ => none
/-- the kind of a cell: its class (below 100) or 101 long[], 102 int[], 103 byte[], 104 boolean[], and its length -/
def am_kind (ro : Nat → Option (Nat × Nat)) (h : am_H) (p : Nat) : Option (Nat × Nat) :=
  if p = 0 then none else if p < am_SP then h.1[p - 1]? else ro (p - am_SP)
/-- a field's value, by its type: 0 int, 1 long, 2 reference, 3 boolean -/
def am_fv (ty p k : Nat) (h : am_H) : am_V := match ty with
  | 1 => .inr (.inl (h.2.2.1 p k))
  | 2 => .inr (.inr (h.2.2.2.1 p k))
  | _ => .inl (h.2.1 p k)
def am_dfl (a : Nat) (h : am_H) (k len : Nat) (sl : Nat) : am_H :=
  (h.1 ++ [(k, len)], am_clr h.2.1 a 0, am_clr h.2.2.1 a 0, am_clr h.2.2.2.1 a 0, h.2.2.2.2.1 + 1, h.2.2.2.2.2 + sl)
/-- what works on the heap; fty: a field's type; nf: how many fields a class has -/
def am_hp (ro : Nat → Option (Nat × Nat)) (fty : Nat → Nat → Nat) (nf : Nat → Nat) (ins : Instr) (a b : Nat) (z : Int) (st : List am_V) (h : am_H) : Option (List am_V × am_H) := match ins with
  | .getfield _ => match st with
    | .inr (.inr p) :: r => match am_kind ro h p with
      | some (c, _) => if c = a then some (am_fv (fty a b) p b h :: r, h) else none
      | none => none
    | _ => none
  | .putfield _ => match st with
    | v :: .inr (.inr p) :: r => match am_kind ro h p with
      | some (c, _) => if c = a ∧ p < am_SP then (match v with
        | .inl x => if fty a b = 0 ∨ (fty a b = 3 ∧ (x = 0 ∨ x = 1)) then some (r, (h.1, am_up h.2.1 p b x, h.2.2)) else none
        | .inr (.inl x) => if fty a b = 1 then some (r, (h.1, h.2.1, am_up h.2.2.1 p b x, h.2.2.2)) else none
        | .inr (.inr x) => if fty a b = 2 ∧ x < am_SP then some (r, (h.1, h.2.1, h.2.2.1, am_up h.2.2.2.1 p b x, h.2.2.2.2)) else none) else none
      | none => none
    | _ => none
  | .iaload => match st with
    | .inl j :: .inr (.inr p) :: r => match am_kind ro h p with
      | some (c, n) => if c = 102 ∧ 0 ≤ j ∧ j < (n : Int) then some (.inl (h.2.1 p j.toNat) :: r, h) else none
      | none => none
    | _ => none
  | .laload => match st with
    | .inl j :: .inr (.inr p) :: r => match am_kind ro h p with
      | some (c, n) => if c = 101 ∧ 0 ≤ j ∧ j < (n : Int) then some (.inr (.inl (h.2.2.1 p j.toNat)) :: r, h) else none
      | none => none
    | _ => none
  | .baload => match st with
    | .inl j :: .inr (.inr p) :: r => match am_kind ro h p with
      | some (c, n) => if (c = 103 ∨ c = 104) ∧ 0 ≤ j ∧ j < (n : Int) then some (.inl (h.2.1 p j.toNat) :: r, h) else none
      | none => none
    | _ => none
  | .iastore => match st with
    | .inl x :: .inl j :: .inr (.inr p) :: r => match am_kind ro h p with
      | some (c, n) => if (c = 102 ∧ p < am_SP) ∧ 0 ≤ j ∧ j < (n : Int) then some (r, (h.1, am_up h.2.1 p j.toNat x, h.2.2)) else none
      | none => none
    | _ => none
  | .lastore => match st with
    | .inr (.inl x) :: .inl j :: .inr (.inr p) :: r => match am_kind ro h p with
      | some (c, n) => if (c = 101 ∧ p < am_SP) ∧ 0 ≤ j ∧ j < (n : Int) then some (r, (h.1, h.2.1, am_up h.2.2.1 p j.toNat x, h.2.2.2)) else none
      | none => none
    | _ => none
  | .bastore => match st with
    | .inl x :: .inl j :: .inr (.inr p) :: r => match am_kind ro h p with
      | some (c, n) => if (p < am_SP ∧ ((c = 103 ∧ -128 ≤ x ∧ x < 128) ∨ (c = 104 ∧ (x = 0 ∨ x = 1)))) ∧ 0 ≤ j ∧ j < (n : Int) then some (r, (h.1, am_up h.2.1 p j.toNat x, h.2.2)) else none
      | none => none
    | _ => none
  | .arraylength => match st with
    | .inr (.inr p) :: r => match am_kind ro h p with
      | some (c, n) => if 101 ≤ c then some (.inl n :: r, h) else none
      | none => none
    | _ => none
  | .new _ => if a < 50 ∧ h.1.length + 1 < am_SP then some (.inr (.inr (h.1.length + 1)) :: st, am_dfl (h.1.length + 1) h a 0 (nf a)) else none
  | .newarray t => match st with
    | .inl j :: r => if (0 ≤ j ∧ j ≤ 1000000) ∧ h.1.length + 1 < am_SP then (match t with
      | .long => some (.inr (.inr (h.1.length + 1)) :: r, am_dfl (h.1.length + 1) h 101 j.toNat j.toNat)
      | .int => some (.inr (.inr (h.1.length + 1)) :: r, am_dfl (h.1.length + 1) h 102 j.toNat j.toNat)
      | .byte => some (.inr (.inr (h.1.length + 1)) :: r, am_dfl (h.1.length + 1) h 103 j.toNat j.toNat)
      | .boolean => some (.inr (.inr (h.1.length + 1)) :: r, am_dfl (h.1.length + 1) h 104 j.toNat j.toNat)
      | _ => none) else none
    | _ => none
  | .ldc _ => if b = 0 then (if -2147483648 ≤ z ∧ z < 2147483648 then some (.inl z :: st, h) else none) else some (.inr (.inr (am_SP + a)) :: st, h)
  | .ldc_w _ => if -2147483648 ≤ z ∧ z < 2147483648 then some (.inl z :: st, h) else none
  | .ldc2_w _ => if -9223372036854775808 ≤ z ∧ z < 9223372036854775808 then some (.inr (.inl z) :: st, h) else none
  | .getstatic _ => if b = 0 then some (.inl 1 :: st, h) else some (.inr (.inr (am_SP + a)) :: st, h)
  | _ => none
/-- a stretch of one array into another (or the same) -/
def am_cpy {α : Type} (f : Nat → Nat → α) (p q sp dp n : Nat) : Nat → Nat → α := fun r j => if r = q then (if dp ≤ j ∧ j < dp + n then f p (sp + (j - dp)) else f r j) else f r j
/-- what some of the JDK's own members do -/
def am_prim (ro : Nat → Option (Nat × Nat)) (a : Nat) (st : List am_V) (h : am_H) : Option (List am_V × am_H) := match a with
  | 900 => (am_ii (fun x y => if x < y then y else x) st).map (fun r => (r, h))
  | 901 => (am_ii (fun x y => if x < y then x else y) st).map (fun r => (r, h))
  | 902 => (am_ll (fun x y => if y < x then y else x) st).map (fun r => (r, h))
  | 903 => match st with
    | .inr (.inr p) :: r => if p = 0 ∨ am_SP ≤ p then none else some (r, h)
    | _ => none
  | 904 => match st with
    | .inl n :: .inl dp :: .inr (.inr q) :: .inl sp :: .inr (.inr p) :: r => match am_kind ro h p, am_kind ro h q with
      | some (c, m), some (d, k) => if (c = d ∧ p < am_SP ∧ q < am_SP ∧ (c = 101 ∨ c = 102)) ∧ (0 ≤ sp ∧ 0 ≤ dp ∧ 0 ≤ n ∧ sp + n ≤ (m : Int) ∧ dp + n ≤ (k : Int)) then
          (if c = 101 then some (r, (h.1, h.2.1, am_cpy h.2.2.1 p q sp.toNat dp.toNat n.toNat, h.2.2.2)) else some (r, (h.1, am_cpy h.2.1 p q sp.toNat dp.toNat n.toNat, h.2.2))) else none
      | _, _ => none
    | _ => none
  | _ => none
def am_cmp (c : ClassFile.Cond) (x y : Int) : Bool := match c with
  | .eq => decide (x = y)
  | .ne => !decide (x = y)
  | .lt => decide (x < y)
  | .ge => !decide (x < y)
  | .gt => decide (y < x)
  | .le => !decide (y < x)
def am_tgt (pc : Nat) (off : Int) : Option Nat := if 0 ≤ (pc : Int) + off then some ((pc : Int) + off).toNat else none
/-- straight on: the locals, the stack, the heap -/
def am_norm (ro : Nat → Option (Nat × Nat)) (fty : Nat → Nat → Nat) (nf : Nat → Nat) (ins : Instr) (a b : Nat) (z : Int) (ls : am_L) (st : List am_V) (h : am_H) : Option (am_L × List am_V × am_H) :=
  match am_loc ins ls st with
  | some (l, s) => some (l, s, h)
  | none => match am_alu ins st with
    | some s => some (ls, s, h)
    | none => match am_hp ro fty nf ins a b z st h with
      | some (s, h') => some (ls, s, h')
      | none => none
/-- the numbers of arguments that a call takes off the stack (the receiver with them) -/
def am_args (n : Nat) (st : List am_V) : Option (List am_V × List am_V) := if n ≤ st.length then some ((st.take n).reverse, st.drop n) else none
def am_cats (st : List am_V) : Nat := (st.map am_cat).sum
/-- behind a call: on, or to a handler, or out -/
def am_aft (hd : Nat → Nat → Option (Option (Nat × Nat))) (k : Nat → am_L → List am_V → am_H → Option am_R) (pc len : Nat) (ls : am_L) (r : List am_V) (o : Option am_R) : Option am_R := match o with
  | none => none
  | some (.inl (v, h')) => k (pc + len) ls (v.toList ++ r) h'
  | some (.inr (x, h')) => match hd pc x with
    | none => none
    | some none => some (.inr (x, h'))
    | some (some (t, i)) => match am_st ls i (.inr (.inr 0)) with
      | some l => k t (l.set i none) [] h'
      | none => none
def am_nx (k : Nat → am_L → List am_V → am_H → Option am_R) (pc : Nat) (o : Option (am_L × List am_V × am_H)) : Option am_R := match o with
  | some (l, s, h') => k pc l s h'
  | none => none
def am_jmp (k : Nat → am_L → List am_V → am_H → Option am_R) (ls : am_L) (r : List am_V) (h : am_H) (o : Option Nat) : Option am_R := match o with
  | some t => k t ls r h
  | none => none
/-- one instruction; C the method's code, hd its handlers, rt what it answers (0 nothing, 1 int, 2 boolean, 3 long), na: how many arguments a method has, rc: the class of its receiver -/
def am_one (ro : Nat → Option (Nat × Nat)) (fty : Nat → Nat → Nat) (nf na rc : Nat → Nat) (hd : Nat → Nat → Option (Option (Nat × Nat))) (rt : Nat) (call : Nat → List am_V → am_H → Option am_R) (k : Nat → am_L → List am_V → am_H → Option am_R) (e : am_E) (pc : Nat) (ls : am_L) (st : List am_V) (h : am_H) : Option am_R :=
  match e with
  | (len, ins, a, b, z) => match ins with
    | .goto off => am_jmp k ls st h (am_tgt pc off)
    | .ifCond c off => match am_tgt pc off, st with
      | some t, .inl x :: r => if am_cmp c x 0 = true then k t ls r h else k (pc + len) ls r h
      | _, _ => none
    | .if_icmp c off => match am_tgt pc off, st with
      | some t, .inl y :: .inl x :: r => if am_cmp c x y = true then k t ls r h else k (pc + len) ls r h
      | _, _ => none
    | .tableswitch d lo hi offs => match st with
      | .inl x :: r => if x < lo ∨ hi < x then am_jmp k ls r h (am_tgt pc d) else (match offs[(x - lo).toNat]? with
          | some off => am_jmp k ls r h (am_tgt pc off)
          | none => none)
      | _ => none
    | .lookupswitch d ps => match st with
      | .inl x :: r => if (ps.toList.zip (ps.toList.drop 1)).all (fun (u, v) => u.1 < v.1) = true then am_jmp k ls r h (am_tgt pc (Op.lookupswitch.offset ps.toList d x)) else none
      | _ => none
    | .ireturn => match st with
      | .inl x :: [] => if rt = 1 ∨ (rt = 2 ∧ (x = 0 ∨ x = 1)) ∨ (rt = 4 ∧ -128 ≤ x ∧ x < 128) ∨ (rt = 5 ∧ 0 ≤ x ∧ x < 65536) then some (.inl (some (.inl x), h)) else none
      | _ => none
    | .lreturn => match st with
      | .inr (.inl x) :: [] => if rt = 3 then some (.inl (some (.inr (.inl x)), h)) else none
      | _ => none
    | .return_ => match st with
      | [] => if rt = 0 then some (.inl (none, h)) else none
      | _ => none
    | .invokevirtual _ => match am_args (na a) st with
      | some (.inr (.inr p) :: ar, r) => match am_kind ro h p with
        | some (c, _) => if c = rc a ∧ am_cats r ≤ 8 then am_aft hd k pc len ls r (call a (.inr (.inr p) :: ar) h) else none
        | none => none
      | _ => none
    | .invokespecial _ => if 900 ≤ a then (if am_cats st ≤ 40 then am_nx k (pc + len) ((am_prim ro a st h).map (fun x => (ls, x.1, x.2))) else none) else match am_args (na a) st with
      | some (.inr (.inr p) :: ar, r) => if p ≠ 0 ∧ p < am_SP ∧ am_cats r ≤ 8 then am_aft hd k pc len ls r (call a (.inr (.inr p) :: ar) h) else none
      | _ => none
    | .invokestatic _ => if 900 ≤ a then (if am_cats st ≤ 40 then am_nx k (pc + len) ((am_prim ro a st h).map (fun x => (ls, x.1, x.2))) else none) else match am_args (na a) st with
      | some (ar, r) => if am_cats r ≤ 8 then am_aft hd k pc len ls r (call a ar h) else none
      | none => none
    | .new _ => if 50 ≤ a then (if am_cats st ≤ 8 then some (.inr (a - 50, (h.1, h.2.1, h.2.2.1, h.2.2.2.1, h.2.2.2.2.1 + 1, h.2.2.2.2.2 + 6))) else none)
      else am_nx k (pc + len) (am_norm ro fty nf ins a b z ls st h)
    | _ => am_nx k (pc + len) (am_norm ro fty nf ins a b z ls st h)
def am_run (ro : Nat → Option (Nat × Nat)) (fty : Nat → Nat → Nat) (nf na rc : Nat → Nat) (C : Nat → Option am_E) (hd : Nat → Nat → Option (Option (Nat × Nat))) (rt : Nat) (call : Nat → List am_V → am_H → Option am_R) : Nat → Nat → am_L → List am_V → am_H → Option am_R
  | 0, _, _, _, _ => none
  | n + 1, pc, ls, st, h => match C pc with
    | none => none
    | some e => am_one ro fty nf na rc hd rt call (am_run ro fty nf na rc C hd rt call n) e pc ls st h
def am_ent (nL : Nat) (ar : List am_V) : am_L :=
  let l := ar.flatMap (fun v => if am_cat v = 2 then [some v, none] else [some v])
  l ++ List.replicate (nL - l.length) none
