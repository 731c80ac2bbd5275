noncomputable section
/-! THE FAST MACHINE: the same, its frequent instructions out of tables of numbers (the kernel is slow at the instructions' own type) -/
/-- what is done, where it goes on, three numbers, a number, a condition -/
abbrev sx_I : Type := Nat × Nat × Nat × Nat × Nat × Int × ClassFile.Cond
def sx_ceq (c d : ClassFile.Cond) : Bool := match c, d with
  | .eq, .eq => true
  | .ne, .ne => true
  | .lt, .lt => true
  | .ge, .ge => true
  | .gt, .gt => true
  | .le, .le => true
  | _, _ => false
theorem sx_ceq_ok {c d : ClassFile.Cond} (h : sx_ceq c d = true) : c = d := by
  cases c <;> cases d <;> first | rfl | cases h
def sx_teq (t : Option Nat) (q : Nat) : Bool := match t with
  | some n => Nat.beq n q
  | none => false
theorem sx_teq_ok {t : Option Nat} {q : Nat} (h : sx_teq t q = true) : t = some q := by
  cases t with
  | none => cases h
  | some n => rw [Nat.eq_of_beq_eq_true (show Nat.beq n q = true from h)]
/-- a row of the tables says what the instruction says -/
def sx_ek (fty : Nat → Nat → Nat) (na rc : Nat → Nat) (pc : Nat) (e : am_E) (c : sx_I) : Bool := match e, c with
  | (len, ins, a, b, _), (op, n, p, q, t, v, cc) => Nat.beq (pc + len) n && (match ins with
    | .iload i => Nat.beq op 0 && Nat.beq i p
    | .iload_n i => Nat.beq op 0 && Nat.beq i.val p
    | .aload i => Nat.beq op 1 && Nat.beq i p
    | .aload_n i => Nat.beq op 1 && Nat.beq i.val p
    | .getfield _ => Nat.beq op 2 && (Nat.beq a p && (Nat.beq b q && Nat.beq (fty a b) t))
    | .if_icmp d off => Nat.beq op 3 && (sx_teq (am_tgt pc off) q && sx_ceq d cc)
    | .iconst z => Nat.beq op 4 && (sx_eq z v && (sx_le (-1) z && sx_le z 5))
    | .bipush z => Nat.beq op 4 && (sx_eq z v && (sx_le (-128) z && sx_le z 127))
    | .sipush z => Nat.beq op 4 && (sx_eq z v && (sx_le (-32768) z && sx_le z 32767))
    | .ifCond d off => Nat.beq op 5 && (sx_teq (am_tgt pc off) q && sx_ceq d cc)
    | .goto off => Nat.beq op 6 && sx_teq (am_tgt pc off) q
    | .iinc i z => Nat.beq op 7 && (Nat.beq i p && sx_eq z v)
    | .istore i => Nat.beq op 8 && Nat.beq i p
    | .istore_n i => Nat.beq op 8 && Nat.beq i.val p
    | .iadd => Nat.beq op 9
    | .isub => Nat.beq op 10
    | .iaload => Nat.beq op 11
    | .iastore => Nat.beq op 12
    | .lload i => Nat.beq op 13 && Nat.beq i p
    | .lload_n i => Nat.beq op 13 && Nat.beq i.val p
    | .invokevirtual _ => Nat.beq op 14 && (Nat.beq a p && (Nat.beq (na a) q && Nat.beq (rc a) t))
    | .invokestatic _ => Nat.beq op 15 && (Nat.beq a p && (Nat.beq (na a) q && Nat.blt a 900))
    | .ireturn => Nat.beq op 16
    | .return_ => Nat.beq op 17
    | .putfield _ => Nat.beq op 18 && (Nat.beq a p && (Nat.beq b q && Nat.beq (fty a b) t))
    | .laload => Nat.beq op 19
    | .lastore => Nat.beq op 20
    | .baload => Nat.beq op 21
    | .lcmp => Nat.beq op 22
    | _ => false)
abbrev sx_CL : Type := Nat → List sx_V → sx_H → Option sx_R
def sx_f0 (k : sx_K) (n p : Nat) (ls : sx_Lo) (st : List sx_V) (h : sx_H) : Option sx_R := match sx_at ls p with
  | some (some (.inl x)) => k n ls (.inl x :: st) h
  | _ => none
def sx_f1 (k : sx_K) (n p : Nat) (ls : sx_Lo) (st : List sx_V) (h : sx_H) : Option sx_R := match sx_at ls p with
  | some (some (.inr (.inr x))) => k n ls (.inr (.inr x) :: st) h
  | _ => none
def sx_f2 (B : sx_B) (Bs : am2_B) (kd : Nat → Option (Nat × Nat)) (k : sx_K) (n a b t : Nat) (ls : sx_Lo) (st : List sx_V) (h : sx_H) : Option sx_R := match st with
  | .inr (.inr p) :: r => (match kd p with
    | some (c, _) => bif Nat.beq c a then (match sx_fv B Bs t p b h with
      | some v => k n ls (v :: r) h
      | none => none) else none
    | none => none)
  | _ => none
def sx_fb (k : sx_K) (n q : Nat) (ls : sx_Lo) (r : List sx_V) (h : sx_H) (o : Option Bool) : Option sx_R := match o with
  | some true => k q ls r h
  | some false => k n ls r h
  | none => none
def sx_f3 (B : sx_B) (k : sx_K) (n q : Nat) (c : ClassFile.Cond) (ls : sx_Lo) (st : List sx_V) (h : sx_H) : Option sx_R := match st with
  | .inl y :: .inl x :: r => sx_fb k n q ls r h (sx_br B c x y)
  | _ => none
def sx_f5 (B : sx_B) (k : sx_K) (n q : Nat) (c : ClassFile.Cond) (ls : sx_Lo) (st : List sx_V) (h : sx_H) : Option sx_R := match st with
  | .inl x :: r => sx_fb k n q ls r h (sx_br B c x (.inl 0))
  | _ => none
def sx_fl (k : sx_K) (n : Nat) (st : List sx_V) (h : sx_H) (o : Option sx_Lo) : Option sx_R := match o with
  | some l => k n l st h
  | none => none
def sx_f7 (B : sx_B) (k : sx_K) (n p : Nat) (v : Int) (ls : sx_Lo) (st : List sx_V) (h : sx_H) : Option sx_R := match sx_at ls p with
  | some (some (.inl x)) => sx_fl k n st h (sx_st ls p (.inl (sx_k2 (fun a b => sx_w32 (a + b)) (sx_gop B 2147483648 sx_ladd) x (.inl v))))
  | _ => none
def sx_f8 (k : sx_K) (n p : Nat) (ls : sx_Lo) (st : List sx_V) (h : sx_H) : Option sx_R := match st with
  | .inl x :: r => sx_fl k n r h (sx_st ls p (.inl x))
  | _ => none
def sx_f9 (B : sx_B) (k : sx_K) (n : Nat) (ls : sx_Lo) (st : List sx_V) (h : sx_H) : Option sx_R := match st with
  | .inl y :: .inl x :: r => k n ls (.inl (sx_k2 (fun a b => sx_w32 (a + b)) (sx_gop B 2147483648 sx_ladd) x y) :: r) h
  | _ => none
def sx_f10 (B : sx_B) (k : sx_K) (n : Nat) (ls : sx_Lo) (st : List sx_V) (h : sx_H) : Option sx_R := match st with
  | .inl y :: .inl x :: r => k n ls (.inl (sx_k2 (fun a b => sx_w32 (a - b)) (sx_gop B 2147483648 sx_lsub) x y) :: r) h
  | _ => none
def sx_f11 (B : sx_B) (Bs : am2_B) (kd : Nat → Option (Nat × Nat)) (k : sx_K) (n : Nat) (ls : sx_Lo) (st : List sx_V) (h : sx_H) : Option sx_R := match st with
  | .inl x :: .inr (.inr p) :: r => (match kd p with
    | some (c, m) => bif Nat.beq c 102 then (match sx_ix B m x with
      | some ix => (match sx_rdI B Bs h p ix with
        | some v => k n ls (.inl v :: r) h
        | none => none)
      | none => none) else none
    | none => none)
  | _ => none
def sx_f19 (B : sx_B) (Bs : am2_B) (kd : Nat → Option (Nat × Nat)) (k : sx_K) (n : Nat) (ls : sx_Lo) (st : List sx_V) (h : sx_H) : Option sx_R := match st with
  | .inl x :: .inr (.inr p) :: r => (match kd p with
    | some (c, m) => bif Nat.beq c 101 then (match sx_ix B m x with
      | some ix => (match sx_rdJ B h p ix with
        | some v => k n ls (.inr (.inl v) :: r) h
        | none => none)
      | none => none) else none
    | none => none)
  | _ => none
def sx_f21 (B : sx_B) (Bs : am2_B) (kd : Nat → Option (Nat × Nat)) (k : sx_K) (n : Nat) (ls : sx_Lo) (st : List sx_V) (h : sx_H) : Option sx_R := match st with
  | .inl x :: .inr (.inr p) :: r => (match kd p with
    | some (c, m) => bif Nat.beq c 103 || Nat.beq c 104 then (match sx_ix B m x with
      | some ix => (match sx_rdI B Bs h p ix with
        | some v => k n ls (.inl v :: r) h
        | none => none)
      | none => none) else none
    | none => none)
  | _ => none
def sx_fh (k : sx_K) (n : Nat) (ls : sx_Lo) (st : List sx_V) (o : Option sx_H) : Option sx_R := match o with
  | some h => k n ls st h
  | none => none
def sx_f12 (B : sx_B) (Bs : am2_B) (kd : Nat → Option (Nat × Nat)) (k : sx_K) (n : Nat) (ls : sx_Lo) (st : List sx_V) (h : sx_H) : Option sx_R := match st with
  | .inl v :: .inl x :: .inr (.inr p) :: r => (match kd p with
    | some (c, m) => bif Nat.beq c 102 && Nat.blt p am_SP then (match sx_ix B m x with
      | some ix => sx_fh k n ls r (sx_wrI B h p ix v)
      | none => none) else none
    | none => none)
  | _ => none
def sx_f20 (B : sx_B) (Bs : am2_B) (kd : Nat → Option (Nat × Nat)) (k : sx_K) (n : Nat) (ls : sx_Lo) (st : List sx_V) (h : sx_H) : Option sx_R := match st with
  | .inr (.inl v) :: .inl x :: .inr (.inr p) :: r => (match kd p with
    | some (c, m) => bif Nat.beq c 101 && Nat.blt p am_SP then (match sx_ix B m x with
      | some ix => sx_fh k n ls r (sx_wrJ B h p ix v)
      | none => none) else none
    | none => none)
  | _ => none
def sx_f13 (k : sx_K) (n p : Nat) (ls : sx_Lo) (st : List sx_V) (h : sx_H) : Option sx_R := match sx_at ls p with
  | some (some (.inr (.inl x))) => k n ls (.inr (.inl x) :: st) h
  | _ => none
def sx_f14 (kd : Nat → Option (Nat × Nat)) (call : sx_CL) (k : sx_K) (n a q t : Nat) (ls : sx_Lo) (st : List sx_V) (h : sx_H) : Option sx_R := match sx_args q st with
  | some (.inr (.inr p) :: ar, r) => (match kd p with
    | some (c, _) => bif Nat.beq c t && Nat.ble (sx_cats r) 8 then sx_aft k n ls r (call a (.inr (.inr p) :: ar) h) else none
    | none => none)
  | _ => none
def sx_f15 (call : sx_CL) (k : sx_K) (n a q : Nat) (ls : sx_Lo) (st : List sx_V) (h : sx_H) : Option sx_R := match sx_args q st with
  | some (ar, r) => bif Nat.ble (sx_cats r) 8 then sx_aft k n ls r (call a ar h) else none
  | none => none
def sx_f16 (rt : Nat) (st : List sx_V) (h : sx_H) : Option sx_R := match st with
  | .inl x :: [] => bif sx_ret rt x then some (some (.inl x), h) else none
  | _ => none
def sx_f17 (rt : Nat) (st : List sx_V) (h : sx_H) : Option sx_R := match st with
  | [] => bif Nat.beq rt 0 then some (none, h) else none
  | _ => none
def sx_f18 (B : sx_B) (Bs : am2_B) (kd : Nat → Option (Nat × Nat)) (k : sx_K) (n a b t : Nat) (ls : sx_Lo) (st : List sx_V) (h : sx_H) : Option sx_R := match st with
  | v :: .inr (.inr p) :: r => (match kd p with
    | some (c, _) => bif Nat.beq c a && Nat.blt p am_SP then (match v with
      | .inl x => bif Nat.beq t 0 || (Nat.beq t 3 && sx_bool x) then sx_fh k n ls r (sx_wrI B h p (.inl b) x) else none
      | .inr (.inl x) => bif Nat.beq t 1 then sx_fh k n ls r (sx_wrJ B h p (.inl b) x) else none
      | .inr (.inr q) => bif Nat.beq t 2 && Nat.blt q am_SP then k n ls r (h.1, h.2.1, sx_wrR h.2.2 p b q) else none) else none
    | none => none)
  | _ => none
def sx_f22 (B : sx_B) (k : sx_K) (n : Nat) (ls : sx_Lo) (st : List sx_V) (h : sx_H) : Option sx_R := match st with
  | .inr (.inl y) :: .inr (.inl x) :: r => k n ls (.inl (sx_k2 sx_lsg (sx_gcmp B) x y) :: r) h
  | _ => none
def sx_gA (B : sx_B) (Bs : am2_B) (kd : Nat → Option (Nat × Nat)) (k : sx_K) (op n p q t : Nat) (v : Int) (cc : ClassFile.Cond) (ls : sx_Lo) (st : List sx_V) (h : sx_H) : Option sx_R :=
  bif Nat.ble op 1 then (bif Nat.beq op 0 then sx_f0 k n p ls st h else sx_f1 k n p ls st h)
  else bif Nat.ble op 3 then (bif Nat.beq op 2 then sx_f2 B Bs kd k n p q t ls st h else sx_f3 B k n q cc ls st h)
  else bif Nat.ble op 5 then (bif Nat.beq op 4 then k n ls (.inl (.inl v) :: st) h else sx_f5 B k n q cc ls st h)
  else (bif Nat.beq op 6 then k q ls st h else sx_f7 B k n p v ls st h)
def sx_gB (B : sx_B) (Bs : am2_B) (kd : Nat → Option (Nat × Nat)) (call : sx_CL) (k : sx_K) (op n p q t : Nat) (ls : sx_Lo) (st : List sx_V) (h : sx_H) : Option sx_R :=
  bif Nat.ble op 9 then (bif Nat.beq op 8 then sx_f8 k n p ls st h else sx_f9 B k n ls st h)
  else bif Nat.ble op 11 then (bif Nat.beq op 10 then sx_f10 B k n ls st h else sx_f11 B Bs kd k n ls st h)
  else bif Nat.ble op 13 then (bif Nat.beq op 12 then sx_f12 B Bs kd k n ls st h else sx_f13 k n p ls st h)
  else (bif Nat.beq op 14 then sx_f14 kd call k n p q t ls st h else sx_f15 call k n p q ls st h)
def sx_gC (B : sx_B) (Bs : am2_B) (kd : Nat → Option (Nat × Nat)) (rt : Nat) (k : sx_K) (op n p q t : Nat) (ls : sx_Lo) (st : List sx_V) (h : sx_H) : Option sx_R :=
  bif Nat.ble op 17 then (bif Nat.beq op 16 then sx_f16 rt st h else sx_f17 rt st h)
  else bif Nat.ble op 19 then (bif Nat.beq op 18 then sx_f18 B Bs kd k n p q t ls st h else sx_f19 B Bs kd k n ls st h)
  else bif Nat.ble op 20 then sx_f20 B Bs kd k n ls st h
  else bif Nat.beq op 21 then sx_f21 B Bs kd k n ls st h else sx_f22 B k n ls st h
def sx_fst (B : sx_B) (Bs : am2_B) (kd : Nat → Option (Nat × Nat)) (rt : Nat) (call : sx_CL) (k : sx_K) (c : sx_I) (ls : sx_Lo) (st : List sx_V) (h : sx_H) : Option sx_R := match c with
  | (op, n, p, q, t, v, cc) => bif Nat.ble op 7 then sx_gA B Bs kd k op n p q t v cc ls st h else bif Nat.ble op 15 then sx_gB B Bs kd call k op n p q t ls st h else sx_gC B Bs kd rt k op n p q t ls st h
section SXF
variable {B : sx_B} {Bs : am2_B} {kd : Nat → Option (Nat × Nat)} {fty : Nat → Nat → Nat} {ins : Instr} {a b : Nat} {z : Int} {ls : sx_Lo} {st : List sx_V} {h : sx_H}
theorem sx_nmL {l : sx_Lo} {s : List sx_V} (q : sx_loc B ins ls st = some (l, s)) : sx_norm B Bs kd fty ins a b z ls st h = some (l, s, h) := by
  unfold sx_norm
  rw [q]
theorem sx_nmA {s : List sx_V} (q0 : sx_loc B ins ls st = none) (q : sx_alu B ins st = some s) : sx_norm B Bs kd fty ins a b z ls st h = some (ls, s, h) := by
  unfold sx_norm
  rw [q0]
  dsimp only
  rw [q]
theorem sx_nmH {s : List sx_V} {h2 : sx_H} (q0 : sx_loc B ins ls st = none) (q1 : sx_alu B ins st = none) (q : sx_hp B Bs kd fty ins a b z st h = some (s, h2)) : sx_norm B Bs kd fty ins a b z ls st h = some (ls, s, h2) := by
  unfold sx_norm
  rw [q0]
  dsimp only
  rw [q1]
  dsimp only
  rw [q]
end SXF
end
