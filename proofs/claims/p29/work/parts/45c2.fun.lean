/-! the rows of the tables as functions: what is to be done is found once, not at every step -/
noncomputable section
abbrev sx_F : Type := sx_B → am2_B → (Nat → Option (Nat × Nat)) → Nat → sx_CL → sx_K → sx_Lo → List sx_V → sx_H → Option sx_R
def sx_x0 (n p : Nat) (B : sx_B) (Bs : am2_B) (kd : Nat → Option (Nat × Nat)) (rt : Nat) (call : sx_CL) (k : sx_K) (ls : sx_Lo) (st : List sx_V) (h : sx_H) : Option sx_R := sx_f0 k n p ls st h
def sx_x1 (n p : Nat) (B : sx_B) (Bs : am2_B) (kd : Nat → Option (Nat × Nat)) (rt : Nat) (call : sx_CL) (k : sx_K) (ls : sx_Lo) (st : List sx_V) (h : sx_H) : Option sx_R := sx_f1 k n p ls st h
def sx_x2 (n p q t : Nat) (B : sx_B) (Bs : am2_B) (kd : Nat → Option (Nat × Nat)) (rt : Nat) (call : sx_CL) (k : sx_K) (ls : sx_Lo) (st : List sx_V) (h : sx_H) : Option sx_R := sx_f2 B Bs kd k n p q t ls st h
def sx_x3 (n q : Nat) (cc : ClassFile.Cond) (B : sx_B) (Bs : am2_B) (kd : Nat → Option (Nat × Nat)) (rt : Nat) (call : sx_CL) (k : sx_K) (ls : sx_Lo) (st : List sx_V) (h : sx_H) : Option sx_R := sx_f3 B k n q cc ls st h
def sx_x4 (n : Nat) (v : Int) (B : sx_B) (Bs : am2_B) (kd : Nat → Option (Nat × Nat)) (rt : Nat) (call : sx_CL) (k : sx_K) (ls : sx_Lo) (st : List sx_V) (h : sx_H) : Option sx_R := k n ls (.inl (.inl v) :: st) h
def sx_x5 (n q : Nat) (cc : ClassFile.Cond) (B : sx_B) (Bs : am2_B) (kd : Nat → Option (Nat × Nat)) (rt : Nat) (call : sx_CL) (k : sx_K) (ls : sx_Lo) (st : List sx_V) (h : sx_H) : Option sx_R := sx_f5 B k n q cc ls st h
def sx_x6 (q : Nat) (B : sx_B) (Bs : am2_B) (kd : Nat → Option (Nat × Nat)) (rt : Nat) (call : sx_CL) (k : sx_K) (ls : sx_Lo) (st : List sx_V) (h : sx_H) : Option sx_R := k q ls st h
def sx_x7 (n p : Nat) (v : Int) (B : sx_B) (Bs : am2_B) (kd : Nat → Option (Nat × Nat)) (rt : Nat) (call : sx_CL) (k : sx_K) (ls : sx_Lo) (st : List sx_V) (h : sx_H) : Option sx_R := sx_f7 B k n p v ls st h
def sx_x8 (n p : Nat) (B : sx_B) (Bs : am2_B) (kd : Nat → Option (Nat × Nat)) (rt : Nat) (call : sx_CL) (k : sx_K) (ls : sx_Lo) (st : List sx_V) (h : sx_H) : Option sx_R := sx_f8 k n p ls st h
def sx_x9 (n : Nat) (B : sx_B) (Bs : am2_B) (kd : Nat → Option (Nat × Nat)) (rt : Nat) (call : sx_CL) (k : sx_K) (ls : sx_Lo) (st : List sx_V) (h : sx_H) : Option sx_R := sx_f9 B k n ls st h
def sx_x10 (n : Nat) (B : sx_B) (Bs : am2_B) (kd : Nat → Option (Nat × Nat)) (rt : Nat) (call : sx_CL) (k : sx_K) (ls : sx_Lo) (st : List sx_V) (h : sx_H) : Option sx_R := sx_f10 B k n ls st h
def sx_x11 (n : Nat) (B : sx_B) (Bs : am2_B) (kd : Nat → Option (Nat × Nat)) (rt : Nat) (call : sx_CL) (k : sx_K) (ls : sx_Lo) (st : List sx_V) (h : sx_H) : Option sx_R := sx_f11 B Bs kd k n ls st h
def sx_x12 (n : Nat) (B : sx_B) (Bs : am2_B) (kd : Nat → Option (Nat × Nat)) (rt : Nat) (call : sx_CL) (k : sx_K) (ls : sx_Lo) (st : List sx_V) (h : sx_H) : Option sx_R := sx_f12 B Bs kd k n ls st h
def sx_x13 (n p : Nat) (B : sx_B) (Bs : am2_B) (kd : Nat → Option (Nat × Nat)) (rt : Nat) (call : sx_CL) (k : sx_K) (ls : sx_Lo) (st : List sx_V) (h : sx_H) : Option sx_R := sx_f13 k n p ls st h
def sx_x14 (n p q t : Nat) (B : sx_B) (Bs : am2_B) (kd : Nat → Option (Nat × Nat)) (rt : Nat) (call : sx_CL) (k : sx_K) (ls : sx_Lo) (st : List sx_V) (h : sx_H) : Option sx_R := sx_f14 kd call k n p q t ls st h
def sx_x15 (n p q : Nat) (B : sx_B) (Bs : am2_B) (kd : Nat → Option (Nat × Nat)) (rt : Nat) (call : sx_CL) (k : sx_K) (ls : sx_Lo) (st : List sx_V) (h : sx_H) : Option sx_R := sx_f15 call k n p q ls st h
def sx_x16  (B : sx_B) (Bs : am2_B) (kd : Nat → Option (Nat × Nat)) (rt : Nat) (call : sx_CL) (k : sx_K) (ls : sx_Lo) (st : List sx_V) (h : sx_H) : Option sx_R := sx_f16 rt st h
def sx_x17  (B : sx_B) (Bs : am2_B) (kd : Nat → Option (Nat × Nat)) (rt : Nat) (call : sx_CL) (k : sx_K) (ls : sx_Lo) (st : List sx_V) (h : sx_H) : Option sx_R := sx_f17 rt st h
def sx_x18 (n p q t : Nat) (B : sx_B) (Bs : am2_B) (kd : Nat → Option (Nat × Nat)) (rt : Nat) (call : sx_CL) (k : sx_K) (ls : sx_Lo) (st : List sx_V) (h : sx_H) : Option sx_R := sx_f18 B Bs kd k n p q t ls st h
def sx_x19 (n : Nat) (B : sx_B) (Bs : am2_B) (kd : Nat → Option (Nat × Nat)) (rt : Nat) (call : sx_CL) (k : sx_K) (ls : sx_Lo) (st : List sx_V) (h : sx_H) : Option sx_R := sx_f19 B Bs kd k n ls st h
def sx_x20 (n : Nat) (B : sx_B) (Bs : am2_B) (kd : Nat → Option (Nat × Nat)) (rt : Nat) (call : sx_CL) (k : sx_K) (ls : sx_Lo) (st : List sx_V) (h : sx_H) : Option sx_R := sx_f20 B Bs kd k n ls st h
def sx_x21 (n : Nat) (B : sx_B) (Bs : am2_B) (kd : Nat → Option (Nat × Nat)) (rt : Nat) (call : sx_CL) (k : sx_K) (ls : sx_Lo) (st : List sx_V) (h : sx_H) : Option sx_R := sx_f21 B Bs kd k n ls st h
def sx_x22 (n : Nat) (B : sx_B) (Bs : am2_B) (kd : Nat → Option (Nat × Nat)) (rt : Nat) (call : sx_CL) (k : sx_K) (ls : sx_Lo) (st : List sx_V) (h : sx_H) : Option sx_R := sx_f22 B k n ls st h
def sx_cA (op n p q t : Nat) (v : Int) (cc : ClassFile.Cond) : Option sx_F :=
  bif Nat.ble op 1 then (bif Nat.beq op 0 then some (sx_x0 n p) else some (sx_x1 n p))
  else bif Nat.ble op 3 then (bif Nat.beq op 2 then some (sx_x2 n p q t) else some (sx_x3 n q cc))
  else bif Nat.ble op 5 then (bif Nat.beq op 4 then some (sx_x4 n v) else some (sx_x5 n q cc))
  else (bif Nat.beq op 6 then some (sx_x6 q) else some (sx_x7 n p v))
def sx_cB (op n p q t : Nat) : Option sx_F :=
  bif Nat.ble op 9 then (bif Nat.beq op 8 then some (sx_x8 n p) else some (sx_x9 n))
  else bif Nat.ble op 11 then (bif Nat.beq op 10 then some (sx_x10 n) else some (sx_x11 n))
  else bif Nat.ble op 13 then (bif Nat.beq op 12 then some (sx_x12 n) else some (sx_x13 n p))
  else (bif Nat.beq op 14 then some (sx_x14 n p q t) else some (sx_x15 n p q))
def sx_cC (op n p q t : Nat) : Option sx_F :=
  bif Nat.ble op 17 then (bif Nat.beq op 16 then some (sx_x16) else some (sx_x17))
  else bif Nat.ble op 19 then (bif Nat.beq op 18 then some (sx_x18 n p q t) else some (sx_x19 n))
  else bif Nat.ble op 20 then some (sx_x20 n)
  else bif Nat.beq op 21 then some (sx_x21 n) else some (sx_x22 n)
def sx_cvo (c : sx_I) : Option sx_F := match c with
  | (op, n, p, q, t, v, cc) => bif Nat.ble op 7 then sx_cA op n p q t v cc else bif Nat.ble op 15 then sx_cB op n p q t else sx_cC op n p q t
theorem sx_bc {α : Type} {p : Bool} {x y : α} {Q : α → Prop} (h1 : p = true → Q x) (h2 : p = false → Q y) : Q (bif p then x else y) := by
  cases p
  · exact h2 rfl
  · exact h1 rfl
theorem sx_cvo_ok {c : sx_I} {f : sx_F} (hf : sx_cvo c = some f) (B : sx_B) (Bs : am2_B) (kd : Nat → Option (Nat × Nat)) (rt : Nat) (call : sx_CL) (k : sx_K) (ls : sx_Lo) (st : List sx_V) (h : sx_H) : f B Bs kd rt call k ls st h = sx_fst B Bs kd rt call k c ls st h := by
  obtain ⟨op, n, p, q, t, v, cc⟩ := c
  unfold sx_cvo at hf
  dsimp only at hf
  unfold sx_fst
  dsimp only
  cases e1 : Nat.ble op 7 with
  | true =>
    rw [e1] at hf
    have hf : sx_cA op n p q t v cc = some f := hf
    show f B Bs kd rt call k ls st h = sx_gA B Bs kd k op n p q t v cc ls st h
    unfold sx_cA at hf
    unfold sx_gA
    cases a1 : Nat.ble op 1 <;> cases a2 : Nat.ble op 3 <;> cases a3 : Nat.ble op 5 <;> cases b1 : Nat.beq op 0 <;> cases b2 : Nat.beq op 2 <;> cases b3 : Nat.beq op 4 <;> cases b4 : Nat.beq op 6 <;> (rw [a1, a2, a3, b1, b2, b3, b4] at hf; cases hf; rfl)
  | false =>
    cases e2 : Nat.ble op 15 with
    | true =>
      rw [e1, e2] at hf
      have hf : sx_cB op n p q t = some f := hf
      show f B Bs kd rt call k ls st h = sx_gB B Bs kd call k op n p q t ls st h
      unfold sx_cB at hf
      unfold sx_gB
      cases a1 : Nat.ble op 9 <;> cases a2 : Nat.ble op 11 <;> cases a3 : Nat.ble op 13 <;> cases b1 : Nat.beq op 8 <;> cases b2 : Nat.beq op 10 <;> cases b3 : Nat.beq op 12 <;> cases b4 : Nat.beq op 14 <;> (rw [a1, a2, a3, b1, b2, b3, b4] at hf; cases hf; rfl)
    | false =>
      rw [e1, e2] at hf
      have hf : sx_cC op n p q t = some f := hf
      show f B Bs kd rt call k ls st h = sx_gC B Bs kd rt k op n p q t ls st h
      unfold sx_cC at hf
      unfold sx_gC
      cases a1 : Nat.ble op 17 <;> cases a2 : Nat.ble op 19 <;> cases a3 : Nat.ble op 20 <;> cases b1 : Nat.beq op 16 <;> cases b2 : Nat.beq op 18 <;> cases b3 : Nat.beq op 21 <;> (rw [a1, a2, a3, b1, b2, b3] at hf; cases hf; rfl)
end
