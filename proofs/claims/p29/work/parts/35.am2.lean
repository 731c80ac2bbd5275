/-! the same machine over heaps of writes, for the kernel to run; what a cell ahead of the run holds may be unknown -/
abbrev am2_O (α : Type) : Type := List (Nat × Option (Nat × α))
abbrev am2_H : Type := List (Nat × Nat) × am2_O Int × am2_O Int × am2_O Nat × Nat × Nat
abbrev am2_B : Type := (Nat → Nat → Option Int) × (Nat → Nat → Option Nat)
abbrev am2_R : Type := (Option am_V × am2_H) ⊕ (Nat × am2_H)
def am2_rd {α : Type} (b : Nat → Nat → Option α) (d : α) : am2_O α → Nat → Nat → Option α
  | [], p, k => b p k
  | (q, none) :: r, p, k => if p = q then some d else am2_rd b d r p k
  | (q, some (j, v)) :: r, p, k => if p = q then (if k = j then some v else am2_rd b d r p k) else am2_rd b d r p k
def am2_it {α : Type} (b : Nat → Nat → α) (d : α) : am2_O α → Nat → Nat → α
  | [] => b
  | (q, none) :: r => am_clr (am2_it b d r) q d
  | (q, some (j, v)) :: r => am_up (am2_it b d r) q j v
theorem am2_rd_it {α : Type} {b2 : Nat → Nat → Option α} {b : Nat → Nat → α} {d : α} (hb : ∀ p k v, b2 p k = some v → b p k = v) : ∀ (W : am2_O α) (p k : Nat) (v : α), am2_rd b2 d W p k = some v → am2_it b d W p k = v
  | [], p, k, v, h => hb p k v h
  | (q, none) :: r, p, k, v, h => by
    rw [am2_rd] at h
    show (if p = q then d else am2_it b d r p k) = v
    split at h
    · rename_i e; rw [if_pos e]; exact Option.some.inj h
    · rename_i e; rw [if_neg e]; exact am2_rd_it hb r p k v h
  | (q, some (j, x)) :: r, p, k, v, h => by
    rw [am2_rd] at h
    show (if p = q then (if k = j then x else am2_it b d r p k) else am2_it b d r p k) = v
    split at h
    · rename_i e; rw [if_pos e]
      split at h
      · rename_i e; rw [if_pos e]; exact Option.some.inj h
      · rename_i e; rw [if_neg e]; exact am2_rd_it hb r p k v h
    · rename_i e; rw [if_neg e]; exact am2_rd_it hb r p k v h
def am2_rp (bI bJ : Nat → Nat → Int) (bR : Nat → Nat → Nat) (h : am2_H) : am_H := (h.1, am2_it bI 0 h.2.1, am2_it bJ 0 h.2.2.1, am2_it bR 0 h.2.2.2.1, h.2.2.2.2.1, h.2.2.2.2.2)
def am2_kind (ro : Nat → Option (Nat × Nat)) (h : am2_H) (p : Nat) : Option (Nat × Nat) :=
  if p = 0 then none else if p < am_SP then h.1[p - 1]? else ro (p - am_SP)
def am2_fv (B : am2_B) (ty p k : Nat) (h : am2_H) : Option am_V := match ty with
  | 1 => (am2_rd (fun _ _ => none) 0 h.2.2.1 p k).map (fun x => .inr (.inl x))
  | 2 => (am2_rd B.2 0 h.2.2.2.1 p k).map (fun x => .inr (.inr x))
  | _ => (am2_rd B.1 0 h.2.1 p k).map (fun x => .inl x)
def am2_dfl (a : Nat) (h : am2_H) (k len : Nat) (sl : Nat) : am2_H :=
  (h.1 ++ [(k, len)], (a, none) :: h.2.1, (a, none) :: h.2.2.1, (a, none) :: h.2.2.2.1, h.2.2.2.2.1 + 1, h.2.2.2.2.2 + sl)
def am2_hp (ro : Nat → Option (Nat × Nat)) (B : am2_B) (fty : Nat → Nat → Nat) (nf : Nat → Nat) (ins : Instr) (a b : Nat) (z : Int) (st : List am_V) (h : am2_H) : Option (List am_V × am2_H) := match ins with
  | .getfield _ => match st with
    | .inr (.inr p) :: r => match am2_kind ro h p with
      | some (c, _) => if c = a then (am2_fv B (fty a b) p b h).map (fun v => (v :: r, h)) else none
      | none => none
    | _ => none
  | .putfield _ => match st with
    | v :: .inr (.inr p) :: r => match am2_kind ro h p with
      | some (c, _) => if c = a ∧ p < am_SP then (match v with
        | .inl x => if fty a b = 0 ∨ (fty a b = 3 ∧ (x = 0 ∨ x = 1)) then some (r, (h.1, (p, some (b, x)) :: h.2.1, h.2.2)) else none
        | .inr (.inl x) => if fty a b = 1 then some (r, (h.1, h.2.1, (p, some (b, x)) :: h.2.2.1, h.2.2.2)) else none
        | .inr (.inr x) => if fty a b = 2 ∧ x < am_SP then some (r, (h.1, h.2.1, h.2.2.1, (p, some (b, x)) :: h.2.2.2.1, h.2.2.2.2)) else none) else none
      | none => none
    | _ => none
  | .iaload => match st with
    | .inl j :: .inr (.inr p) :: r => match am2_kind ro h p with
      | some (c, n) => if c = 102 ∧ 0 ≤ j ∧ j < (n : Int) then (am2_rd B.1 0 h.2.1 p j.toNat).map (fun v => (.inl v :: r, h)) else none
      | none => none
    | _ => none
  | .laload => match st with
    | .inl j :: .inr (.inr p) :: r => match am2_kind ro h p with
      | some (c, n) => if c = 101 ∧ 0 ≤ j ∧ j < (n : Int) then (am2_rd (fun _ _ => none) 0 h.2.2.1 p j.toNat).map (fun v => (.inr (.inl v) :: r, h)) else none
      | none => none
    | _ => none
  | .baload => match st with
    | .inl j :: .inr (.inr p) :: r => match am2_kind ro h p with
      | some (c, n) => if (c = 103 ∨ c = 104) ∧ 0 ≤ j ∧ j < (n : Int) then (am2_rd B.1 0 h.2.1 p j.toNat).map (fun v => (.inl v :: r, h)) else none
      | none => none
    | _ => none
  | .iastore => match st with
    | .inl x :: .inl j :: .inr (.inr p) :: r => match am2_kind ro h p with
      | some (c, n) => if (c = 102 ∧ p < am_SP) ∧ 0 ≤ j ∧ j < (n : Int) then some (r, (h.1, (p, some (j.toNat, x)) :: h.2.1, h.2.2)) else none
      | none => none
    | _ => none
  | .lastore => match st with
    | .inr (.inl x) :: .inl j :: .inr (.inr p) :: r => match am2_kind ro h p with
      | some (c, n) => if (c = 101 ∧ p < am_SP) ∧ 0 ≤ j ∧ j < (n : Int) then some (r, (h.1, h.2.1, (p, some (j.toNat, x)) :: h.2.2.1, h.2.2.2)) else none
      | none => none
    | _ => none
  | .arraylength => match st with
    | .inr (.inr p) :: r => match am2_kind ro h p with
      | some (c, n) => if 101 ≤ c then some (.inl n :: r, h) else none
      | none => none
    | _ => none
  | .new _ => if a < 50 ∧ h.1.length + 1 < am_SP then some (.inr (.inr (h.1.length + 1)) :: st, am2_dfl (h.1.length + 1) h a 0 (nf a)) else none
  | .newarray t => match st with
    | .inl j :: r => if (0 ≤ j ∧ j ≤ 1000000) ∧ h.1.length + 1 < am_SP then (match t with
      | .long => some (.inr (.inr (h.1.length + 1)) :: r, am2_dfl (h.1.length + 1) h 101 j.toNat j.toNat)
      | .int => some (.inr (.inr (h.1.length + 1)) :: r, am2_dfl (h.1.length + 1) h 102 j.toNat j.toNat)
      | .byte => some (.inr (.inr (h.1.length + 1)) :: r, am2_dfl (h.1.length + 1) h 103 j.toNat j.toNat)
      | .boolean => some (.inr (.inr (h.1.length + 1)) :: r, am2_dfl (h.1.length + 1) h 104 j.toNat j.toNat)
      | _ => none) else none
    | _ => none
  | .ldc _ => if b = 0 then (if -2147483648 ≤ z ∧ z < 2147483648 then some (.inl z :: st, h) else none) else some (.inr (.inr (am_SP + a)) :: st, h)
  | .ldc_w _ => if -2147483648 ≤ z ∧ z < 2147483648 then some (.inl z :: st, h) else none
  | .ldc2_w _ => if -9223372036854775808 ≤ z ∧ z < 9223372036854775808 then some (.inr (.inl z) :: st, h) else none
  | .getstatic _ => if b = 0 then some (.inl 1 :: st, h) else some (.inr (.inr (am_SP + a)) :: st, h)
  | _ => none
section AM2
variable {ro2 ro : Nat → Option (Nat × Nat)} {B : am2_B} {bI bJ : Nat → Nat → Int} {bR : Nat → Nat → Nat} {fty : Nat → Nat → Nat} {nf : Nat → Nat}
theorem am2_kind_rp (hro : ∀ q x, ro2 q = some x → ro q = some x) {h : am2_H} {p : Nat} {x : Nat × Nat} (hk : am2_kind ro2 h p = some x) : am_kind ro (am2_rp bI bJ bR h) p = some x := by
  unfold am2_kind at hk
  unfold am_kind
  split at hk
  · cases hk
  · rename_i h0
    rw [if_neg h0]
    split at hk
    · rename_i h1; rw [if_pos h1]; exact hk
    · rename_i h1; rw [if_neg h1]; exact hro _ _ hk
theorem am2_fv_rp (hI : ∀ p k v, B.1 p k = some v → bI p k = v) (hR : ∀ p k v, B.2 p k = some v → bR p k = v) {ty p k : Nat} {h : am2_H} {v : am_V} (hv : am2_fv B ty p k h = some v) : am_fv ty p k (am2_rp bI bJ bR h) = v := by
  unfold am2_fv at hv
  unfold am_fv
  split at hv
  · obtain ⟨x, h1, rfl⟩ := Option.map_eq_some_iff.mp hv
    exact congrArg (fun x => (.inr (.inl x) : am_V)) (am2_rd_it (fun _ _ _ h => by cases h) _ _ _ _ h1)
  · obtain ⟨x, h1, rfl⟩ := Option.map_eq_some_iff.mp hv
    exact congrArg (fun x => (.inr (.inr x) : am_V)) (am2_rd_it hR _ _ _ _ h1)
  · rename_i n1 n2
    obtain ⟨x, h1, rfl⟩ := Option.map_eq_some_iff.mp hv
    split
    · exact absurd rfl n1
    · exact absurd rfl n2
    · exact congrArg (fun x => (.inl x : am_V)) (am2_rd_it hI _ _ _ _ h1)
end AM2
