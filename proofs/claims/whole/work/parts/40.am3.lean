/-! AM3: the abstract machine for symbolic runs: a part of the cells (role 0 the class, 1 the model, 2 all), kinds and final references as tables, what is wanted behind a run handed on -/
abbrev ak_S : Type := (Nat → Nat → Int) × (Nat → Nat → Int) × Nat × Nat
abbrev ak_R3 : Type := (Option am_V × ak_S) ⊕ (Nat × ak_S)
abbrev ak_X3 : Type := Nat × (Nat → Int)
abbrev ak_G : Type := (Nat → Nat → Int) × (Nat → Nat → Int) × Nat × Nat
def ak_D (r p : Nat) : Bool := match r with
  | 0 => decide (p < 110)
  | 1 => decide (110 ≤ p) && decide (p < 211)
  | _ => decide (p < 212)
def ak_Rf (ρ : List Nat) : Nat → Nat → Nat := fun p k =>
  if p = 1 ∧ k = 7 then ρ.getD 0 0 else if p = 2 ∧ k = 1 then ρ.getD 1 0 else if p = 2 ∧ k = 2 then ρ.getD 2 0 else if p = 32 ∧ k = 6 then ρ.getD 3 0 else if p = 32 ∧ k = 7 then ρ.getD 4 0 else am2_it am_R0 0 am_hC2_R p k
def ak_ov (r : Nat) (g : ak_G) (ρ : List Nat) (h : ak_S) : am_H :=
  (am_hC2_k, fun p k => if ak_D r p = true then h.1 p k else g.1 p k, fun p k => if ak_D r p = true then h.2.1 p k else g.2.1 p k, ak_Rf ρ, if r = 1 then g.2.2.1 else h.2.2.1, if r = 1 then g.2.2.2 else h.2.2.2)
def ak_lf (r : Nat) (g : ak_G) (ρ : List Nat) (x : ak_R3) : am_R := match x with
  | .inl (v, h) => .inl (v, ak_ov r g ρ h)
  | .inr (x, h) => .inr (x, ak_ov r g ρ h)
def ak_gok (e : ak_X3) (g : ak_G) : Prop := ∀ p k, am_SP ≤ p → g.1 p k = am_I0 e.2 p k
/-- runs: from a place on (ak_W1), of a method (ak_M1) -/
def ak_W1 (e : ak_X3) (r d j : Nat) (ρ : List Nat) (pc : Nat) (ls : am_L) (st : List am_V) (h : ak_S) (Q : List Nat → ak_R3 → Prop) : Prop :=
  ∃ ρ' res, Q ρ' res ∧ ∀ g, ak_gok e g → ∃ F n, am_run (am_ro e.1) am_fty am_nf (am_na am_P) (am_rc am_P) (am_co am_P j) (am_hdf (am_hl am_P j)) (am_rtag (am_re am_P j)) (am_exec am_P (am_ro e.1) F d) n pc ls st (ak_ov r g ρ h) = some (ak_lf r g ρ' res)
def ak_M1 (e : ak_X3) (r d : Nat) (ρ : List Nat) (j : Nat) (ar : List am_V) (h : ak_S) (Q : List Nat → ak_R3 → Prop) : Prop :=
  ∃ ρ' res, Q ρ' res ∧ ∀ g, ak_gok e g → ∃ F, am_exec am_P (am_ro e.1) F d j ar (ak_ov r g ρ h) = some (ak_lf r g ρ' res)
def ak_q0 (ρ : List Nat) (Q : ak_R3 → Prop) : List Nat → ak_R3 → Prop := fun ρ' x => ρ' = ρ ∧ Q x
def ak_qv (Q : ak_S → Prop) (X : Nat → ak_S → Prop) (x : ak_R3) : Prop := match x with
  | .inl (none, h) => Q h
  | .inr (n, h) => X n h
  | _ => False
def ak_qi (Q : Int → ak_S → Prop) (X : Nat → ak_S → Prop) (x : ak_R3) : Prop := match x with
  | .inl (some (.inl v), h) => Q v h
  | .inr (n, h) => X n h
  | _ => False
def ak_qj (Q : Int → ak_S → Prop) (X : Nat → ak_S → Prop) (x : ak_R3) : Prop := match x with
  | .inl (some (.inr (.inl v)), h) => Q v h
  | .inr (n, h) => X n h
  | _ => False
abbrev ak_W0 (e : ak_X3) (r d j : Nat) (ρ : List Nat) (pc : Nat) (ls : am_L) (st : List am_V) (h : ak_S) (Q : ak_R3 → Prop) : Prop := ak_W1 e r d j ρ pc ls st h (ak_q0 ρ Q)
def ak_MV (e : ak_X3) (r d : Nat) (ρ : List Nat) (j : Nat) (ar : List am_V) (h : ak_S) (Q : ak_S → Prop) (X : Nat → ak_S → Prop) : Prop := ak_M1 e r d ρ j ar h (ak_q0 ρ (ak_qv Q X))
def ak_MI (e : ak_X3) (r d : Nat) (ρ : List Nat) (j : Nat) (ar : List am_V) (h : ak_S) (Q : Int → ak_S → Prop) (X : Nat → ak_S → Prop) : Prop := ak_M1 e r d ρ j ar h (ak_q0 ρ (ak_qi Q X))
def ak_MJ (e : ak_X3) (r d : Nat) (ρ : List Nat) (j : Nat) (ar : List am_V) (h : ak_S) (Q : Int → ak_S → Prop) (X : Nat → ak_S → Prop) : Prop := ak_M1 e r d ρ j ar h (ak_q0 ρ (ak_qj Q X))
/-! tables -/
def am3_ch {α : Type} : Nat → List α → List (List α)
  | 0, _ => []
  | n + 1, l => l.take 16 :: am3_ch n (l.drop 16)
def am3_lk {α : Type} (t : List (List α)) (k : Nat) : Option α := match t[k / 16]? with
  | some l => l[k % 16]?
  | none => none
def am3_kt : List (List (Option (Nat × Nat))) := [[none, some (11, 0), some (1, 0), some (7, 0), some (103, 6000), some (101, 24), some (102, 6001), some (102, 6001), some (101, 6001), some (8, 0), some (0, 0), some (102, 9600), some (102, 9600), some (102, 500), some (102, 500), some (102, 500)],
  [some (102, 1000), some (102, 1000), some (102, 1000), some (102, 1000), some (101, 40), some (102, 40), some (102, 40), some (101, 100), some (102, 150), some (102, 150), some (102, 150), some (102, 60), some (102, 60), some (102, 60), some (101, 252), some (102, 21)],
  [some (5, 0), some (10, 0), some (102, 200), some (102, 2400), some (101, 2400), some (102, 400), some (102, 400), some (102, 4800), some (102, 4800), some (101, 4), some (102, 201), some (102, 201), some (6, 0), some (102, 3640), some (101, 2912), some (102, 900)],
  [some (102, 2912), some (9, 0), some (102, 6720), some (101, 6720), some (102, 560), some (102, 560), some (102, 560), some (104, 560), some (102, 560), some (101, 560), some (102, 560), some (102, 560), some (102, 560), some (102, 500), some (102, 500), some (4, 0)],
  [some (101, 7), some (101, 600), some (101, 1200), some (101, 384), some (102, 40), some (2, 0), some (102, 60), some (102, 60), some (102, 60), some (102, 60), some (102, 60), some (102, 60), some (104, 60), some (3, 0), some (102, 1260), some (102, 1260)],
  [some (102, 1260), some (102, 1260), some (102, 1260), some (102, 1260), some (102, 1260), some (101, 1260), some (102, 1260), some (8, 0), some (0, 0), some (102, 9600), some (102, 9600), some (102, 500), some (102, 500), some (102, 500), some (102, 1000), some (102, 1000)],
  [some (102, 1000), some (102, 1000), some (101, 40), some (102, 40), some (102, 40), some (101, 100), some (102, 150), some (102, 150), some (102, 150), some (102, 60), some (102, 60), some (102, 60), some (102, 12600), some (101, 12600), some (12, 0), some (102, 6000)],
  [some (102, 12000), some (102, 2), some (102, 18000), some (102, 18000), some (102, 18000), some (102, 18000), some (102, 18000), some (102, 18000), some (102, 18000), some (102, 2), some (102, 2), some (102, 80), some (102, 80), some (102, 80), some (102, 80), some (102, 2)],
  [some (102, 300), some (102, 300), some (102, 300), some (102, 2), some (102, 200), some (102, 200), some (102, 2), some (102, 120), some (102, 120), some (102, 192), some (102, 21), some (102, 252), some (102, 252), some (102, 200), some (102, 200), some (102, 2400)],
  [some (102, 2400), some (102, 2400), some (101, 2400), some (102, 400), some (102, 4800), some (102, 4800), some (102, 500), some (102, 500), some (102, 12), some (102, 12), some (102, 200), some (102, 201), some (102, 201), some (104, 200), some (102, 150), some (102, 150)],
  [some (102, 150), some (102, 150), some (102, 150), some (102, 150), some (102, 728), some (102, 728), some (102, 728), some (102, 728), some (102, 728), some (102, 728), some (102, 728), some (102, 728), some (102, 728), some (104, 564), some (104, 564), some (104, 564)],
  [some (104, 564), some (102, 564), some (102, 564), some (102, 564), some (102, 564), some (101, 564), some (102, 564), some (102, 564), some (102, 6768), some (101, 6768), some (102, 40), some (102, 300), some (101, 300), some (102, 300), some (102, 300), some (101, 300)],
  [some (102, 300), some (102, 64), some (102, 64), some (101, 64), some (102, 64), some (102, 64), some (102, 64), some (102, 20000), some (101, 20000), some (102, 370000), some (102, 370000), some (102, 370000), some (102, 370000), some (102, 2000), some (102, 2000), some (102, 2000)],
  [some (101, 2000), some (102, 2000), some (102, 2000), some (101, 1)]]
def am3_r110 : List (List (Option Nat)) := [[none, some 111, none, none, none, some 112, some 113, some 114, some 115, some 116, some 117, some 118, some 119, some 120, some 121, some 122],
  [some 123, some 124, some 125, some 126, some 127, some 128, some 129, some 130, some 131, some 132, some 133, some 134, some 135, some 136, some 137, none],
  [none, none, none, none, none, none, none, some 138, some 139, some 140, none, none, none, none, none, some 141],
  [some 142, some 143, some 144, some 145, some 146, none, some 147, some 148, some 149, none, some 150, some 151, some 152, some 153, none, some 154],
  [none, some 155, some 156, none, some 157, none, none, none, some 158, some 159, some 160, some 161, some 162, some 163, none, some 164],
  [some 165, some 166, some 167, some 168, none, some 169, some 170, some 171, some 172, some 173, some 174, some 175, some 176, some 177, some 178, some 179],
  [some 180, some 181, some 182, some 183, some 184, some 185, none, none, none, none, none, none, none, none, none, none],
  [some 186, some 187, some 188, some 189, some 190, some 191, some 192, some 193, some 194, some 195, some 196, some 197, some 198, some 199, some 200, none],
  [some 201, some 202, some 203, some 204, none, none, none, none, none, none, none, none, some 205, some 206, some 207, some 208],
  [some 209, some 210]]
def am3_ro2 (p : Nat) : List (Option Nat) := if p = 3 then [some 4, none, some 5, some 6, some 7, some 8] else if p = 9 then [some 10, some 20, some 21, some 22, none, some 23, none, some 24, some 25, some 26, none, some 27, some 28, some 29] else if p = 10 then [some 11, some 12, none, some 13, some 14, some 15, none, some 16, some 17, some 18, some 19] else if p = 33 then [none, some 34, some 35, some 36, none, some 37, some 38, some 39, some 40, none, none, some 41, some 42, some 43] else if p = 44 then [some 45, some 46, some 47, some 48] else if p = 49 then [some 50, some 51, some 52, some 53, some 54, some 55, some 56, some 57, some 58, some 59, some 60, none, some 61, some 62] else if p = 63 then [some 64, some 65, some 66, some 67, some 68] else if p = 69 then [some 70, some 71, some 72, some 73, some 74, some 75, some 76] else if p = 77 then [some 78, some 79, some 80, some 81, none, some 82, some 83, some 84, some 85, some 86] else if p = 87 then [some 88, some 98, some 99, some 100, none, some 101, none, some 102, some 103, some 104, none, some 105, some 106, some 107] else if p = 88 then [some 89, some 90, none, some 91, some 92, some 93, none, some 94, some 95, some 96, some 97] else if p = am_SP + 10 then [some (am_SP + 20)] else if p = am_SP + 11 then [some (am_SP + 21)] else []
def am3_kd (e : ak_X3) (r p : Nat) : Option (Nat × Nat) :=
  if am_SP ≤ p then am_ro e.1 (p - am_SP) else if ak_D r p = true then (match am3_lk am3_kt p with
    | some x => x
    | none => none) else none
def am3_rf (ρ : List Nat) (p k : Nat) : Option Nat :=
  if p = 110 then (match am3_lk am3_r110 k with
    | some x => x
    | none => none)
  else if p = 1 then [some 2, some 32, some 3, some 33, some 44, some 49, some 63, ρ[0]?].getD k none
  else if p = 2 then [some 3, ρ[1]?, ρ[2]?, some 30, some 31].getD k none
  else if p = 32 then [some 33, some 44, some 49, some 63, some 69, some 77, ρ[3]?, ρ[4]?, some 108, some 109].getD k none
  else (am3_ro2 p).getD k none
/-! one instruction -/
def am3_tg (pc : Nat) (off : Int) (k : Nat → Prop) : Prop := match am_tgt pc off with
  | some t => k t
  | none => False
def am3_if (c : ClassFile.Cond) (x y : Int) (A B : Prop) : Prop := match c with
  | .eq => (x = y → A) ∧ (x ≠ y → B)
  | .ne => (x ≠ y → A) ∧ (x = y → B)
  | .lt => (x < y → A) ∧ (y ≤ x → B)
  | .ge => (y ≤ x → A) ∧ (x < y → B)
  | .gt => (y < x → A) ∧ (x ≤ y → B)
  | .le => (x ≤ y → A) ∧ (y < x → B)
def am3_tsw (k : Nat → Prop) (pc : Nat) (x lo : Int) : List Int → Prop
  | [] => True
  | o :: r => (x = lo → am3_tg pc o k) ∧ am3_tsw k pc x (lo + 1) r
def am3_lsw (k : Nat → Prop) (pc : Nat) (x : Int) : List (Int × Int) → Prop
  | [] => True
  | o :: r => (x = o.1 → am3_tg pc o.2 k) ∧ am3_lsw k pc x r
def am3_lsn (x : Int) : List (Int × Int) → Prop
  | [] => True
  | o :: r => x ≠ o.1 ∧ am3_lsn x r
def am3_thr : List Nat := [9, 10, 11, 12, 13, 14, 15, 16, 20, 21, 22, 23, 24, 25, 26, 27, 28, 29, 30, 31, 32, 33, 34, 36, 37, 38, 39, 40, 41, 42, 43, 44, 45, 46, 47, 166, 167, 168, 169, 171, 172, 173, 174, 175, 176, 177, 178, 179, 180, 181, 182, 183, 184, 185, 186, 187, 188, 189, 190, 191, 192, 193, 194, 195]
def am3_XB (hl : List am_HE) (Q : ak_R3 → Prop) (k : Nat → am_L → List am_V → ak_S → Prop) (pc : Nat) (ls : am_L) (y : Nat) (h : ak_S) : Prop := match am_hdf hl pc y with
  | some none => Q (.inr (y, h))
  | some (some (t, i)) => (match am_st ls i (.inr (.inr 0)) with
    | some l => k t (l.set i none) [] h
    | none => False)
  | none => False
def am3_X (hl : List am_HE) (Q : ak_R3 → Prop) (k : Nat → am_L → List am_V → ak_S → Prop) (a pc : Nat) (ls : am_L) : Nat → ak_S → Prop :=
  if am3_thr.elem a = true then (match hl with
    | [] => fun x h => Q (.inr (x, h))
    | _ => fun x h => (x = 0 → am3_XB hl Q k pc ls 0 h) ∧ (x = 1 → am3_XB hl Q k pc ls 1 h) ∧ (x = 2 → am3_XB hl Q k pc ls 2 h) ∧ (x = 3 → am3_XB hl Q k pc ls 3 h) ∧ x < 4)
  else fun _ _ => False
def am3_call (e : ak_X3) (r d : Nat) (ρ : List Nat) (a : Nat) (ar : List am_V) (h : ak_S) (s : List am_V) (k : List am_V → ak_S → Prop) (X : Nat → ak_S → Prop) : Prop := match am_rtag (am_re am_P a) with
  | 0 => ak_MV e r d ρ a ar h (fun h' => k s h') X
  | 3 => ak_MJ e r d ρ a ar h (fun v h' => k (.inr (.inl v) :: s) h') X
  | _ => ak_MI e r d ρ a ar h (fun v h' => k (.inl v :: s) h') X
def am3_rd (e : ak_X3) (p k : Nat) (h : ak_S) : Int := if am_SP ≤ p then am_I0 e.2 p k else h.1 p k
def am3_gf (e : ak_X3) (ρ : List Nat) (ty p k : Nat) (h : ak_S) (c : am_V → Prop) : Prop := match ty with
  | 1 => if am_SP ≤ p then False else c (.inr (.inl (h.2.1 p k)))
  | 2 => match am3_rf ρ p k with
    | some x => c (.inr (.inr x))
    | none => False
  | _ => c (.inl (am3_rd e p k h))
def am3_prim (e : ak_X3) (r a : Nat) (st : List am_V) (h : ak_S) (k : List am_V → ak_S → Prop) : Prop := match a with
  | 900 => match st with
    | .inl y :: .inl x :: s => k (.inl (if x < y then y else x) :: s) h
    | _ => False
  | 901 => match st with
    | .inl y :: .inl x :: s => k (.inl (if x < y then x else y) :: s) h
    | _ => False
  | 902 => match st with
    | .inr (.inl y) :: .inr (.inl x) :: s => k (.inr (.inl (if y < x then y else x)) :: s) h
    | _ => False
  | 904 => match st with
    | .inl n :: .inl dp :: .inr (.inr q) :: .inl sp :: .inr (.inr p) :: s => match am3_kd e r p, am3_kd e r q with
      | some (c, m), some (c2, m2) => if c = c2 ∧ p < am_SP ∧ q < am_SP then (match c with
          | 101 => (0 ≤ sp ∧ 0 ≤ dp ∧ 0 ≤ n ∧ sp + n ≤ (m : Int) ∧ dp + n ≤ (m2 : Int)) ∧ k s (h.1, am_cpy h.2.1 p q sp.toNat dp.toNat n.toNat, h.2.2)
          | 102 => (0 ≤ sp ∧ 0 ≤ dp ∧ 0 ≤ n ∧ sp + n ≤ (m : Int) ∧ dp + n ≤ (m2 : Int)) ∧ k s (am_cpy h.1 p q sp.toNat dp.toNat n.toNat, h.2)
          | _ => False) else False
      | _, _ => False
    | _ => False
  | _ => False
/-- a list of locals made plain -/
def am3_fl : am_L → (am_L → Prop) → Prop
  | [], c => c []
  | o :: l, c => am3_fl l (fun l' => c (o :: l'))
def am3_nrm (ins : Instr) (ls : am_L) (st : List am_V) (c : am_L → List am_V → Prop) : Prop := match ins with
  | .iload i => match am_get ls i with
    | some (.inl x) => c ls (.inl x :: st)
    | _ => False
  | .iload_n i => match am_get ls i.val with
    | some (.inl x) => c ls (.inl x :: st)
    | _ => False
  | .aload i => match am_get ls i with
    | some (.inr (.inr x)) => c ls (.inr (.inr x) :: st)
    | _ => False
  | .aload_n i => match am_get ls i.val with
    | some (.inr (.inr x)) => c ls (.inr (.inr x) :: st)
    | _ => False
  | .lload i => match am_get ls i with
    | some (.inr (.inl x)) => c ls (.inr (.inl x) :: st)
    | _ => False
  | .lload_n i => match am_get ls i.val with
    | some (.inr (.inl x)) => c ls (.inr (.inl x) :: st)
    | _ => False
  | _ => match am_loc ins ls st with
    | some (l, s) => am3_fl l (fun l' => c l' s)
    | none => match am_alu ins st with
      | some s => c ls s
      | none => False
def am3_one (e : ak_X3) (r d : Nat) (ρ : List Nat) (hl : List am_HE) (rt : Nat) (Q : ak_R3 → Prop) (k : Nat → am_L → List am_V → ak_S → Prop) (o : Option am_E) (pc : Nat) (ls : am_L) (st : List am_V) (h : ak_S) : Prop := match o with
  | none => False
  | some (len, ins, a, b, z) => match ins with
    | .goto off => am3_tg pc off (fun t => k t ls st h)
    | .ifCond c off => match st with
      | .inl x :: s => am3_tg pc off (fun t => am3_if c x 0 (k t ls s h) (k (pc + len) ls s h))
      | _ => False
    | .if_icmp c off => match st with
      | .inl y :: .inl x :: s => am3_tg pc off (fun t => am3_if c x y (k t ls s h) (k (pc + len) ls s h))
      | _ => False
    | .tableswitch dd lo hi offs => match st with
      | .inl x :: s => (if offs.toList.length = (hi - lo + 1).toNat then True else False) ∧ ((x < lo ∨ hi < x) → am3_tg pc dd (fun t => k t ls s h)) ∧ am3_tsw (fun t => k t ls s h) pc x lo offs.toList
      | _ => False
    | .lookupswitch dd ps => match st with
      | .inl x :: s => (if (ps.toList.zip (ps.toList.drop 1)).all (fun (u, v) => u.1 < v.1) = true then True else False) ∧ (am3_lsn x ps.toList → am3_tg pc dd (fun t => k t ls s h)) ∧ am3_lsw (fun t => k t ls s h) pc x ps.toList
      | _ => False
    | .ireturn => match st with
      | .inl x :: [] => (match rt with
        | 1 => Q (.inl (some (.inl x), h))
        | 2 => (x = 0 ∨ x = 1) ∧ Q (.inl (some (.inl x), h))
        | 4 => (-128 ≤ x ∧ x < 128) ∧ Q (.inl (some (.inl x), h))
        | 5 => (0 ≤ x ∧ x < 65536) ∧ Q (.inl (some (.inl x), h))
        | _ => False)
      | _ => False
    | .lreturn => match st with
      | .inr (.inl x) :: [] => (match rt with
        | 3 => Q (.inl (some (.inr (.inl x)), h))
        | _ => False)
      | _ => False
    | .return_ => match st with
      | [] => (match rt with
        | 0 => Q (.inl (none, h))
        | _ => False)
      | _ => False
    | .invokevirtual _ => match am_args (am_na am_P a) st with
      | some (.inr (.inr p) :: ar, s) => match am3_kd e r p with
        | some (c, _) => if c = am_rc am_P a ∧ am_cats s ≤ 8 then am3_call e r d ρ a (.inr (.inr p) :: ar) h s (fun s' h' => k (pc + len) ls s' h') (am3_X hl Q k a pc ls) else False
        | none => False
      | _ => False
    | .invokestatic _ => if 900 ≤ a then (if am_cats st ≤ 40 then am3_prim e r a st h (fun s' h' => k (pc + len) ls s' h') else False) else match am_args (am_na am_P a) st with
      | some (ar, s) => if am_cats s ≤ 8 then am3_call e r d ρ a ar h s (fun s' h' => k (pc + len) ls s' h') (am3_X hl Q k a pc ls) else False
      | none => False
    | .invokespecial _ => False
    | .new _ => if 50 ≤ a ∧ am_cats st ≤ 8 ∧ r ≠ 1 then Q (.inr (a - 50, (h.1, h.2.1, h.2.2.1 + 1, h.2.2.2 + 6))) else False
    | .getfield _ => match st with
      | .inr (.inr p) :: s => match am3_kd e r p with
        | some (c, _) => if c = a then am3_gf e ρ (am_fty a b) p b h (fun v => k (pc + len) ls (v :: s) h) else False
        | none => False
      | _ => False
    | .putfield _ => match st with
      | v :: .inr (.inr p) :: s => match am3_kd e r p with
        | some (c, _) => if c = a ∧ p < am_SP then (match v with
          | .inl x => (match am_fty a b with
            | 0 => k (pc + len) ls s (am_up h.1 p b x, h.2)
            | 3 => (x = 0 ∨ x = 1) ∧ k (pc + len) ls s (am_up h.1 p b x, h.2)
            | _ => False)
          | .inr (.inl x) => (match am_fty a b with
            | 1 => k (pc + len) ls s (h.1, am_up h.2.1 p b x, h.2.2)
            | _ => False)
          | .inr (.inr _) => False) else False
        | none => False
      | _ => False
    | .iaload => match st with
      | .inl j :: .inr (.inr p) :: s => match am3_kd e r p with
        | some (c, n) => if c = 102 then (0 ≤ j ∧ j < (n : Int)) ∧ k (pc + len) ls (.inl (am3_rd e p j.toNat h) :: s) h else False
        | none => False
      | _ => False
    | .laload => match st with
      | .inl j :: .inr (.inr p) :: s => match am3_kd e r p with
        | some (c, n) => if c = 101 ∧ p < am_SP then (0 ≤ j ∧ j < (n : Int)) ∧ k (pc + len) ls (.inr (.inl (h.2.1 p j.toNat)) :: s) h else False
        | none => False
      | _ => False
    | .baload => match st with
      | .inl j :: .inr (.inr p) :: s => match am3_kd e r p with
        | some (c, n) => if c = 103 ∨ c = 104 then (0 ≤ j ∧ j < (n : Int)) ∧ k (pc + len) ls (.inl (am3_rd e p j.toNat h) :: s) h else False
        | none => False
      | _ => False
    | .iastore => match st with
      | .inl x :: .inl j :: .inr (.inr p) :: s => match am3_kd e r p with
        | some (c, n) => if c = 102 ∧ p < am_SP then (0 ≤ j ∧ j < (n : Int)) ∧ k (pc + len) ls s (am_up h.1 p j.toNat x, h.2) else False
        | none => False
      | _ => False
    | .lastore => match st with
      | .inr (.inl x) :: .inl j :: .inr (.inr p) :: s => match am3_kd e r p with
        | some (c, n) => if c = 101 ∧ p < am_SP then (0 ≤ j ∧ j < (n : Int)) ∧ k (pc + len) ls s (h.1, am_up h.2.1 p j.toNat x, h.2.2) else False
        | none => False
      | _ => False
    | .bastore => match st with
      | .inl x :: .inl j :: .inr (.inr p) :: s => match am3_kd e r p with
        | some (c, n) => if c = 103 ∧ p < am_SP then ((0 ≤ j ∧ j < (n : Int)) ∧ -128 ≤ x ∧ x < 128) ∧ k (pc + len) ls s (am_up h.1 p j.toNat x, h.2) else if c = 104 ∧ p < am_SP then ((0 ≤ j ∧ j < (n : Int)) ∧ (x = 0 ∨ x = 1)) ∧ k (pc + len) ls s (am_up h.1 p j.toNat x, h.2) else False
        | none => False
      | _ => False
    | .arraylength => match st with
      | .inr (.inr p) :: s => match am3_kd e r p with
        | some (c, n) => if 101 ≤ c then k (pc + len) ls (.inl (n : Int) :: s) h else False
        | none => False
      | _ => False
    | .ldc _ => if b = 0 then (if -2147483648 ≤ z ∧ z < 2147483648 then k (pc + len) ls (.inl z :: st) h else False) else k (pc + len) ls (.inr (.inr (am_SP + a)) :: st) h
    | .ldc_w _ => if -2147483648 ≤ z ∧ z < 2147483648 then k (pc + len) ls (.inl z :: st) h else False
    | .ldc2_w _ => if -9223372036854775808 ≤ z ∧ z < 9223372036854775808 then k (pc + len) ls (.inr (.inl z) :: st) h else False
    | .getstatic _ => if b = 0 then k (pc + len) ls (.inl 1 :: st) h else k (pc + len) ls (.inr (.inr (am_SP + a)) :: st) h
    | .idiv => match st with
      | .inl y :: .inl x :: s => y ≠ 0 ∧ k (pc + len) ls (.inl (am_w32 (Int.tdiv x y)) :: s) h
      | _ => False
    | .irem => match st with
      | .inl y :: .inl x :: s => y ≠ 0 ∧ k (pc + len) ls (.inl (Int.tmod x y) :: s) h
      | _ => False
    | .ldiv => match st with
      | .inr (.inl y) :: .inr (.inl x) :: s => y ≠ 0 ∧ k (pc + len) ls (.inr (.inl (am_w64 (Int.tdiv x y))) :: s) h
      | _ => False
    | .lrem => match st with
      | .inr (.inl y) :: .inr (.inl x) :: s => y ≠ 0 ∧ k (pc + len) ls (.inr (.inl (Int.tmod x y)) :: s) h
      | _ => False
    | _ => am3_nrm ins ls st (fun l s => k (pc + len) l s h)
