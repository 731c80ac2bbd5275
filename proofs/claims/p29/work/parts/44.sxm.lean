noncomputable section
/-! what works on the heap -/
def sx_ix (B : sx_B) (n : Nat) (x : sx_N) : Option (Nat ⊕ sx_L) := match x with
  | .inl (.ofNat k) => bif Nat.blt k n then some (.inl k) else none
  | .inl (.negSucc _) => none
  | x => (match sx_lin x with
    | some l => bif sx_le 0 (sx_lo B l) && sx_lt (sx_hi B l) n then some (.inr l) else none
    | none => none)
theorem sx_ix_ok {B : sx_B} {e : sx_E} (hB : sx_inB B e) {n : Nat} {x : sx_N} {ix : Nat ⊕ sx_L} {j : Int} (h : sx_ix B n x = some ix) (hj : sx_rn e x j) : 0 ≤ j ∧ j < (n : Int) ∧ sx_ri e ix j.toNat := by
  unfold sx_ix at h
  split at h
  · rename_i k
    obtain ⟨h1, h⟩ := sx_ifs h
    cases h
    cases hj
    rw [Nat.blt_eq] at h1
    refine ⟨Int.natCast_nonneg k, ?_, ?_⟩
    · show (k : Int) < n
      omega
    · show (Int.ofNat k).toNat = k
      rfl
  · cases h
  · split at h
    · rename_i l hl
      obtain ⟨h1, h⟩ := sx_ifs h
      cases h
      simp only [Bool.and_eq_true, sx_le_iff, sx_lt_iff] at h1
      have a1 := sx_lin_ok hl hj
      have a2 := sx_in hB l
      refine ⟨by omega, by omega, ?_⟩
      show ((j.toNat : Nat) : Int) = sx_ev e l
      omega
    · cases h
def sx_ref (R : sx_RM) (p k : Nat) : Option Nat := match sx_at2 R p with
  | some r => sx_at r k
  | none => none
def sx_wrR (R : sx_RM) (p k q : Nat) : sx_RM := match sx_at2 R p with
  | some r => sx_set2 R p (sx_set r k q)
  | none => R
abbrev sx_Z : Type := (Nat → Nat → Int) × (Nat → Nat → Int)
/-- what is told of a heap fits -/
def sx_HF (e : sx_E) (h : sx_H) (H : am_H) : Prop := (∀ p ct, sx_cl h.1 p = some ct → sx_rc e ct (H.2.1 p)) ∧ (∀ p ct, sx_cl h.2.1 p = some ct → sx_rc e ct (H.2.2.1 p)) ∧ ∀ p k q, sx_ref h.2.2 p k = some q → H.2.2.2.1 p k = q
/-- K: the cells and their kinds; n: cells and slots made; Bs: what lies ahead of the run; Z: what the cells hold of which nothing is told -/
def sx_HR (e : sx_E) (K : List (Nat × Nat)) (n : Nat × Nat) (Bs : am2_B) (Z : sx_Z) (h : sx_H) (H : am_H) : Prop :=
  H.1 = K ∧ H.2.2.2.2 = n ∧ (∀ p ct, sx_cl h.1 p = some ct → sx_rc e ct (H.2.1 p)) ∧ (∀ p ct, sx_cl h.2.1 p = some ct → sx_rc e ct (H.2.2.1 p)) ∧ (∀ p k q, sx_ref h.2.2 p k = some q → H.2.2.2.1 p k = q) ∧ (∀ p k v, Bs.1 p k = some v → am_SP ≤ p ∧ H.2.1 p k = v) ∧ (∀ p k v, Bs.2 p k = some v → am_SP ≤ p ∧ H.2.2.2.1 p k = v) ∧ (∀ p, sx_cl h.1 p = none → H.2.1 p = Z.1 p) ∧ ∀ p, sx_cl h.2.1 p = none → H.2.2.1 p = Z.2 p
def sx_rdI (B : sx_B) (Bs : am2_B) (h : sx_H) (p : Nat) (ix : Nat ⊕ sx_L) : Option sx_N := bif Nat.blt p am_SP then (match sx_cl h.1 p with
    | some ct => some (sx_read B ct ix)
    | none => none) else (match ix with
    | .inl k => (Bs.1 p k).map (fun z => .inl z)
    | .inr _ => none)
def sx_rdJ (B : sx_B) (h : sx_H) (p : Nat) (ix : Nat ⊕ sx_L) : Option sx_N := match sx_cl h.2.1 p with
  | some ct => some (sx_read B ct ix)
  | none => none
def sx_rdR (Bs : am2_B) (h : sx_H) (p k : Nat) : Option Nat := bif Nat.blt p am_SP then sx_ref h.2.2 p k else Bs.2 p k
def sx_wrI (B : sx_B) (h : sx_H) (p : Nat) (ix : Nat ⊕ sx_L) (v : sx_N) : Option sx_H := match sx_cl h.1 p with
  | some ct => (match sx_write B ct ix v with
    | some c2 => some (sx_set2 h.1 p (some c2), h.2)
    | none => none)
  | none => none
def sx_wrJ (B : sx_B) (h : sx_H) (p : Nat) (ix : Nat ⊕ sx_L) (v : sx_N) : Option sx_H := match sx_cl h.2.1 p with
  | some ct => (match sx_write B ct ix v with
    | some c2 => some (h.1, sx_set2 h.2.1 p (some c2), h.2.2)
    | none => none)
  | none => none
section SXH
variable {B : sx_B} {e : sx_E} {K : List (Nat × Nat)} {n : Nat × Nat} {Bs : am2_B} {Z : sx_Z} {h h' : sx_H} {H : am_H}
theorem sx_rdI_ok (hB : sx_inB B e) (hh : sx_HR e K n Bs Z h H) {p j : Nat} {ix : Nat ⊕ sx_L} {v : sx_N} (hr : sx_rdI B Bs h p ix = some v) (hj : sx_ri e ix j) : sx_rn e v (H.2.1 p j) := by
  obtain ⟨-, -, hI, -, -, hb, -, -, -⟩ := hh
  unfold sx_rdI at hr
  rcases sx_ifb hr with ⟨-, hr⟩ | ⟨-, hr⟩
  · split at hr
    · rename_i ct hc
      cases hr
      exact sx_read_ok hB (hI p ct hc) hj
    · cases hr
  · split at hr
    · rename_i k _
      obtain ⟨z, h1, rfl⟩ := Option.map_eq_some_iff.mp hr
      have hj2 : j = k := hj
      rw [hj2]
      exact (hb p k z h1).2
    · cases hr
theorem sx_rdJ_ok (hB : sx_inB B e) (hh : sx_HR e K n Bs Z h H) {p j : Nat} {ix : Nat ⊕ sx_L} {v : sx_N} (hr : sx_rdJ B h p ix = some v) (hj : sx_ri e ix j) : sx_rn e v (H.2.2.1 p j) := by
  obtain ⟨-, -, -, hJ, -, -, -, -, -⟩ := hh
  unfold sx_rdJ at hr
  split at hr
  · rename_i ct hc
    cases hr
    exact sx_read_ok hB (hJ p ct hc) hj
  · cases hr
theorem sx_rdR_ok (hh : sx_HR e K n Bs Z h H) {p k q : Nat} (hr : sx_rdR Bs h p k = some q) : H.2.2.2.1 p k = q := by
  obtain ⟨-, -, -, -, hR, -, hb, -, -⟩ := hh
  unfold sx_rdR at hr
  rcases sx_ifb hr with ⟨-, hr⟩ | ⟨-, hr⟩
  · exact hR p k q hr
  · exact (hb p k q hr).2
theorem sx_up_at {α : Type} (f : Nat → Nat → α) (p j : Nat) (x : α) : am_up f p j x p = fun i => if i = j then x else f p i := by
  funext i
  exact if_pos rfl
theorem sx_up_no {α : Type} (f : Nat → Nat → α) {p q j : Nat} (x : α) (h : q ≠ p) : am_up f p j x q = f q := by
  funext i
  exact if_neg h
theorem sx_wrI_ok (hB : sx_inB B e) (hh : sx_HR e K n Bs Z h H) {p j : Nat} {ix : Nat ⊕ sx_L} {v : sx_N} {x : Int} (hp : p < am_SP) (hv : sx_rn e v x) (hw : sx_wrI B h p ix v = some h') (hj : sx_ri e ix j) : sx_HR e K n Bs Z h' (H.1, am_up H.2.1 p j x, H.2.2) := by
  obtain ⟨h1, h2, hI, hJ, hR, hb, hc, hz1, hz2⟩ := hh
  unfold sx_wrI at hw
  split at hw
  · rename_i ct hct
    split at hw
    · rename_i c2 hc2
      cases hw
      refine ⟨h1, h2, fun q c hq => ?_, hJ, hR, fun q k v hq => ?_, hc, fun q hq => ?_, hz2⟩
      · show sx_rc e c (am_up H.2.1 p j x q)
        rcases sx_cl_set2 hct hq with ⟨rfl, rfl⟩ | ⟨z, hq⟩
        · rw [sx_up_at]
          exact sx_write_ok hB (hI q ct hct) hj hv hc2
        · rw [sx_up_no _ _ z]
          exact hI q c hq
      · have := hb q k v hq
        refine ⟨this.1, ?_⟩
        show am_up H.2.1 p j x q k = v
        rw [sx_up_no _ _ (by omega)]
        exact this.2
      · show am_up H.2.1 p j x q = Z.1 q
        obtain ⟨g1, g2⟩ := sx_cl_none hct hq
        rw [sx_up_no _ _ g2]
        exact hz1 q g1
    · cases hw
  · cases hw
theorem sx_wrJ_ok (hB : sx_inB B e) (hh : sx_HR e K n Bs Z h H) {p j : Nat} {ix : Nat ⊕ sx_L} {v : sx_N} {x : Int} (hv : sx_rn e v x) (hw : sx_wrJ B h p ix v = some h') (hj : sx_ri e ix j) : sx_HR e K n Bs Z h' (H.1, H.2.1, am_up H.2.2.1 p j x, H.2.2.2) := by
  obtain ⟨h1, h2, hI, hJ, hR, hb, hc, hz1, hz2⟩ := hh
  unfold sx_wrJ at hw
  split at hw
  · rename_i ct hct
    split at hw
    · rename_i c2 hc2
      cases hw
      refine ⟨h1, h2, hI, fun q c hq => ?_, hR, hb, hc, hz1, fun q hq => ?_⟩
      · show sx_rc e c (am_up H.2.2.1 p j x q)
        rcases sx_cl_set2 hct hq with ⟨rfl, rfl⟩ | ⟨z, hq⟩
        · rw [sx_up_at]
          exact sx_write_ok hB (hJ q ct hct) hj hv hc2
        · rw [sx_up_no _ _ z]
          exact hJ q c hq
      · show am_up H.2.2.1 p j x q = Z.2 q
        obtain ⟨g1, g2⟩ := sx_cl_none hct hq
        rw [sx_up_no _ _ g2]
        exact hz2 q g1
    · cases hw
  · cases hw
theorem sx_wrR_ok (hh : sx_HR e K n Bs Z h H) {p b q : Nat} (hp : p < am_SP) : sx_HR e K n Bs Z (h.1, h.2.1, sx_wrR h.2.2 p b q) (H.1, H.2.1, H.2.2.1, am_up H.2.2.2.1 p b q, H.2.2.2.2) := by
  obtain ⟨h1, h2, hI, hJ, hR, hb, hc, hz1, hz2⟩ := hh
  refine ⟨h1, h2, hI, hJ, fun r k w hw => ?_, hb, fun r k w hw => ?_, hz1, hz2⟩
  · show am_up H.2.2.2.1 p b q r k = w
    have hw2 : sx_ref (sx_wrR h.2.2 p b q) r k = some w := hw
    clear hw
    unfold sx_wrR at hw2
    split at hw2
    · rename_i r0 hr0
      unfold sx_ref at hw2
      split at hw2
      · rename_i r1 hr1
        rcases sx_at2_set2 hr1 with ⟨rfl, rfl⟩ | ⟨z, hq⟩
        · rw [sx_up_at]
          rcases sx_at_set _ _ _ _ _ hw2 with ⟨rfl, rfl⟩ | ⟨z, hw3⟩
          · exact if_pos rfl
          · refine (if_neg z).trans (hR r k w ?_)
            unfold sx_ref
            rw [hr0]
            exact hw3
        · rw [sx_up_no _ _ z]
          refine hR r k w ?_
          unfold sx_ref
          rw [hq]
          exact hw2
      · cases hw2
    · rename_i hn
      have hrp : r ≠ p := by
        intro z
        subst z
        unfold sx_ref at hw2
        rw [hn] at hw2
        cases hw2
      rw [sx_up_no _ _ hrp]
      exact hR r k w hw2
  · have := hc r k w hw
    refine ⟨this.1, ?_⟩
    show am_up H.2.2.2.1 p b q r k = w
    rw [sx_up_no _ _ (by omega)]
    exact this.2
end SXH
/-- the kind of a cell -/
def sx_kd (KK : List (List (Nat × Nat))) (p : Nat) : Option (Nat × Nat) := bif Nat.blt p am_SP then (bif Nat.beq p 0 then none else sx_at2 KK p) else am2_ro (p - am_SP)
def sx_kdok (KK : List (List (Nat × Nat))) (K : List (Nat × Nat)) : Prop := ∀ p x, p ≠ 0 → sx_at2 KK p = some x → K[p - 1]? = some x
theorem sx_kd_ok {ro : Nat → Option (Nat × Nat)} (hro : ∀ q x, am2_ro q = some x → ro q = some x) {KK : List (List (Nat × Nat))} {K : List (Nat × Nat)} (hK : sx_kdok KK K) {H : am_H} (h1 : H.1 = K) {p : Nat} {x : Nat × Nat} (h : sx_kd KK p = some x) : am_kind ro H p = some x ∧ p ≠ 0 := by
  unfold sx_kd at h
  unfold am_kind
  rcases sx_ifb h with ⟨q, h⟩ | ⟨q, h⟩
  · rw [Nat.blt_eq] at q
    rcases sx_ifb h with ⟨q2, h⟩ | ⟨q2, h⟩
    · cases h
    · have h0 : p ≠ 0 := fun z => by rw [z] at q2; cases q2
      rw [if_neg h0, if_pos q, h1]
      exact ⟨hK p x h0 h, h0⟩
  · have h2 : ¬ p < am_SP := fun z => by rw [← Nat.blt_eq] at z; rw [z] at q; cases q
    have h0 : p ≠ 0 := fun z => h2 (by rw [z]; decide)
    rw [if_neg h0, if_neg h2]
    exact ⟨hro _ _ h, h0⟩
def sx_bool (x : sx_N) : Bool := match x with
  | .inl z => sx_eq z 0 || sx_eq z 1
  | .inr _ => false
theorem sx_bool_ok {e : sx_E} {x : sx_N} {v : Int} (h : sx_bool x = true) (r : sx_rn e x v) : v = 0 ∨ v = 1 := by
  unfold sx_bool at h
  split at h
  · cases r
    simp only [Bool.or_eq_true, sx_eq_iff] at h
    exact h
  · cases h
def sx_byte (x : sx_N) : Bool := match x with
  | .inl z => sx_le (-128) z && sx_lt z 128
  | .inr _ => false
theorem sx_byte_ok {e : sx_E} {x : sx_N} {v : Int} (h : sx_byte x = true) (r : sx_rn e x v) : -128 ≤ v ∧ v < 128 := by
  unfold sx_byte at h
  split at h
  · cases r
    simp only [Bool.and_eq_true, sx_le_iff, sx_lt_iff] at h
    exact h
  · cases h
def sx_char (x : sx_N) : Bool := match x with
  | .inl z => sx_le 0 z && sx_lt z 65536
  | .inr _ => false
theorem sx_char_ok {e : sx_E} {x : sx_N} {v : Int} (h : sx_char x = true) (r : sx_rn e x v) : 0 ≤ v ∧ v < 65536 := by
  unfold sx_char at h
  split at h
  · cases r
    simp only [Bool.and_eq_true, sx_le_iff, sx_lt_iff] at h
    exact h
  · cases h
def sx_fv (B : sx_B) (Bs : am2_B) (ty p k : Nat) (h : sx_H) : Option sx_V := match ty with
  | 1 => (sx_rdJ B h p (.inl k)).map (fun x => .inr (.inl x))
  | 2 => (sx_rdR Bs h p k).map (fun x => .inr (.inr x))
  | _ => (sx_rdI B Bs h p (.inl k)).map (fun x => .inl x)
theorem sx_fv_ok {B : sx_B} {e : sx_E} {K : List (Nat × Nat)} {n : Nat × Nat} {Bs : am2_B} {Z : sx_Z} {h : sx_H} {H : am_H} (hB : sx_inB B e) (hh : sx_HR e K n Bs Z h H) {ty p k : Nat} {v : sx_V} (hr : sx_fv B Bs ty p k h = some v) : sx_rv e v (am_fv ty p k H) := by
  unfold sx_fv at hr
  unfold am_fv
  split at hr
  · obtain ⟨x, h1, rfl⟩ := Option.map_eq_some_iff.mp hr
    exact sx_rdJ_ok hB hh h1 (show k = k from rfl)
  · obtain ⟨x, h1, rfl⟩ := Option.map_eq_some_iff.mp hr
    exact sx_rdR_ok hh h1
  · rename_i n1 n2
    obtain ⟨x, h1, rfl⟩ := Option.map_eq_some_iff.mp hr
    split
    · exact absurd rfl n1
    · exact absurd rfl n2
    · exact sx_rdI_ok hB hh h1 (show k = k from rfl)
def sx_hp (B : sx_B) (Bs : am2_B) (kd : Nat → Option (Nat × Nat)) (fty : Nat → Nat → Nat) (ins : Instr) (a b : Nat) (z : Int) (st : List sx_V) (h : sx_H) : Option (List sx_V × sx_H) := match ins with
  | .getfield _ => (match st with
    | .inr (.inr p) :: r => (match kd p with
      | some (c, _) => bif Nat.beq c a then (match sx_fv B Bs (fty a b) p b h with
        | some v => some (v :: r, h)
        | none => none) else none
      | none => none)
    | _ => none)
  | .putfield _ => (match st with
    | v :: .inr (.inr p) :: r => (match kd p with
      | some (c, _) => bif Nat.beq c a && Nat.blt p am_SP then (match v with
        | .inl x => bif Nat.beq (fty a b) 0 || (Nat.beq (fty a b) 3 && sx_bool x) then (match sx_wrI B h p (.inl b) x with
          | some h2 => some (r, h2)
          | none => none) else none
        | .inr (.inl x) => bif Nat.beq (fty a b) 1 then (match sx_wrJ B h p (.inl b) x with
          | some h2 => some (r, h2)
          | none => none) else none
        | .inr (.inr q) => bif Nat.beq (fty a b) 2 && Nat.blt q am_SP then some (r, (h.1, h.2.1, sx_wrR h.2.2 p b q)) else none) else none
      | none => none)
    | _ => none)
  | .iaload => (match st with
    | .inl x :: .inr (.inr p) :: r => (match kd p with
      | some (c, n) => bif Nat.beq c 102 then (match sx_ix B n x with
        | some ix => (match sx_rdI B Bs h p ix with
          | some v => some (.inl v :: r, h)
          | none => none)
        | none => none) else none
      | none => none)
    | _ => none)
  | .laload => (match st with
    | .inl x :: .inr (.inr p) :: r => (match kd p with
      | some (c, n) => bif Nat.beq c 101 then (match sx_ix B n x with
        | some ix => (match sx_rdJ B h p ix with
          | some v => some (.inr (.inl v) :: r, h)
          | none => none)
        | none => none) else none
      | none => none)
    | _ => none)
  | .baload => (match st with
    | .inl x :: .inr (.inr p) :: r => (match kd p with
      | some (c, n) => bif Nat.beq c 103 || Nat.beq c 104 then (match sx_ix B n x with
        | some ix => (match sx_rdI B Bs h p ix with
          | some v => some (.inl v :: r, h)
          | none => none)
        | none => none) else none
      | none => none)
    | _ => none)
  | .iastore => (match st with
    | .inl v :: .inl x :: .inr (.inr p) :: r => (match kd p with
      | some (c, n) => bif Nat.beq c 102 && Nat.blt p am_SP then (match sx_ix B n x with
        | some ix => (match sx_wrI B h p ix v with
          | some h2 => some (r, h2)
          | none => none)
        | none => none) else none
      | none => none)
    | _ => none)
  | .lastore => (match st with
    | .inr (.inl v) :: .inl x :: .inr (.inr p) :: r => (match kd p with
      | some (c, n) => bif Nat.beq c 101 && Nat.blt p am_SP then (match sx_ix B n x with
        | some ix => (match sx_wrJ B h p ix v with
          | some h2 => some (r, h2)
          | none => none)
        | none => none) else none
      | none => none)
    | _ => none)
  | .bastore => (match st with
    | .inl v :: .inl x :: .inr (.inr p) :: r => (match kd p with
      | some (c, n) => bif Nat.blt p am_SP && ((Nat.beq c 103 && sx_byte v) || (Nat.beq c 104 && sx_bool v)) then (match sx_ix B n x with
        | some ix => (match sx_wrI B h p ix v with
          | some h2 => some (r, h2)
          | none => none)
        | none => none) else none
      | none => none)
    | _ => none)
  | .arraylength => (match st with
    | .inr (.inr p) :: r => (match kd p with
      | some (c, n) => bif Nat.ble 101 c then some (.inl (.inl n) :: r, h) else none
      | none => none)
    | _ => none)
  | .ldc _ => bif Nat.beq b 0 then (bif sx_le (-2147483648) z && sx_lt z 2147483648 then some (.inl (.inl z) :: st, h) else none) else some (.inr (.inr (am_SP + a)) :: st, h)
  | .ldc_w _ => bif sx_le (-2147483648) z && sx_lt z 2147483648 then some (.inl (.inl z) :: st, h) else none
  | .ldc2_w _ => bif sx_le (-9223372036854775808) z && sx_lt z 9223372036854775808 then some (.inr (.inl (.inl z)) :: st, h) else none
  | .getstatic _ => bif Nat.beq b 0 then some (.inl (.inl 1) :: st, h) else some (.inr (.inr (am_SP + a)) :: st, h)
  | _ => none
section SXP
variable {B : sx_B} {e : sx_E} {K : List (Nat × Nat)} {n : Nat × Nat} {Bs : am2_B} {Z : sx_Z} {h h' : sx_H} {H : am_H} {ro : Nat → Option (Nat × Nat)} {kd : Nat → Option (Nat × Nat)} {fty : Nat → Nat → Nat} {nf : Nat → Nat}
theorem sx_hp_ok (hB : sx_inB B e) (hh : sx_HR e K n Bs Z h H) (hk : ∀ {H : am_H}, H.1 = K → ∀ {p x}, kd p = some x → am_kind ro H p = some x ∧ p ≠ 0) {ins : Instr} {a b : Nat} {z : Int} {st st' : List sx_V} {t : List am_V} (hp : sx_hp B Bs kd fty ins a b z st h = some (st', h')) (r : sx_rl e st t) :
    ∃ t' H', am_hp ro fty nf ins a b z t H = some (t', H') ∧ sx_rl e st' t' ∧ sx_HR e K n Bs Z h' H' := by
  have hK := hh.1
  unfold sx_hp at hp
  split at hp
  · split at hp
    · rename_i p r0
      obtain ⟨t1, rfl, r1⟩ := sx_rl_cr r
      split at hp
      · rename_i o c n2 hc
        obtain ⟨h1, hp⟩ := sx_ifs hp
        split at hp
        · rename_i v hv
          cases hp
          refine ⟨am_fv (fty a b) p b H :: t1, H, ?_, ⟨sx_fv_ok hB hh hv, r1⟩, hh⟩
          unfold am_hp
          dsimp only
          rw [(hk hK hc).1]
          dsimp only
          rw [if_pos (Nat.eq_of_beq_eq_true h1)]
        · cases hp
      · cases hp
    · cases hp
  · split at hp
    · rename_i v p r0
      obtain ⟨w, t0, rfl, rv, rA⟩ := sx_rl_cons r
      obtain ⟨t1, rfl, r1⟩ := sx_rl_cr rA
      split at hp
      · rename_i o c n2 hc
        obtain ⟨h1, hp⟩ := sx_ifs hp
        rw [Bool.and_eq_true, Nat.blt_eq] at h1
        have hc2 : c = a ∧ p < am_SP := ⟨Nat.eq_of_beq_eq_true h1.1, h1.2⟩
        split at hp
        · rename_i x
          obtain ⟨y, rfl, rx⟩ := sx_rv_i rv
          obtain ⟨h2, hp⟩ := sx_ifs hp
          split at hp
          · rename_i h3 hw
            cases hp
            refine ⟨t1, _, ?_, r1, sx_wrI_ok hB hh hc2.2 rx hw (show b = b from rfl)⟩
            unfold am_hp
            dsimp only
            rw [(hk hK hc).1]
            dsimp only
            rw [if_pos hc2]
            refine if_pos ?_
            rw [Bool.or_eq_true, Bool.and_eq_true] at h2
            rcases h2 with h2 | ⟨h2, h4⟩
            · exact Or.inl (Nat.eq_of_beq_eq_true h2)
            · exact Or.inr ⟨Nat.eq_of_beq_eq_true h2, sx_bool_ok h4 rx⟩
          · cases hp
        · rename_i x
          obtain ⟨y, rfl, rx⟩ := sx_rv_l rv
          obtain ⟨h2, hp⟩ := sx_ifs hp
          split at hp
          · rename_i h3 hw
            cases hp
            refine ⟨t1, _, ?_, r1, sx_wrJ_ok hB hh rx hw (show b = b from rfl)⟩
            unfold am_hp
            dsimp only
            rw [(hk hK hc).1]
            dsimp only
            rw [if_pos hc2]
            exact if_pos (Nat.eq_of_beq_eq_true h2)
          · cases hp
        · rename_i q
          have := sx_rv_r rv
          subst this
          obtain ⟨h2, hp⟩ := sx_ifs hp
          cases hp
          rw [Bool.and_eq_true, Nat.blt_eq] at h2
          refine ⟨t1, _, ?_, r1, sx_wrR_ok hh hc2.2⟩
          unfold am_hp
          dsimp only
          rw [(hk hK hc).1]
          dsimp only
          rw [if_pos hc2]
          exact if_pos ⟨Nat.eq_of_beq_eq_true h2.1, h2.2⟩
      · cases hp
    · cases hp
  · split at hp
    · rename_i x p r0
      obtain ⟨j, t0, rfl, rj, rA⟩ := sx_rl_ci r
      obtain ⟨t1, rfl, r1⟩ := sx_rl_cr rA
      split at hp
      · rename_i o c n2 hc
        obtain ⟨h1, hp⟩ := sx_ifs hp
        split at hp
        · rename_i ix hix
          obtain ⟨q1, q2, q3⟩ := sx_ix_ok hB hix rj
          split at hp
          · rename_i v hv
            cases hp
            refine ⟨.inl (H.2.1 p j.toNat) :: t1, H, ?_, ⟨sx_rdI_ok hB hh hv q3, r1⟩, hh⟩
            unfold am_hp
            dsimp only
            rw [(hk hK hc).1]
            dsimp only
            rw [if_pos ⟨Nat.eq_of_beq_eq_true h1, q1, q2⟩]
          · cases hp
        · cases hp
      · cases hp
    · cases hp
  · split at hp
    · rename_i x p r0
      obtain ⟨j, t0, rfl, rj, rA⟩ := sx_rl_ci r
      obtain ⟨t1, rfl, r1⟩ := sx_rl_cr rA
      split at hp
      · rename_i o c n2 hc
        obtain ⟨h1, hp⟩ := sx_ifs hp
        split at hp
        · rename_i ix hix
          obtain ⟨q1, q2, q3⟩ := sx_ix_ok hB hix rj
          split at hp
          · rename_i v hv
            cases hp
            refine ⟨.inr (.inl (H.2.2.1 p j.toNat)) :: t1, H, ?_, ⟨sx_rdJ_ok hB hh hv q3, r1⟩, hh⟩
            unfold am_hp
            dsimp only
            rw [(hk hK hc).1]
            dsimp only
            rw [if_pos ⟨Nat.eq_of_beq_eq_true h1, q1, q2⟩]
          · cases hp
        · cases hp
      · cases hp
    · cases hp
  · split at hp
    · rename_i x p r0
      obtain ⟨j, t0, rfl, rj, rA⟩ := sx_rl_ci r
      obtain ⟨t1, rfl, r1⟩ := sx_rl_cr rA
      split at hp
      · rename_i o c n2 hc
        obtain ⟨h1, hp⟩ := sx_ifs hp
        rw [Bool.or_eq_true] at h1
        split at hp
        · rename_i ix hix
          obtain ⟨q1, q2, q3⟩ := sx_ix_ok hB hix rj
          split at hp
          · rename_i v hv
            cases hp
            refine ⟨.inl (H.2.1 p j.toNat) :: t1, H, ?_, ⟨sx_rdI_ok hB hh hv q3, r1⟩, hh⟩
            unfold am_hp
            dsimp only
            rw [(hk hK hc).1]
            dsimp only
            rw [if_pos ⟨h1.imp Nat.eq_of_beq_eq_true Nat.eq_of_beq_eq_true, q1, q2⟩]
          · cases hp
        · cases hp
      · cases hp
    · cases hp
  · split at hp
    · rename_i v x p r0
      obtain ⟨y, t00, rfl, rx, rB⟩ := sx_rl_ci r
      obtain ⟨j, t0, rfl, rj, rA⟩ := sx_rl_ci rB
      obtain ⟨t1, rfl, r1⟩ := sx_rl_cr rA
      split at hp
      · rename_i o c n2 hc
        obtain ⟨h1, hp⟩ := sx_ifs hp
        rw [Bool.and_eq_true, Nat.blt_eq] at h1
        split at hp
        · rename_i ix hix
          obtain ⟨q1, q2, q3⟩ := sx_ix_ok hB hix rj
          split at hp
          · rename_i h3 hw
            cases hp
            refine ⟨t1, _, ?_, r1, sx_wrI_ok hB hh h1.2 rx hw q3⟩
            unfold am_hp
            dsimp only
            rw [(hk hK hc).1]
            dsimp only
            rw [if_pos ⟨⟨Nat.eq_of_beq_eq_true h1.1, h1.2⟩, q1, q2⟩]
          · cases hp
        · cases hp
      · cases hp
    · cases hp
  · split at hp
    · rename_i v x p r0
      obtain ⟨y, t00, rfl, rx, rB⟩ := sx_rl_cl r
      obtain ⟨j, t0, rfl, rj, rA⟩ := sx_rl_ci rB
      obtain ⟨t1, rfl, r1⟩ := sx_rl_cr rA
      split at hp
      · rename_i o c n2 hc
        obtain ⟨h1, hp⟩ := sx_ifs hp
        rw [Bool.and_eq_true, Nat.blt_eq] at h1
        split at hp
        · rename_i ix hix
          obtain ⟨q1, q2, q3⟩ := sx_ix_ok hB hix rj
          split at hp
          · rename_i h3 hw
            cases hp
            refine ⟨t1, _, ?_, r1, sx_wrJ_ok hB hh rx hw q3⟩
            unfold am_hp
            dsimp only
            rw [(hk hK hc).1]
            dsimp only
            rw [if_pos ⟨⟨Nat.eq_of_beq_eq_true h1.1, h1.2⟩, q1, q2⟩]
          · cases hp
        · cases hp
      · cases hp
    · cases hp
  · split at hp
    · rename_i v x p r0
      obtain ⟨y, t00, rfl, rx, rB⟩ := sx_rl_ci r
      obtain ⟨j, t0, rfl, rj, rA⟩ := sx_rl_ci rB
      obtain ⟨t1, rfl, r1⟩ := sx_rl_cr rA
      split at hp
      · rename_i o c n2 hc
        obtain ⟨h1, hp⟩ := sx_ifs hp
        rw [Bool.and_eq_true, Bool.or_eq_true, Bool.and_eq_true, Bool.and_eq_true, Nat.blt_eq] at h1
        split at hp
        · rename_i ix hix
          obtain ⟨q1, q2, q3⟩ := sx_ix_ok hB hix rj
          split at hp
          · rename_i h3 hw
            cases hp
            refine ⟨t1, _, ?_, r1, sx_wrI_ok hB hh h1.1 rx hw q3⟩
            unfold am_hp
            dsimp only
            rw [(hk hK hc).1]
            dsimp only
            rw [if_pos ⟨⟨h1.1, h1.2.imp (fun w => ⟨Nat.eq_of_beq_eq_true w.1, sx_byte_ok w.2 rx⟩) (fun w => ⟨Nat.eq_of_beq_eq_true w.1, sx_bool_ok w.2 rx⟩)⟩, q1, q2⟩]
          · cases hp
        · cases hp
      · cases hp
    · cases hp
  · split at hp
    · rename_i p r0
      obtain ⟨t1, rfl, r1⟩ := sx_rl_cr r
      split at hp
      · rename_i o c n2 hc
        obtain ⟨h1, hp⟩ := sx_ifs hp
        cases hp
        refine ⟨.inl (n2 : Int) :: t1, H, ?_, ⟨(show sx_rn e (.inl (n2 : Int)) (n2 : Int) from rfl), r1⟩, hh⟩
        unfold am_hp
        dsimp only
        rw [(hk hK hc).1]
        dsimp only
        rw [if_pos (Nat.le_of_ble_eq_true h1)]
      · cases hp
    · cases hp
  · rcases sx_ifb hp with ⟨h1, hp⟩ | ⟨h1, hp⟩
    · obtain ⟨h2, hp⟩ := sx_ifs hp
      cases hp
      simp only [Bool.and_eq_true, sx_le_iff, sx_lt_iff] at h2
      exact ⟨.inl z :: t, H, (if_pos (Nat.eq_of_beq_eq_true h1)).trans (if_pos h2), ⟨(show sx_rn e (.inl z) z from rfl), r⟩, hh⟩
    · cases hp
      exact ⟨.inr (.inr (am_SP + a)) :: t, H, if_neg (fun w => by rw [w] at h1; cases h1), ⟨(show am_SP + a = am_SP + a from rfl), r⟩, hh⟩
  · obtain ⟨h2, hp⟩ := sx_ifs hp
    cases hp
    simp only [Bool.and_eq_true, sx_le_iff, sx_lt_iff] at h2
    exact ⟨.inl z :: t, H, if_pos h2, ⟨(show sx_rn e (.inl z) z from rfl), r⟩, hh⟩
  · obtain ⟨h2, hp⟩ := sx_ifs hp
    cases hp
    simp only [Bool.and_eq_true, sx_le_iff, sx_lt_iff] at h2
    exact ⟨.inr (.inl z) :: t, H, if_pos h2, ⟨(show sx_rn e (.inl z) z from rfl), r⟩, hh⟩
  · rcases sx_ifb hp with ⟨h1, hp⟩ | ⟨h1, hp⟩
    · cases hp
      exact ⟨.inl 1 :: t, H, if_pos (Nat.eq_of_beq_eq_true h1), ⟨(show sx_rn e (.inl 1) 1 from rfl), r⟩, hh⟩
    · cases hp
      exact ⟨.inr (.inr (am_SP + a)) :: t, H, if_neg (fun w => by rw [w] at h1; cases h1), ⟨(show am_SP + a = am_SP + a from rfl), r⟩, hh⟩
  · cases hp
end SXP
end
