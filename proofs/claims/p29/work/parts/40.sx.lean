/-! THE SYMBOLIC MACHINE: the abstract machine over values that are known, or sums of known multiples of three unknowns, or not known at all; what it answers holds of every state that fits. What it runs over has its cells made already -/
abbrev sx_L : Type := Int × Int × Int × Int
abbrev sx_N : Type := Int ⊕ (Nat × sx_L × sx_L)
abbrev sx_V : Type := sx_N ⊕ (sx_N ⊕ Nat)
abbrev sx_E : Type := Int × Int × Int
abbrev sx_B : Type := (Int × Int) × (Int × Int) × (Int × Int)
def sx_inB (b : sx_B) (e : sx_E) : Prop := (b.1.1 ≤ e.1 ∧ e.1 ≤ b.1.2) ∧ (b.2.1.1 ≤ e.2.1 ∧ e.2.1 ≤ b.2.1.2) ∧ (b.2.2.1 ≤ e.2.2 ∧ e.2.2 ≤ b.2.2.2)
def sx_ev (e : sx_E) (l : sx_L) : Int := l.1 + l.2.1 * e.1 + l.2.2.1 * e.2.1 + l.2.2.2 * e.2.2
def sx_lt : Int → Int → Bool
  | .ofNat a, .ofNat b => Nat.blt a b
  | .negSucc _, .ofNat _ => true
  | .ofNat _, .negSucc _ => false
  | .negSucc a, .negSucc b => Nat.blt b a
def sx_le (a b : Int) : Bool := !(sx_lt b a)
def sx_eq : Int → Int → Bool
  | .ofNat a, .ofNat b => Nat.beq a b
  | .negSucc a, .negSucc b => Nat.beq a b
  | _, _ => false
theorem sx_lt_iff {a b : Int} : sx_lt a b = true ↔ a < b := by
  rcases a with a | a <;> rcases b with b | b
  · show Nat.blt a b = true ↔ _
    rw [Nat.blt_eq]
    exact Int.ofNat_lt.symm
  · refine ⟨fun h => (by cases h), fun h => ?_⟩
    have h1 : (0 : Int) ≤ Int.ofNat a := Int.natCast_nonneg a
    have h2 : Int.negSucc b < 0 := Int.negSucc_lt_zero b
    omega
  · refine ⟨fun _ => ?_, fun _ => rfl⟩
    have h1 : (0 : Int) ≤ Int.ofNat b := Int.natCast_nonneg b
    have h2 : Int.negSucc a < 0 := Int.negSucc_lt_zero a
    omega
  · show Nat.blt b a = true ↔ _
    rw [Nat.blt_eq, Int.negSucc_eq, Int.negSucc_eq]
    omega
theorem sx_lt_no {a b : Int} : sx_lt a b = false ↔ b ≤ a := by
  rw [← Bool.not_eq_true, sx_lt_iff]
  exact Int.not_lt
theorem sx_le_iff {a b : Int} : sx_le a b = true ↔ a ≤ b := by
  unfold sx_le
  rw [Bool.not_eq_true', sx_lt_no]
theorem sx_eq_iff {a b : Int} : sx_eq a b = true ↔ a = b := by
  rcases a with a | a <;> rcases b with b | b
  · show Nat.beq a b = true ↔ _
    rw [Nat.beq_eq]
    exact ⟨fun h => by rw [h], fun h => Int.ofNat.inj h⟩
  · exact ⟨fun h => (by cases h), fun h => (by cases h)⟩
  · exact ⟨fun h => (by cases h), fun h => (by cases h)⟩
  · show Nat.beq a b = true ↔ _
    rw [Nat.beq_eq]
    exact ⟨fun h => by rw [h], fun h => Int.negSucc.inj h⟩
theorem sx_eq_no {a b : Int} : sx_eq a b = false ↔ a ≠ b := by
  rw [← Bool.not_eq_true, Ne, sx_eq_iff]
def sx_lo1 (d : Int) (b : Int × Int) : Int := bif sx_lt d 0 then d * b.2 else d * b.1
def sx_hi1 (d : Int) (b : Int × Int) : Int := bif sx_lt d 0 then d * b.1 else d * b.2
def sx_lo (B : sx_B) (l : sx_L) : Int := l.1 + sx_lo1 l.2.1 B.1 + sx_lo1 l.2.2.1 B.2.1 + sx_lo1 l.2.2.2 B.2.2
def sx_hi (B : sx_B) (l : sx_L) : Int := l.1 + sx_hi1 l.2.1 B.1 + sx_hi1 l.2.2.1 B.2.1 + sx_hi1 l.2.2.2 B.2.2
theorem sx_in1 {d v : Int} {b : Int × Int} (h1 : b.1 ≤ v) (h2 : v ≤ b.2) : sx_lo1 d b ≤ d * v ∧ d * v ≤ sx_hi1 d b := by
  unfold sx_lo1 sx_hi1
  cases h : sx_lt d 0 with
  | true =>
    have hd := Int.le_of_lt (sx_lt_iff.mp h)
    exact ⟨Int.mul_le_mul_of_nonpos_left hd h2, Int.mul_le_mul_of_nonpos_left hd h1⟩
  | false =>
    have hd := sx_lt_no.mp h
    exact ⟨Int.mul_le_mul_of_nonneg_left h1 hd, Int.mul_le_mul_of_nonneg_left h2 hd⟩
theorem sx_in {B : sx_B} {e : sx_E} (h : sx_inB B e) (l : sx_L) : sx_lo B l ≤ sx_ev e l ∧ sx_ev e l ≤ sx_hi B l := by
  obtain ⟨⟨h1, h2⟩, ⟨h3, h4⟩, h5, h6⟩ := h
  have a1 := sx_in1 (d := l.2.1) h1 h2
  have a2 := sx_in1 (d := l.2.2.1) h3 h4
  have a3 := sx_in1 (d := l.2.2.2) h5 h6
  unfold sx_lo sx_hi sx_ev
  omega
def sx_ladd (l m : sx_L) : sx_L := (l.1 + m.1, l.2.1 + m.2.1, l.2.2.1 + m.2.2.1, l.2.2.2 + m.2.2.2)
def sx_lsub (l m : sx_L) : sx_L := (l.1 - m.1, l.2.1 - m.2.1, l.2.2.1 - m.2.2.1, l.2.2.2 - m.2.2.2)
def sx_lsc (c : Int) (l : sx_L) : sx_L := (c * l.1, c * l.2.1, c * l.2.2.1, c * l.2.2.2)
theorem sx_ev_add (e : sx_E) (l m : sx_L) : sx_ev e (sx_ladd l m) = sx_ev e l + sx_ev e m := by
  unfold sx_ev sx_ladd
  simp only [Int.add_mul]
  omega
theorem sx_ev_sub (e : sx_E) (l m : sx_L) : sx_ev e (sx_lsub l m) = sx_ev e l - sx_ev e m := by
  unfold sx_ev sx_lsub
  simp only [Int.sub_mul]
  omega
theorem sx_ev_sc (e : sx_E) (c : Int) (l : sx_L) : sx_ev e (sx_lsc c l) = c * sx_ev e l := by
  unfold sx_ev sx_lsc
  simp only [Int.mul_add, Int.mul_assoc]
def sx_cst (c : Int) : sx_L := (c, 0, 0, 0)
theorem sx_ev_cst (e : sx_E) (c : Int) : sx_ev e (sx_cst c) = c := by
  unfold sx_ev sx_cst
  simp only [Int.zero_mul, Int.add_zero]
def sx_lin : sx_N → Option sx_L
  | .inl c => some (sx_cst c)
  | .inr (t, l, _) => match t with
    | 0 => some l
    | _ => none
def sx_mk (l : sx_L) : sx_N := bif sx_eq l.2.1 0 && (sx_eq l.2.2.1 0 && sx_eq l.2.2.2 0) then .inl l.1 else .inr (0, l, (0, 0, 0, 0))
def sx_any : sx_N := .inr (3, (0, 0, 0, 0), (0, 0, 0, 0))
def sx_nn : sx_N := .inr (2, (0, 0, 0, 0), (0, 0, 0, 0))
def sx_fit (B : sx_B) (H : Int) (l : sx_L) : sx_N := bif sx_le (-H) (sx_lo B l) && sx_lt (sx_hi B l) H then sx_mk l else sx_any
/-- what a value may be -/
def sx_rn (e : sx_E) : sx_N → Int → Prop
  | .inl c, v => v = c
  | .inr (t, l, m), v => match t with
    | 0 => v = sx_ev e l
    | 1 => (-9223372036854775808 ≤ sx_ev e l ∧ sx_ev e l < 9223372036854775808) ∧ (-9223372036854775808 ≤ sx_ev e m ∧ sx_ev e m < 9223372036854775808) ∧ v = (Int64.ofInt (sx_ev e l) ^^^ Int64.ofInt (sx_ev e m)).toInt
    | 2 => 0 ≤ v
    | _ => True
theorem sx_rn_any {e : sx_E} {v : Int} : sx_rn e sx_any v := trivial
theorem sx_rn_mk {e : sx_E} {l : sx_L} : sx_rn e (sx_mk l) (sx_ev e l) := by
  unfold sx_mk
  cases h : (sx_eq l.2.1 0 && (sx_eq l.2.2.1 0 && sx_eq l.2.2.2 0)) with
  | false => exact rfl
  | true =>
    simp only [Bool.and_eq_true, sx_eq_iff] at h
    obtain ⟨h1, h2, h3⟩ := h
    show sx_ev e l = l.1
    unfold sx_ev
    rw [h1, h2, h3]
    simp only [Int.zero_mul, Int.add_zero]
theorem sx_lin_ok {e : sx_E} {x : sx_N} {l : sx_L} {v : Int} (h : sx_lin x = some l) (r : sx_rn e x v) : v = sx_ev e l := by
  rcases x with c | ⟨t, l', m⟩
  · cases h
    rw [sx_ev_cst]
    exact r
  · cases t with
    | zero =>
      have h : some l' = some l := h
      cases h
      exact r
    | succ t =>
      have h : (none : Option sx_L) = some l := h
      cases h
theorem sx_fit_ok {B : sx_B} {e : sx_E} (hB : sx_inB B e) {H : Int} {l : sx_L} {f : Int → Int} (hf : ∀ z, -H ≤ z → z < H → f z = z) : sx_rn e (sx_fit B H l) (f (sx_ev e l)) := by
  unfold sx_fit
  cases h : (sx_le (-H) (sx_lo B l) && sx_lt (sx_hi B l) H) with
  | false => exact sx_rn_any
  | true =>
    simp only [Bool.and_eq_true, sx_le_iff, sx_lt_iff] at h
    have a := sx_in hB l
    rw [hf _ (by omega) (by omega)]
    exact sx_rn_mk
/-- a number within its bounds is left as it is -/
def sx_wr (f : Int → Int) (M : Nat) (z : Int) : Int := match z with
  | .ofNat n => bif Nat.blt n M then .ofNat n else f (.ofNat n)
  | .negSucc n => bif Nat.blt n M then .negSucc n else f (.negSucc n)
theorem sx_wr_eq {f : Int → Int} {M : Nat} (hf : ∀ z : Int, -(M : Int) ≤ z → z < (M : Int) → f z = z) (z : Int) : sx_wr f M z = f z := by
  rcases z with n | n
  · show (bif Nat.blt n M then Int.ofNat n else f (Int.ofNat n)) = f (Int.ofNat n)
    cases h : Nat.blt n M with
    | false => rfl
    | true =>
      rw [Nat.blt_eq] at h
      refine (hf (Int.ofNat n) ?_ ?_).symm
      · show -(M : Int) ≤ (n : Int)
        omega
      · show (n : Int) < (M : Int)
        omega
  · show (bif Nat.blt n M then Int.negSucc n else f (Int.negSucc n)) = f (Int.negSucc n)
    cases h : Nat.blt n M with
    | false => rfl
    | true =>
      rw [Nat.blt_eq] at h
      have e1 : Int.negSucc n = -((n : Int) + 1) := Int.negSucc_eq n
      refine (hf (Int.negSucc n) ?_ ?_).symm
      · rw [e1]
        omega
      · rw [e1]
        omega
def sx_w32 (z : Int) : Int := sx_wr am_w32 2147483648 z
def sx_w64 (z : Int) : Int := sx_wr am_w64 9223372036854775808 z
theorem sx_w32_eq (z : Int) : sx_w32 z = am_w32 z := sx_wr_eq (fun _ h1 h2 => am_w32_id h1 h2) z
theorem sx_w64_eq (z : Int) : sx_w64 z = am_w64 z := sx_wr_eq (fun _ h1 h2 => am_w64_id h1 h2) z
/-! two numbers make one -/
def sx_k2 (f : Int → Int → Int) (g : sx_N → sx_N → sx_N) (x y : sx_N) : sx_N := match x, y with
  | .inl a, .inl b => .inl (f a b)
  | x, y => g x y
theorem sx_k2_ok {e : sx_E} {f f' : Int → Int → Int} {g : sx_N → sx_N → sx_N} (hf : ∀ a b, f a b = f' a b) (hg : ∀ x y a b, sx_rn e x a → sx_rn e y b → sx_rn e (g x y) (f' a b)) {x y : sx_N} {a b : Int} (h1 : sx_rn e x a) (h2 : sx_rn e y b) : sx_rn e (sx_k2 f g x y) (f' a b) := by
  unfold sx_k2
  split
  · cases h1; cases h2
    exact (hf _ _).symm
  · exact hg _ _ _ _ h1 h2
def sx_g0 (_ _ : sx_N) : sx_N := sx_any
def sx_gop (B : sx_B) (H : Int) (op : sx_L → sx_L → sx_L) (x y : sx_N) : sx_N := match sx_lin x, sx_lin y with
  | some l, some m => sx_fit B H (op l m)
  | _, _ => sx_any
def sx_gmul (B : sx_B) (H : Int) (x y : sx_N) : sx_N := match x, y with
  | .inl a, y => (match sx_lin y with
    | some m => sx_fit B H (sx_lsc a m)
    | none => sx_any)
  | x, .inl b => (match sx_lin x with
    | some l => sx_fit B H (sx_lsc b l)
    | none => sx_any)
  | _, _ => sx_any
theorem sx_gop_ok {B : sx_B} {e : sx_E} (hB : sx_inB B e) {H : Int} {w : Int → Int} (hw : ∀ z, -H ≤ z → z < H → w z = z) {op : sx_L → sx_L → sx_L} {f : Int → Int → Int} (ho : ∀ l m, sx_ev e (op l m) = f (sx_ev e l) (sx_ev e m)) (x y : sx_N) (a b : Int) (h1 : sx_rn e x a) (h2 : sx_rn e y b) : sx_rn e (sx_gop B H op x y) (w (f a b)) := by
  unfold sx_gop
  split
  · rename_i l m hl hm
    rw [sx_lin_ok hl h1, sx_lin_ok hm h2, ← ho]
    exact sx_fit_ok hB hw
  · exact sx_rn_any
theorem sx_gmul_ok {B : sx_B} {e : sx_E} (hB : sx_inB B e) {H : Int} {w : Int → Int} (hw : ∀ z, -H ≤ z → z < H → w z = z) (x y : sx_N) (a b : Int) (h1 : sx_rn e x a) (h2 : sx_rn e y b) : sx_rn e (sx_gmul B H x y) (w (a * b)) := by
  unfold sx_gmul
  split
  · cases h1
    split
    · rename_i m hm
      rw [sx_lin_ok hm h2, ← sx_ev_sc]
      exact sx_fit_ok hB hw
    · exact sx_rn_any
  · cases h2
    split
    · rename_i l hl
      rw [sx_lin_ok hl h1, Int.mul_comm, ← sx_ev_sc]
      exact sx_fit_ok hB hw
    · exact sx_rn_any
  · exact sx_rn_any
def sx_i64 (B : sx_B) (l : sx_L) : Bool := sx_le (-9223372036854775808) (sx_lo B l) && sx_lt (sx_hi B l) 9223372036854775808
theorem sx_i64_ok {B : sx_B} {e : sx_E} (hB : sx_inB B e) {l : sx_L} (h : sx_i64 B l = true) : -9223372036854775808 ≤ sx_ev e l ∧ sx_ev e l < 9223372036854775808 := by
  unfold sx_i64 at h
  simp only [Bool.and_eq_true, sx_le_iff, sx_lt_iff] at h
  have a := sx_in hB l
  omega
def sx_gxor (B : sx_B) (x y : sx_N) : sx_N := match sx_lin x, sx_lin y with
  | some l, some m => bif sx_i64 B l && sx_i64 B m then .inr (1, l, m) else sx_any
  | _, _ => sx_any
theorem sx_gxor_ok {B : sx_B} {e : sx_E} (hB : sx_inB B e) (x y : sx_N) (a b : Int) (h1 : sx_rn e x a) (h2 : sx_rn e y b) : sx_rn e (sx_gxor B x y) (Int64.ofInt a ^^^ Int64.ofInt b).toInt := by
  unfold sx_gxor
  split
  · rename_i l m hl hm
    cases h : (sx_i64 B l && sx_i64 B m) with
    | false => exact sx_rn_any
    | true =>
      rw [Bool.and_eq_true] at h
      rw [sx_lin_ok hl h1, sx_lin_ok hm h2]
      exact ⟨sx_i64_ok hB h.1, sx_i64_ok hB h.2, rfl⟩
  · exact sx_rn_any
def sx_leq (l m : sx_L) : Bool := sx_eq l.1 m.1 && (sx_eq l.2.1 m.2.1 && (sx_eq l.2.2.1 m.2.2.1 && sx_eq l.2.2.2 m.2.2.2))
theorem sx_leq_ok {l m : sx_L} (h : sx_leq l m = true) : l = m := by
  unfold sx_leq at h
  simp only [Bool.and_eq_true, sx_eq_iff] at h
  obtain ⟨a, b, c, d⟩ := l
  obtain ⟨a', b', c', d'⟩ := m
  obtain ⟨h1, h2, h3, h4⟩ := h
  dsimp only at h1 h2 h3 h4
  rw [h1, h2, h3, h4]
/-- the sum's signs: of two numbers whose sum fits, not both differ in sign from it -/
def sx_gand (x y : sx_N) : sx_N := match x, y with
  | .inr (t, l, m), .inr (u, p, q) => bif Nat.beq t 1 && (Nat.beq u 1 && (sx_leq m q && sx_leq m (sx_ladd l p))) then sx_nn else sx_any
  | _, _ => sx_any
theorem sx_i64n {a : Int} (h : -9223372036854775808 ≤ a ∧ a < 9223372036854775808) : (Int64.ofInt a).toInt = a := by
  rw [Int64.toInt_ofInt]
  have := am_w64_bmod a
  rw [show Int64.size = 18446744073709551616 from rfl, ← this]
  exact am_w64_id h.1 h.2
theorem sx_xor_neg (a b : Int64) : ((a ^^^ b).toInt < 0) ↔ ¬ ((a.toInt < 0) ↔ (b.toInt < 0)) := by
  have h : ∀ z : Int64, (z.toInt < 0) ↔ z.toBitVec.msb = true := fun z => by
    rw [BitVec.msb_eq_toInt, decide_eq_true_iff]; exact Iff.rfl
  rw [h, h, h, Int64.toBitVec_xor, BitVec.msb_xor]
  cases a.toBitVec.msb <;> cases b.toBitVec.msb <;> simp
theorem sx_and_neg (a b : Int64) : ((a &&& b).toInt < 0) ↔ ((a.toInt < 0) ∧ (b.toInt < 0)) := by
  have h : ∀ z : Int64, (z.toInt < 0) ↔ z.toBitVec.msb = true := fun z => by
    rw [BitVec.msb_eq_toInt, decide_eq_true_iff]; exact Iff.rfl
  rw [h, h, h, Int64.toBitVec_and, BitVec.msb_and]
  cases a.toBitVec.msb <;> cases b.toBitVec.msb <;> simp
theorem sx_nn64 {a b s : Int} (ha : -9223372036854775808 ≤ a ∧ a < 9223372036854775808) (hb : -9223372036854775808 ≤ b ∧ b < 9223372036854775808) (hs : -9223372036854775808 ≤ s ∧ s < 9223372036854775808) (h : s = a + b) :
    0 ≤ (Int64.ofInt ((Int64.ofInt a ^^^ Int64.ofInt s).toInt) &&& Int64.ofInt ((Int64.ofInt b ^^^ Int64.ofInt s).toInt)).toInt := by
  rw [Int64.ofInt_toInt, Int64.ofInt_toInt]
  refine Int.not_lt.mp ?_
  rw [sx_and_neg, sx_xor_neg, sx_xor_neg, sx_i64n ha, sx_i64n hb, sx_i64n hs]
  subst h
  omega
theorem sx_gand_ok {e : sx_E} (x y : sx_N) (a b : Int) (h1 : sx_rn e x a) (h2 : sx_rn e y b) : sx_rn e (sx_gand x y) (Int64.ofInt a &&& Int64.ofInt b).toInt := by
  unfold sx_gand
  split
  · rename_i t l m u p q
    cases h : (Nat.beq t 1 && (Nat.beq u 1 && (sx_leq m q && sx_leq m (sx_ladd l p)))) with
    | false => exact sx_rn_any
    | true =>
      simp only [Bool.and_eq_true, Nat.beq_eq] at h
      obtain ⟨rfl, rfl, h3, h4⟩ := h
      have h5 := sx_leq_ok h3
      have h6 := sx_leq_ok h4
      subst h5
      obtain ⟨a1, a2, rfl⟩ := h1
      obtain ⟨b1, -, rfl⟩ := h2
      exact sx_nn64 a1 b1 a2 (by rw [← sx_ev_add, ← h6])
  · exact sx_rn_any
/-- lcmp's answer -/
def sx_gcmp (B : sx_B) (x y : sx_N) : sx_N := match sx_lin x, sx_lin y with
  | some l, some m => (match sx_lsub l m with
    | d => bif sx_lt (sx_hi B d) 0 then .inl (-1) else bif sx_lt 0 (sx_lo B d) then .inl 1 else bif sx_eq (sx_lo B d) 0 && sx_eq (sx_hi B d) 0 then .inl 0 else bif sx_le 0 (sx_lo B d) then sx_nn else sx_any)
  | _, _ => (match x, y with
    | .inr (t, _, _), .inl z => bif Nat.beq t 2 && sx_eq z 0 then sx_nn else sx_any
    | _, _ => sx_any)
def sx_lsg (a b : Int) : Int := bif sx_lt b a then 1 else bif sx_eq a b then 0 else -1
theorem sx_lsg_eq (a b : Int) : sx_lsg a b = am_lsign a b := by
  unfold sx_lsg am_lsign
  cases h : sx_lt b a with
  | true => rw [if_pos (sx_lt_iff.mp h)]; rfl
  | false =>
    rw [if_neg (Int.not_lt.mpr (sx_lt_no.mp h))]
    cases h2 : sx_eq a b with
    | true => rw [if_pos (sx_eq_iff.mp h2)]; rfl
    | false => rw [if_neg (sx_eq_no.mp h2)]; rfl
theorem sx_gcmp_ok {B : sx_B} {e : sx_E} (hB : sx_inB B e) (x y : sx_N) (a b : Int) (h1 : sx_rn e x a) (h2 : sx_rn e y b) : sx_rn e (sx_gcmp B x y) (am_lsign a b) := by
  unfold sx_gcmp
  split
  · rename_i l m hl hm
    have k1 := sx_lin_ok hl h1
    have k2 := sx_lin_ok hm h2
    have k3 := sx_ev_sub e l m
    have k4 := sx_in hB (sx_lsub l m)
    dsimp only
    unfold am_lsign
    cases q1 : sx_lt (sx_hi B (sx_lsub l m)) 0 with
    | true =>
      have := sx_lt_iff.mp q1
      rw [if_neg (by omega), if_neg (by omega)]
      exact rfl
    | false =>
      cases q2 : sx_lt 0 (sx_lo B (sx_lsub l m)) with
      | true =>
        have := sx_lt_iff.mp q2
        rw [if_pos (by omega)]
        exact rfl
      | false =>
        cases q3 : (sx_eq (sx_lo B (sx_lsub l m)) 0 && sx_eq (sx_hi B (sx_lsub l m)) 0) with
        | true =>
          simp only [Bool.and_eq_true, sx_eq_iff] at q3
          rw [if_neg (by omega), if_pos (by omega)]
          exact rfl
        | false =>
          cases q4 : sx_le 0 (sx_lo B (sx_lsub l m)) with
          | true =>
            rw [sx_le_iff] at q4
            show (0 : Int) ≤ (if b < a then 1 else if a = b then 0 else -1)
            split
            · omega
            · rw [if_pos (by omega)]
              omega
          | false => exact sx_rn_any
  · split
    · rename_i t l m z hx
      cases q : (Nat.beq t 2 && sx_eq z 0) with
      | false => exact sx_rn_any
      | true =>
        simp only [Bool.and_eq_true, Nat.beq_eq, sx_eq_iff] at q
        obtain ⟨rfl, rfl⟩ := q
        cases h2
        have h3 : 0 ≤ a := h1
        show 0 ≤ am_lsign a 0
        unfold am_lsign
        split
        · omega
        · rw [if_pos (by omega)]
          omega
    · exact sx_rn_any
/-- a branch, where it is clear -/
def sx_cmp (B : sx_B) (c : ClassFile.Cond) (x y : sx_N) : Option Bool := match sx_lin x, sx_lin y with
  | some l, some m => (match sx_lsub l m with
    | d => (match c with
      | .eq => bif sx_eq (sx_lo B d) 0 && sx_eq (sx_hi B d) 0 then some true else bif sx_lt (sx_hi B d) 0 || sx_lt 0 (sx_lo B d) then some false else none
      | .ne => bif sx_eq (sx_lo B d) 0 && sx_eq (sx_hi B d) 0 then some false else bif sx_lt (sx_hi B d) 0 || sx_lt 0 (sx_lo B d) then some true else none
      | .lt => bif sx_lt (sx_hi B d) 0 then some true else bif sx_le 0 (sx_lo B d) then some false else none
      | .ge => bif sx_lt (sx_hi B d) 0 then some false else bif sx_le 0 (sx_lo B d) then some true else none
      | .gt => bif sx_lt 0 (sx_lo B d) then some true else bif sx_le (sx_hi B d) 0 then some false else none
      | .le => bif sx_lt 0 (sx_lo B d) then some false else bif sx_le (sx_hi B d) 0 then some true else none))
  | _, _ => (match x, y, c with
    | .inr (t, _, _), .inl z, .lt => bif Nat.beq t 2 && sx_eq z 0 then some false else none
    | .inr (t, _, _), .inl z, .ge => bif Nat.beq t 2 && sx_eq z 0 then some true else none
    | _, _, _ => none)
def sx_kcmp (c : ClassFile.Cond) (x y : Int) : Bool := match c with
  | .eq => sx_eq x y
  | .ne => !(sx_eq x y)
  | .lt => sx_lt x y
  | .ge => !(sx_lt x y)
  | .gt => sx_lt y x
  | .le => !(sx_lt y x)
def sx_br (B : sx_B) (c : ClassFile.Cond) (x y : sx_N) : Option Bool := match x, y with
  | .inl a, .inl b => some (sx_kcmp c a b)
  | x, y => sx_cmp B c x y
theorem sx_dlt (a b : Int) : decide (a < b) = sx_lt a b := by
  cases h : sx_lt a b with
  | true => exact decide_eq_true (sx_lt_iff.mp h)
  | false => exact decide_eq_false (Int.not_lt.mpr (sx_lt_no.mp h))
theorem sx_deq (a b : Int) : decide (a = b) = sx_eq a b := by
  cases h : sx_eq a b with
  | true => exact decide_eq_true (sx_eq_iff.mp h)
  | false => exact decide_eq_false (sx_eq_no.mp h)
theorem sx_kcmp_eq (c : ClassFile.Cond) (x y : Int) : am_cmp c x y = sx_kcmp c x y := by
  cases c <;> (unfold am_cmp sx_kcmp; dsimp only; first | rw [sx_dlt] | rw [sx_deq])
theorem sx_br_ok {B : sx_B} {e : sx_E} (hB : sx_inB B e) {c : ClassFile.Cond} {x y : sx_N} {a b : Int} {r : Bool} (h : sx_br B c x y = some r) (h1 : sx_rn e x a) (h2 : sx_rn e y b) : am_cmp c a b = r := by
  rw [sx_kcmp_eq]
  unfold sx_br at h
  split at h
  · cases h1; cases h2; cases h; rfl
  · unfold sx_cmp at h
    split at h
    · rename_i l m hl hm
      have k1 := sx_lin_ok hl h1
      have k2 := sx_lin_ok hm h2
      have k3 := sx_ev_sub e l m
      have k4 := sx_in hB (sx_lsub l m)
      clear hl hm h1 h2
      dsimp only at h
      generalize sx_lo B (sx_lsub l m) = lo at h k4
      generalize sx_hi B (sx_lsub l m) = hi at h k4
      generalize sx_ev e (sx_lsub l m) = d at k3 k4
      generalize sx_ev e l = u at k1 k3
      generalize sx_ev e m = v at k2 k3
      subst k1 k2
      have ifb : ∀ {p : Bool} {s t : Option Bool}, (bif p then s else t) = some r → (p = true ∧ s = some r) ∨ (p = false ∧ t = some r) := by
        intro p s t q
        cases p
        · exact Or.inr ⟨rfl, q⟩
        · exact Or.inl ⟨rfl, q⟩
      cases c <;> dsimp only at h <;> unfold sx_kcmp <;> dsimp only <;> rcases ifb h with ⟨q1, q2⟩ | ⟨q1, q2⟩
      · cases q2
        simp only [Bool.and_eq_true, sx_eq_iff] at q1
        exact sx_eq_iff.mpr (by omega)
      · rcases ifb q2 with ⟨q3, q4⟩ | ⟨q3, q4⟩
        · cases q4
          simp only [Bool.or_eq_true, sx_lt_iff] at q3
          exact sx_eq_no.mpr (by omega)
        · cases q4
      · cases q2
        simp only [Bool.and_eq_true, sx_eq_iff] at q1
        rw [Bool.not_eq_false', sx_eq_iff]
        omega
      · rcases ifb q2 with ⟨q3, q4⟩ | ⟨q3, q4⟩
        · cases q4
          simp only [Bool.or_eq_true, sx_lt_iff] at q3
          rw [Bool.not_eq_true', sx_eq_no]
          omega
        · cases q4
      · cases q2
        rw [sx_lt_iff] at q1 ⊢
        omega
      · rcases ifb q2 with ⟨q3, q4⟩ | ⟨q3, q4⟩
        · cases q4
          rw [sx_le_iff] at q3
          rw [sx_lt_no]
          omega
        · cases q4
      · cases q2
        rw [sx_lt_iff] at q1
        rw [Bool.not_eq_false', sx_lt_iff]
        omega
      · rcases ifb q2 with ⟨q3, q4⟩ | ⟨q3, q4⟩
        · cases q4
          rw [sx_le_iff] at q3
          rw [Bool.not_eq_true', sx_lt_no]
          omega
        · cases q4
      · cases q2
        rw [sx_lt_iff] at q1 ⊢
        omega
      · rcases ifb q2 with ⟨q3, q4⟩ | ⟨q3, q4⟩
        · cases q4
          rw [sx_le_iff] at q3
          rw [sx_lt_no]
          omega
        · cases q4
      · cases q2
        rw [sx_lt_iff] at q1
        rw [Bool.not_eq_false', sx_lt_iff]
        omega
      · rcases ifb q2 with ⟨q3, q4⟩ | ⟨q3, q4⟩
        · cases q4
          rw [sx_le_iff] at q3
          rw [Bool.not_eq_true', sx_lt_no]
          omega
        · cases q4
    · split at h
      · rename_i t l m z hx hy
        cases q : (Nat.beq t 2 && sx_eq z 0) with
        | false => rw [q] at h; cases h
        | true =>
          rw [q] at h
          cases h
          simp only [Bool.and_eq_true, Nat.beq_eq, sx_eq_iff] at q
          obtain ⟨rfl, rfl⟩ := q
          cases h2
          have h3 : 0 ≤ a := h1
          exact sx_lt_no.mpr h3
      · rename_i t l m z hx hy
        cases q : (Nat.beq t 2 && sx_eq z 0) with
        | false => rw [q] at h; cases h
        | true =>
          rw [q] at h
          cases h
          simp only [Bool.and_eq_true, Nat.beq_eq, sx_eq_iff] at q
          obtain ⟨rfl, rfl⟩ := q
          cases h2
          have h3 : 0 ≤ a := h1
          show (!(sx_lt a 0)) = true
          rw [Bool.not_eq_true']
          exact sx_lt_no.mpr h3
      · cases h
