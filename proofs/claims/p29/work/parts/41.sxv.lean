/-! values, stacks and locals that fit -/
def sx_rv (e : sx_E) : sx_V → am_V → Prop
  | .inl x, .inl a => sx_rn e x a
  | .inr (.inl x), .inr (.inl a) => sx_rn e x a
  | .inr (.inr p), .inr (.inr q) => q = p
  | _, _ => False
def sx_rl (e : sx_E) : List sx_V → List am_V → Prop
  | [], [] => True
  | v :: r, w :: s => sx_rv e v w ∧ sx_rl e r s
  | _, _ => False
def sx_cat : sx_V → Nat
  | .inr (.inl _) => 2
  | _ => 1
section SXV
variable {e : sx_E}
theorem sx_rv_i {x : sx_N} {w : am_V} (h : sx_rv e (.inl x) w) : ∃ a, w = .inl a ∧ sx_rn e x a := by
  rcases w with a | a | a
  · exact ⟨a, rfl, h⟩
  · exact False.elim h
  · exact False.elim h
theorem sx_rv_l {x : sx_N} {w : am_V} (h : sx_rv e (.inr (.inl x)) w) : ∃ a, w = .inr (.inl a) ∧ sx_rn e x a := by
  rcases w with a | a | a
  · exact False.elim h
  · exact ⟨a, rfl, h⟩
  · exact False.elim h
theorem sx_rv_r {p : Nat} {w : am_V} (h : sx_rv e (.inr (.inr p)) w) : w = .inr (.inr p) := by
  rcases w with a | a | a
  · exact False.elim h
  · exact False.elim h
  · have h2 : a = p := h
    rw [h2]
theorem sx_rv_cat {v : sx_V} {w : am_V} (h : sx_rv e v w) : am_cat w = sx_cat v := by
  rcases v with x | x | p
  · obtain ⟨a, rfl, -⟩ := sx_rv_i h; rfl
  · obtain ⟨a, rfl, -⟩ := sx_rv_l h; rfl
  · rw [sx_rv_r h]; rfl
theorem sx_rl_nil {t : List am_V} (h : sx_rl e [] t) : t = [] := by
  cases t with
  | nil => rfl
  | cons a r => exact False.elim h
theorem sx_rl_cons {v : sx_V} {r : List sx_V} {t : List am_V} (h : sx_rl e (v :: r) t) : ∃ w s, t = w :: s ∧ sx_rv e v w ∧ sx_rl e r s := by
  cases t with
  | nil => exact False.elim h
  | cons a s => exact ⟨a, s, rfl, h.1, h.2⟩
theorem sx_rl_ci {x : sx_N} {r : List sx_V} {t : List am_V} (h : sx_rl e (.inl x :: r) t) : ∃ a s, t = .inl a :: s ∧ sx_rn e x a ∧ sx_rl e r s := by
  obtain ⟨w, s, rfl, h1, h2⟩ := sx_rl_cons h
  obtain ⟨a, rfl, h3⟩ := sx_rv_i h1
  exact ⟨a, s, rfl, h3, h2⟩
theorem sx_rl_cl {x : sx_N} {r : List sx_V} {t : List am_V} (h : sx_rl e (.inr (.inl x) :: r) t) : ∃ a s, t = .inr (.inl a) :: s ∧ sx_rn e x a ∧ sx_rl e r s := by
  obtain ⟨w, s, rfl, h1, h2⟩ := sx_rl_cons h
  obtain ⟨a, rfl, h3⟩ := sx_rv_l h1
  exact ⟨a, s, rfl, h3, h2⟩
theorem sx_rl_cr {p : Nat} {r : List sx_V} {t : List am_V} (h : sx_rl e (.inr (.inr p) :: r) t) : ∃ s, t = .inr (.inr p) :: s ∧ sx_rl e r s := by
  obtain ⟨w, s, rfl, h1, h2⟩ := sx_rl_cons h
  rw [sx_rv_r h1]
  exact ⟨s, rfl, h2⟩
theorem sx_rl_len : ∀ {r : List sx_V} {t : List am_V}, sx_rl e r t → t.length = r.length
  | [], t, h => by rw [sx_rl_nil h]; rfl
  | v :: r, t, h => by
    obtain ⟨w, s, rfl, -, h2⟩ := sx_rl_cons h
    rw [List.length_cons, List.length_cons, sx_rl_len h2]
theorem sx_rl_app : ∀ {r r2 : List sx_V} {t t2 : List am_V}, sx_rl e r t → sx_rl e r2 t2 → sx_rl e (r ++ r2) (t ++ t2)
  | [], _, t, _, h, h2 => by rw [sx_rl_nil h]; exact h2
  | v :: r, _, t, _, h, h2 => by
    obtain ⟨w, s, rfl, h1, h3⟩ := sx_rl_cons h
    exact ⟨h1, sx_rl_app h3 h2⟩
theorem sx_rl_take : ∀ (n : Nat) {r : List sx_V} {t : List am_V}, sx_rl e r t → sx_rl e (r.take n) (t.take n)
  | 0, r, t, _ => by
    rw [List.take_zero, List.take_zero]; exact trivial
  | n + 1, [], t, h => by rw [sx_rl_nil h]; exact trivial
  | n + 1, v :: r, t, h => by
    obtain ⟨w, s, rfl, h1, h3⟩ := sx_rl_cons h
    exact ⟨h1, sx_rl_take n h3⟩
theorem sx_rl_drop : ∀ (n : Nat) {r : List sx_V} {t : List am_V}, sx_rl e r t → sx_rl e (r.drop n) (t.drop n)
  | 0, r, t, h => h
  | n + 1, [], t, h => by rw [sx_rl_nil h]; exact trivial
  | n + 1, v :: r, t, h => by
    obtain ⟨w, s, rfl, h1, h3⟩ := sx_rl_cons h
    exact sx_rl_drop n h3
theorem sx_rl_rev : ∀ {r : List sx_V} {t : List am_V}, sx_rl e r t → sx_rl e r.reverse t.reverse
  | [], t, h => by rw [sx_rl_nil h]; exact trivial
  | v :: r, t, h => by
    obtain ⟨w, s, rfl, h1, h3⟩ := sx_rl_cons h
    rw [List.reverse_cons, List.reverse_cons]
    exact sx_rl_app (sx_rl_rev h3) ⟨h1, trivial⟩
def sx_cats (st : List sx_V) : Nat := (st.map sx_cat).sum
theorem sx_rl_cats : ∀ {r : List sx_V} {t : List am_V}, sx_rl e r t → am_cats t = sx_cats r
  | [], t, h => by rw [sx_rl_nil h]; rfl
  | v :: r, t, h => by
    obtain ⟨w, s, rfl, h1, h3⟩ := sx_rl_cons h
    have := sx_rl_cats h3
    unfold am_cats sx_cats at this ⊢
    rw [List.map_cons, List.map_cons, List.sum_cons, List.sum_cons, this, sx_rv_cat h1]
end SXV
/-! what works on the stack alone -/
def sx_ii (f : Int → Int → Int) (g : sx_N → sx_N → sx_N) : List sx_V → Option (List sx_V)
  | .inl y :: .inl x :: r => some (.inl (sx_k2 f g x y) :: r)
  | _ => none
def sx_ll (f : Int → Int → Int) (g : sx_N → sx_N → sx_N) : List sx_V → Option (List sx_V)
  | .inr (.inl y) :: .inr (.inl x) :: r => some (.inr (.inl (sx_k2 f g x y)) :: r)
  | _ => none
def sx_li (f : Int → Int → Int) : List sx_V → Option (List sx_V)
  | .inl y :: .inr (.inl x) :: r => some (.inr (.inl (sx_k2 f sx_g0 x y)) :: r)
  | _ => none
section SXA
variable {e : sx_E} {f f' : Int → Int → Int} {g : sx_N → sx_N → sx_N} {st st' : List sx_V} {t : List am_V}
theorem sx_ii_ok (hf : ∀ a b, f a b = f' a b) (hg : ∀ x y a b, sx_rn e x a → sx_rn e y b → sx_rn e (g x y) (f' a b)) (h : sx_ii f g st = some st') (r : sx_rl e st t) : ∃ t', am_ii f' t = some t' ∧ sx_rl e st' t' := by
  unfold sx_ii at h
  split at h
  · cases h
    obtain ⟨b, t, rfl, h1, r⟩ := sx_rl_ci r
    obtain ⟨a, t, rfl, h2, r⟩ := sx_rl_ci r
    exact ⟨_, rfl, sx_k2_ok hf hg h2 h1, r⟩
  · cases h
theorem sx_ll_ok (hf : ∀ a b, f a b = f' a b) (hg : ∀ x y a b, sx_rn e x a → sx_rn e y b → sx_rn e (g x y) (f' a b)) (h : sx_ll f g st = some st') (r : sx_rl e st t) : ∃ t', am_ll f' t = some t' ∧ sx_rl e st' t' := by
  unfold sx_ll at h
  split at h
  · cases h
    obtain ⟨b, t, rfl, h1, r⟩ := sx_rl_cl r
    obtain ⟨a, t, rfl, h2, r⟩ := sx_rl_cl r
    exact ⟨_, rfl, sx_k2_ok hf hg h2 h1, r⟩
  · cases h
theorem sx_li_ok (h : sx_li f st = some st') (r : sx_rl e st t) : ∃ t', am_li f t = some t' ∧ sx_rl e st' t' := by
  unfold sx_li at h
  split at h
  · cases h
    obtain ⟨b, t, rfl, h1, r⟩ := sx_rl_ci r
    obtain ⟨a, t, rfl, h2, r⟩ := sx_rl_cl r
    exact ⟨_, rfl, sx_k2_ok (fun _ _ => rfl) (fun _ _ _ _ _ _ => sx_rn_any) h2 h1, r⟩
  · cases h
end SXA
def sx_alu (B : sx_B) (ins : Instr) (st : List sx_V) : Option (List sx_V) := match ins with
  | .iconst n => if -1 ≤ n ∧ n ≤ 5 then some (.inl (.inl n) :: st) else none
  | .bipush n => if -128 ≤ n ∧ n ≤ 127 then some (.inl (.inl n) :: st) else none
  | .sipush n => if -32768 ≤ n ∧ n ≤ 32767 then some (.inl (.inl n) :: st) else none
  | .lconst n => some (.inr (.inl (.inl (n.val : Int))) :: st)
  | .iadd => sx_ii (fun a b => sx_w32 (a + b)) (sx_gop B 2147483648 sx_ladd) st
  | .isub => sx_ii (fun a b => sx_w32 (a - b)) (sx_gop B 2147483648 sx_lsub) st
  | .imul => sx_ii (fun a b => sx_w32 (a * b)) (sx_gmul B 2147483648) st
  | .iand => sx_ii (fun a b => (Int32.ofInt a &&& Int32.ofInt b).toInt) sx_g0 st
  | .ior => sx_ii (fun a b => (Int32.ofInt a ||| Int32.ofInt b).toInt) sx_g0 st
  | .ishl => sx_ii (fun a b => (Int32.ofInt a <<< (Int32.ofInt b &&& 31)).toInt) sx_g0 st
  | .ishr => sx_ii (fun a b => (Int32.ofInt a >>> (Int32.ofInt b &&& 31)).toInt) sx_g0 st
  | .iushr => sx_ii (fun a b => ((Int32.ofInt a).toUInt32 >>> ((Int32.ofInt b).toUInt32 &&& Int32.toUInt32 31)).toInt32.toInt) sx_g0 st
  | .idiv => (match st with
    | .inl (.inl b) :: .inl (.inl a) :: r => if b = 0 then none else some (.inl (.inl (am_w32 (Int.tdiv a b))) :: r)
    | _ => none)
  | .irem => (match st with
    | .inl (.inl b) :: .inl (.inl a) :: r => if b = 0 then none else some (.inl (.inl (Int.tmod a b)) :: r)
    | _ => none)
  | .ineg => (match st with
    | .inl (.inl a) :: r => some (.inl (.inl (am_w32 (-a))) :: r)
    | _ => none)
  | .ladd => sx_ll (fun a b => sx_w64 (a + b)) (sx_gop B 9223372036854775808 sx_ladd) st
  | .lsub => sx_ll (fun a b => sx_w64 (a - b)) (sx_gop B 9223372036854775808 sx_lsub) st
  | .lmul => sx_ll (fun a b => sx_w64 (a * b)) (sx_gmul B 9223372036854775808) st
  | .land => sx_ll (fun a b => (Int64.ofInt a &&& Int64.ofInt b).toInt) sx_gand st
  | .lor => sx_ll (fun a b => (Int64.ofInt a ||| Int64.ofInt b).toInt) sx_g0 st
  | .lxor => sx_ll (fun a b => (Int64.ofInt a ^^^ Int64.ofInt b).toInt) (sx_gxor B) st
  | .lshl => sx_li (fun a b => (Int64.ofInt a <<< ((Int32.ofInt b).toInt64 &&& 63)).toInt) st
  | .lshr => sx_li (fun a b => (Int64.ofInt a >>> ((Int32.ofInt b).toInt64 &&& 63)).toInt) st
  | .lushr => sx_li (fun a b => ((Int64.ofInt a).toUInt64 >>> ((Int32.ofInt b).toInt64.toUInt64 &&& Int64.toUInt64 63)).toInt64.toInt) st
  | .ldiv => (match st with
    | .inr (.inl (.inl b)) :: .inr (.inl (.inl a)) :: r => if b = 0 then none else some (.inr (.inl (.inl (am_w64 (Int.tdiv a b)))) :: r)
    | _ => none)
  | .lcmp => (match st with
    | .inr (.inl y) :: .inr (.inl x) :: r => some (.inl (sx_k2 sx_lsg (sx_gcmp B) x y) :: r)
    | _ => none)
  | .i2l => (match st with
    | .inl x :: r => some (.inr (.inl x) :: r)
    | _ => none)
  | .l2i => (match st with
    | .inr (.inl x) :: r => some (.inl (match x with
      | .inl a => .inl (sx_w32 a)
      | x => (match sx_lin x with
        | some l => sx_fit B 2147483648 l
        | none => sx_any)) :: r)
    | _ => none)
  | .i2b => (match st with
    | .inl (.inl a) :: r => some (.inl (.inl (am_w8 a)) :: r)
    | _ => none)
  | .i2c => (match st with
    | .inl (.inl a) :: r => some (.inl (.inl ((Int32.ofInt a).toUInt32 % 65536).toInt32.toInt) :: r)
    | _ => none)
  | .dup => (match st with
    | v :: r => bif Nat.beq (sx_cat v) 1 then some (v :: v :: r) else none
    | _ => none)
  | .pop => (match st with
    | v :: r => bif Nat.beq (sx_cat v) 1 then some r else none
    | _ => none)
  | .dup_x1 => (match st with
    | v :: w :: r => bif Nat.beq (sx_cat v) 1 && Nat.beq (sx_cat w) 1 then some (v :: w :: v :: r) else none
    | _ => none)
  | .dup_x2 => (match st with
    | v :: w :: u :: r => bif Nat.beq (sx_cat v) 1 && (Nat.beq (sx_cat w) 1 && Nat.beq (sx_cat u) 1) then some (v :: w :: u :: v :: r) else none
    | _ => none)
  | .dup2 => (match st with
    | v :: r => bif Nat.beq (sx_cat v) 2 then some (v :: v :: r) else (match r with
      | w :: r2 => bif Nat.beq (sx_cat w) 1 then some (v :: w :: v :: w :: r2) else none
      | _ => none)
    | _ => none)
  | _ => none
theorem sx_ifb {α : Type} {p : Bool} {s t : Option α} {r : α} (q : (bif p then s else t) = some r) : (p = true ∧ s = some r) ∨ (p = false ∧ t = some r) := by
  cases p
  · exact Or.inr ⟨rfl, q⟩
  · exact Or.inl ⟨rfl, q⟩
theorem sx_ifs {α : Type} {p : Bool} {s : Option α} {r : α} (q : (bif p then s else none) = some r) : p = true ∧ s = some r := by
  cases p
  · cases q
  · exact ⟨rfl, q⟩
theorem sx_alu_ok {B : sx_B} {e : sx_E} (hB : sx_inB B e) {ins : Instr} {st st' : List sx_V} {t : List am_V} (h : sx_alu B ins st = some st') (r : sx_rl e st t) : ∃ t', am_alu ins t = some t' ∧ sx_rl e st' t' := by
  have any2 : ∀ {f' : Int → Int → Int}, ∀ x y a b, sx_rn e x a → sx_rn e y b → sx_rn e (sx_g0 x y) (f' a b) := fun _ _ _ _ _ _ => sx_rn_any
  unfold sx_alu at h
  split at h
  · split at h
    · rename_i hc; cases h; exact ⟨_, if_pos hc, rfl, r⟩
    · cases h
  · split at h
    · rename_i hc; cases h; exact ⟨_, if_pos hc, rfl, r⟩
    · cases h
  · split at h
    · rename_i hc; cases h; exact ⟨_, if_pos hc, rfl, r⟩
    · cases h
  · cases h; exact ⟨_, rfl, rfl, r⟩
  · exact sx_ii_ok (fun _ _ => sx_w32_eq _) (sx_gop_ok hB (fun z h1 h2 => am_w32_id h1 h2) (f := fun a b => a + b) (sx_ev_add e)) h r
  · exact sx_ii_ok (fun _ _ => sx_w32_eq _) (sx_gop_ok hB (fun z h1 h2 => am_w32_id h1 h2) (f := fun a b => a - b) (sx_ev_sub e)) h r
  · exact sx_ii_ok (fun _ _ => sx_w32_eq _) (sx_gmul_ok hB (fun z h1 h2 => am_w32_id h1 h2)) h r
  · exact sx_ii_ok (fun _ _ => rfl) any2 h r
  · exact sx_ii_ok (fun _ _ => rfl) any2 h r
  · exact sx_ii_ok (fun _ _ => rfl) any2 h r
  · exact sx_ii_ok (fun _ _ => rfl) any2 h r
  · exact sx_ii_ok (fun _ _ => rfl) any2 h r
  · split at h
    · split at h
      · cases h
      · rename_i hc
        cases h
        obtain ⟨b, t1, rfl, h1, r1⟩ := sx_rl_ci r
        obtain ⟨a, t2, rfl, h2, r2⟩ := sx_rl_ci r1
        cases h1; cases h2
        exact ⟨_, if_neg hc, rfl, r2⟩
    · cases h
  · split at h
    · split at h
      · cases h
      · rename_i hc
        cases h
        obtain ⟨b, t1, rfl, h1, r1⟩ := sx_rl_ci r
        obtain ⟨a, t2, rfl, h2, r2⟩ := sx_rl_ci r1
        cases h1; cases h2
        exact ⟨_, if_neg hc, rfl, r2⟩
    · cases h
  · split at h
    · cases h
      obtain ⟨b, t1, rfl, h1, r1⟩ := sx_rl_ci r
      cases h1
      exact ⟨_, rfl, rfl, r1⟩
    · cases h
  · exact sx_ll_ok (fun _ _ => sx_w64_eq _) (sx_gop_ok hB (fun z h1 h2 => am_w64_id h1 h2) (f := fun a b => a + b) (sx_ev_add e)) h r
  · exact sx_ll_ok (fun _ _ => sx_w64_eq _) (sx_gop_ok hB (fun z h1 h2 => am_w64_id h1 h2) (f := fun a b => a - b) (sx_ev_sub e)) h r
  · exact sx_ll_ok (fun _ _ => sx_w64_eq _) (sx_gmul_ok hB (fun z h1 h2 => am_w64_id h1 h2)) h r
  · exact sx_ll_ok (fun _ _ => rfl) (sx_gand_ok) h r
  · exact sx_ll_ok (fun _ _ => rfl) any2 h r
  · exact sx_ll_ok (fun _ _ => rfl) (sx_gxor_ok hB) h r
  · exact sx_li_ok h r
  · exact sx_li_ok h r
  · exact sx_li_ok h r
  · split at h
    · split at h
      · cases h
      · rename_i hc
        cases h
        obtain ⟨b, t1, rfl, h1, r1⟩ := sx_rl_cl r
        obtain ⟨a, t2, rfl, h2, r2⟩ := sx_rl_cl r1
        cases h1; cases h2
        exact ⟨_, if_neg hc, rfl, r2⟩
    · cases h
  · split at h
    · cases h
      obtain ⟨b, t, rfl, h1, r⟩ := sx_rl_cl r
      obtain ⟨a, t, rfl, h2, r⟩ := sx_rl_cl r
      exact ⟨_, rfl, sx_k2_ok sx_lsg_eq (sx_gcmp_ok hB) h2 h1, r⟩
    · cases h
  · split at h
    · cases h
      obtain ⟨b, t, rfl, h1, r⟩ := sx_rl_ci r
      exact ⟨_, rfl, h1, r⟩
    · cases h
  · split at h
    · rename_i x q
      cases h
      obtain ⟨b, t, rfl, h1, r⟩ := sx_rl_cl r
      refine ⟨_, rfl, ?_, r⟩
      show sx_rn e _ (am_w32 b)
      split
      · cases h1
        exact (sx_w32_eq _).symm
      · split
        · rename_i l hl
          rw [sx_lin_ok hl h1]
          exact sx_fit_ok hB (fun z h1 h2 => am_w32_id h1 h2)
        · exact sx_rn_any
    · cases h
  · split at h
    · cases h
      obtain ⟨b, t1, rfl, h1, r1⟩ := sx_rl_ci r
      cases h1
      exact ⟨_, rfl, rfl, r1⟩
    · cases h
  · split at h
    · cases h
      obtain ⟨b, t1, rfl, h1, r1⟩ := sx_rl_ci r
      cases h1
      exact ⟨_, rfl, rfl, r1⟩
    · cases h
  · split at h
    · obtain ⟨hc, h⟩ := sx_ifs h
      cases h
      obtain ⟨w, t, rfl, h1, r⟩ := sx_rl_cons r
      exact ⟨_, if_pos (by rw [sx_rv_cat h1]; exact Nat.eq_of_beq_eq_true hc), h1, h1, r⟩
    · cases h
  · split at h
    · obtain ⟨hc, h⟩ := sx_ifs h
      cases h
      obtain ⟨w, t, rfl, h1, r⟩ := sx_rl_cons r
      exact ⟨_, if_pos (by rw [sx_rv_cat h1]; exact Nat.eq_of_beq_eq_true hc), r⟩
    · cases h
  · split at h
    · obtain ⟨hc, h⟩ := sx_ifs h
      cases h
      obtain ⟨w, t, rfl, h1, r⟩ := sx_rl_cons r
      obtain ⟨w2, t, rfl, h2, r⟩ := sx_rl_cons r
      rw [Bool.and_eq_true] at hc
      exact ⟨_, if_pos ⟨by rw [sx_rv_cat h1]; exact Nat.eq_of_beq_eq_true hc.1, by rw [sx_rv_cat h2]; exact Nat.eq_of_beq_eq_true hc.2⟩, h1, h2, h1, r⟩
    · cases h
  · split at h
    · obtain ⟨hc, h⟩ := sx_ifs h
      cases h
      obtain ⟨w, t, rfl, h1, r⟩ := sx_rl_cons r
      obtain ⟨w2, t, rfl, h2, r⟩ := sx_rl_cons r
      obtain ⟨w3, t, rfl, h3, r⟩ := sx_rl_cons r
      rw [Bool.and_eq_true, Bool.and_eq_true] at hc
      exact ⟨_, if_pos ⟨by rw [sx_rv_cat h1]; exact Nat.eq_of_beq_eq_true hc.1, by rw [sx_rv_cat h2]; exact Nat.eq_of_beq_eq_true hc.2.1, by rw [sx_rv_cat h3]; exact Nat.eq_of_beq_eq_true hc.2.2⟩, h1, h2, h3, h1, r⟩
    · cases h
  · split at h
    · rename_i v r0
      obtain ⟨w, t, rfl, h1, r⟩ := sx_rl_cons r
      rcases sx_ifb h with ⟨hc, h⟩ | ⟨hc, h⟩
      · cases h
        exact ⟨_, if_pos (by rw [sx_rv_cat h1]; exact Nat.eq_of_beq_eq_true hc), h1, h1, r⟩
      · have hn : ¬ am_cat w = 2 := by
          rw [sx_rv_cat h1]
          intro q
          rw [q] at hc
          cases hc
        split at h
        · obtain ⟨hc2, h⟩ := sx_ifs h
          cases h
          obtain ⟨w2, t, rfl, h2, r⟩ := sx_rl_cons r
          exact ⟨_, (if_neg hn).trans (if_pos (by rw [sx_rv_cat h2]; exact Nat.eq_of_beq_eq_true hc2)), h1, h2, h1, h2, r⟩
        · cases h
    · cases h
  · cases h
